/** Promises 6, 7, 13 and 14: entries of the pad, refusals, and the pad itself. */
final class EntriesTest {
    private EntriesTest() {
    }

    static void run() {
        faultsOfTexts();
        faultsOfCaptions();
        faultsBetweenEntries();
        entriesAreDone();
        entriesAreOneAct();
        refusedEntries();
        pad();
    }

    /** Promise 6. */
    private static void faultsOfTexts() {
        Check.due("an empty pad", new Carousel().readEntries(), -100);
        String whole = "7:300/50/299=acp";
        for (int length = 0; length <= 12; length++) {
            Check.fault(whole.substring(0, length), length);
        }
        Check.fault("8:1/1/0=a", 0);
        Check.fault("a", 0);
        Check.fault(";", 0);
        Check.fault(" 0:1/1/0=a", 0);
        Check.fault("00:1/1/0=a", 1);
        Check.fault("0;1/1/0=a", 1);
        Check.fault("0:/1/0=a", 2);
        Check.fault("0:-1/1/0=a", 2);
        Check.fault("0:01/1/0=a", 3);
        Check.fault("0:00/1/0=a", 3);
        Check.fault("0:1000/1/0=a", 5);
        Check.fault("0:1=1/0=a", 3);
        Check.fault("0:1//0=a", 4);
        Check.fault("0:1/01/0=a", 5);
        Check.fault("0:1/9999/0=a", 7);
        Check.fault("0:1/1/=a", 6);
        Check.fault("0:1/1/00=a", 7);
        Check.fault("0:1/1/1234=a", 9);
        Check.fault("0:1/1/0:a", 7);
        Check.fault("0:1/1/0=", 8);
        Check.fault("0:1/1/0=;", 8);
        Check.fault("0:1/1/0=q", 8);
        Check.fault("0:1/1/0=A", 8);
        Check.fault("0:1/1/0=`", 8);
        Check.fault("0:1/1/0=aa", 9);
        Check.fault("0:1/1/0=ba", 9);
        Check.fault("0:1/1/0=apo", 10);
        Check.fault("0:1/1/0=pq", 9);
        Check.fault("0:1/1/0=a ", 9);
        Check.fault("0:1/1/0=a" + (char) 0, 9);
        Check.fault("0" + (char) 65535, 1);
        Check.fault("0:1/1/0=a" + (char) 353, 9);
        Check.fault("" + (char) 1632, 0);
    }

    /** Promise 6. */
    private static void faultsOfCaptions() {
        String whole = "0.0+30=";
        for (int length = 0; length < whole.length(); length++) {
            Check.fault(whole.substring(0, length), length);
        }
        Check.fault("0.5+1=", 2);
        Check.fault("0.+1=", 2);
        Check.fault("0.00+1=", 3);
        Check.fault("0.10+1=", 3);
        Check.fault("0.0:1=", 3);
        Check.fault("0.0+0=", 4);
        Check.fault("0.0+01=", 4);
        Check.fault("0.0+=", 4);
        Check.fault("0.0+31=", 5);
        Check.fault("0.0+40=", 5);
        Check.fault("0.0+100=", 6);
        Check.fault("0.0+299=", 6);
        Check.fault("0.0+1/", 5);
        Check.fault("0.0+1=q", 6);
        Check.fault("0.0+1=cb", 7);
        Check.fault("0.0+1=bb", 7);
        Check.fault("8.0+1=", 0);
        Carousel x = new Carousel();
        x.addText(0, 10, 1, 0, 65535);
        Check.entries(x, "0.0+30=", 1);
        Check.entries(x, "0.0+29=abcdefghijklmnop", 1);
        Check.entries(x, "0.0+9=p", 1);
        Check.caption(x, 0, 0, 0, 30, 0, 0);
        Check.caption(x, 0, 0, 1, 29, 65535, 0);
        Check.caption(x, 0, 0, 2, 9, 32768, 0);
        Check.entries(x, "0:4/1/0=b;0:3/1/0=b;0:2/1/0=b;0:1/1/0=b;0.4+1=b;0.3+2=", 6);
        Check.caption(x, 0, 4, 0, 1, 2, 0);
        Check.caption(x, 0, 3, 0, 2, 0, 0);
    }

    /** Promise 6. */
    private static void faultsBetweenEntries() {
        Carousel x = new Carousel();
        Check.entries(x, "0:1/1/0=a;", -110);
        Check.entries(x, "0:1/1/0=a;;", -110);
        Check.entries(x, "0:1/1/0=a;8", -110);
        Check.entries(x, "0:1/1/0=a,0:1/1/0=a", -109);
        Check.entries(x, "0:1/1/0=a0:1/1/0=a", -109);
        Check.entries(x, "0:1/1/0=a;0.0+1=;", -117);
        Check.entries(x, "0:1/1/0=a;0.0+1=0", -116);
        Check.due("a fault is no refusal", x.refusal(0), -5);
        Check.counts(x, 0, 0, 0, 5, 0, 0, 0, 0, 0, 0, 17);
    }

    /** Promise 6. */
    private static void entriesAreDone() {
        Carousel x = new Carousel();
        Check.entries(x, "7:300/50/299=acp", 1);
        Check.text(x, 7, 0, 300, 50, 299, 32773, 36, 0, 0);
        Check.entries(x, "1:10/2/0=ab;1.0+12=b;1:9/3/9=p;1.1+7=", 4);
        Check.text(x, 1, 0, 10, 2, 0, 3, 6, 1, 0);
        Check.caption(x, 1, 0, 0, 12, 2, 0);
        Check.text(x, 1, 1, 9, 3, 9, 32768, 35, 1, 0);
        Check.caption(x, 1, 1, 0, 7, 0, 0);
        Check.due("the pad stays", x.count(10), 37);
        Check.due("once more", x.readEntries(), 4);
        Check.text(x, 1, 3, 9, 3, 9, 32768, 35, 0, 0);
        Check.text(x, 1, 0, 10, 2, 0, 3, 6, 2, 0);
        Check.caption(x, 1, 1, 1, 7, 0, 0);
        Check.due("the fifth has room, the sixth has none", x.readEntries(), -4);
        Check.counts(x, 5, 4, 0, 5, 0, 0, 0, 5, 4, 3);
        Carousel y = new Carousel();
        y.addText(0, 9, 1, 0, 1);
        y.addText(1, 9, 1, 0, 1);
        y.addText(2, 9, 1, 0, 1);
        Check.entries(y, "0.0+1=;0.0+2=;0.0+3=;1.0+4=;1.0+5=;1.0+6=;2.0+7=;2.0+8=a", 8);
        Check.caption(y, 2, 0, 1, 8, 1, 0);
        Check.counts(y, 3, 8, 0, 5, 0, 0, 0, 3, 1, 4);
    }

    /** Promise 6. */
    private static void entriesAreOneAct() {
        Carousel x = new Carousel();
        Check.entries(x, "0:1/1/0=a;0:1/1/0=b;0:1/1/0=c", 3);
        Check.due("one state", x.count(9), 1);
        Check.due("undo of all", x.undo(), 0);
        Check.due("no text", x.count(0), 0);
        Check.due("the pad is no part of a state", x.count(10), 29);
        Check.due("again", x.readEntries(), 3);
    }

    /** Promises 6 and 7. */
    private static void refusedEntries() {
        Carousel x = new Carousel();
        Check.due("what -1", x.refusal(-1), -2);
        Check.due("what 2", x.refusal(2), -2);
        Check.due("none yet", x.refusal(1), -5);
        refused(x, "0:0/1/0=a", 0, -2);
        refused(x, "0:301/1/0=a", 0, -2);
        refused(x, "0:1/0/0=a", 0, -2);
        refused(x, "0:100/51/0=a", 0, -2);
        refused(x, "0:5/6/0=a", 0, -2);
        refused(x, "0:5/5/6=a", 0, -2);
        refused(x, "0:5/5/5=a;1.0+1=a", 1, -1);
        refused(x, "0:5/5/5=a;0.1+1=a", 1, -1);
        refused(x, "0:5/5/5=a;0.0+1=a;0.0+1=ab;9", 1, -1);
        refused(x, "0:5/5/5=a;0.0+1=a;0.0+1=ab", 2, -4);
        refused(x, "0:5/5/5=a;0.0+1=;0.0+1=;0.0+1=;0.0+1=;0:0/0/0=a", 4, -3);
        Check.entries(x, "0:5/5/5=a;0:5/5/5=a;0:5/5/5=a", 3);
        refused(x, "1:5/5/5=a;0:5/5/5=a;0:5/5/5=a;0:5/5/5=a", 3, -3);
        Check.due("nothing of it was done", x.count(0), 3);
        Check.entries(x, "1:5/5/5=a", 1);
        Check.due("a refusal stays after entries that are done", x.refusal(0), 3);
        Check.entries(x, "1", -101);
        Check.due("and after a fault", x.refusal(1), -3);
        Check.due("what -1", x.refusal(-1), -2);
        Check.due("what 2", x.refusal(2), -2);
        x.keep();
        x.undo();
        x.undo();
        x.restore();
        x.addText(9, 1, 1, 1, 1);
        Check.due("it is no part of a state", x.refusal(0), 3);
        Check.due("it is no part of a state", x.refusal(1), -3);
    }

    /** A pad with "9" at its end has a fault, and so leaves the refusal that was. */
    private static void refused(Carousel x, String signs, int entry, int error) {
        int states = x.count(9);
        int texts = x.count(0);
        boolean faulty = signs.endsWith("9");
        Check.entries(x, signs, faulty ? -100 - (signs.length() - 1) : -4);
        Check.due("refusal(0) of " + signs, x.refusal(0), entry);
        Check.due("refusal(1) of " + signs, x.refusal(1), error);
        Check.due("no act: " + signs, x.count(9), states);
        Check.due("no text: " + signs, x.count(0), texts);
    }

    /** Promises 13 and 14. */
    private static void pad() {
        Carousel x = new Carousel();
        Check.due("clearPad of an empty pad", x.clearPad(), 0);
        for (int length = 1; length <= 60; length++) {
            Check.due("type", x.type((char) (length * 1000)), length);
        }
        Check.due("type at 60", x.type('0'), -3);
        Check.due("type at 60", x.type((char) 65535), -3);
        Check.due("count(10)", x.count(10), 60);
        Check.due("clearPad", x.clearPad(), 60);
        Check.due("count(10)", x.count(10), 0);
        Check.due("no act", x.count(9), 0);
        Check.type(x, "7:1/1/0=a;7:1/1/0=b;7:1/1/0=c;7:1/1/0=d;7.0+1=;7.0+1=;7.0+1a");
        Check.due("count(10)", x.count(10), 60);
        Check.due("a fault at the last of 60", x.readEntries(), -159);
        x.clearPad();
        Check.type(x, "7:1/1/0=a;7:1/1/0=b;7:1/1/0=c;7:1/1/0=d;7:1/1/0=abcdefghijkl");
        Check.due("a whole pad", x.readEntries(), 5);
        Check.due("its last text", x.text(7, 4, 3), 4095);
        x.clearPad();
        Check.due("an emptied pad ends too early", x.readEntries(), -100);
    }
}
