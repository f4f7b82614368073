/-! acts of another form -/
theorem lw_chr (x : Int32) : ∃ ch : Nat, ch < 65536 ∧ (x.toUInt32 % 65536).toInt32 = nI ch := ⟨_, Nat.mod_lt _ (by decide), pk_char x⟩
theorem lI_pad {n : Nat} {h : Nat → zSt} {kp nx st pn : Nat} {re er ra rb : Int32} {sz sc sg vz vc vg pd be ka : Nat → Nat} {pn2 : Nat} {pd2 : Nat → Nat} (h1 : pn2 ≤ 60) (h2 : ∀ j, pd2 j < 65536) (H : lI n h kp nx st pn re er ra rb sz sc sg vz vc vg pd be ka) : lI (n + 1) h kp nx st pn2 re er ra rb sz sc sg vz vc vg pd2 be ka :=
  ⟨H.1, H.2.1, ⟨⟨H.2.2.1.1.1, H.2.2.1.1.2.1, Nat.le_succ_of_le H.2.2.1.1.2.2⟩, H.2.2.1.2⟩, ⟨h1, h2⟩, H.2.2.2.2⟩
theorem lI_ref {n : Nat} {h : Nat → zSt} {kp nx st pn : Nat} {re er ra rb : Int32} {sz sc sg vz vc vg pd be ka : Nat → Nat} {x y : Int32} (h0 : ¬ y = 0) (H : lI n h kp nx st pn re er ra rb sz sc sg vz vc vg pd be ka) : lI (n + 1) h kp nx st pn x y x y sz sc sg vz vc vg pd be ka :=
  ⟨H.1, H.2.1, ⟨⟨H.2.2.1.1.1, H.2.2.1.1.2.1, Nat.le_succ_of_le H.2.2.1.1.2.2⟩, H.2.2.1.2⟩, H.2.2.2.1, Or.inr ⟨h0, rfl, rfl⟩⟩
theorem eq_type {pn ch : Nat} {pd : Nat → Nat} {r1 r2 : Int32} {u w : Nat × (Nat → Nat)} (hpn : pn ≤ 60) (hch : ch < 65536) (h1 : (pn = 60 ∧ r1 = (-3) ∧ u = (pn, pd)) ∨ (pn < 60 ∧ r1 = nI (pn + 1) ∧ u = (pn + 1, arU pd pn ch))) (h2 : (pn = 60 ∧ r2 = (-3) ∧ w = (pn, pd)) ∨ (pn < 60 ∧ r2 = nI (pn + 1) ∧ w = (pn + 1, arU pd pn ch))) : r1 = r2 ∧ w = u ∧ u.1 ≤ 60 ∧ ((∀ j, pd j < 65536) → ∀ j, u.2 j < 65536) := by
  rcases h1 with ⟨a, rfl, rfl⟩ | ⟨a, rfl, rfl⟩
  · rcases h2 with ⟨c, rfl, rfl⟩ | ⟨c, rfl, rfl⟩
    · exact ⟨rfl, rfl, hpn, fun q => q⟩
    · omega
  · rcases h2 with ⟨c, rfl, rfl⟩ | ⟨c, rfl, rfl⟩
    · omega
    · refine ⟨rfl, rfl, a, fun q j => ?_⟩
      show arU pd pn ch j < 65536
      unfold arU
      by_cases e : j = pn
      · rw [if_pos e]; exact hch
      · rw [if_neg e]; exact q j
theorem eq_undo {a0 nx st : Nat} {hq sg be : Nat → Nat} {r1 r2 : Int32} {u : Nat × Nat × Nat × (Nat → Nat)} {w : Nat × (Nat → Nat) × (Nat → Nat)} (h1 : (st = 0 ∧ r1 = (-5) ∧ u = (a0, nx, st, hq)) ∨ (0 < st ∧ r1 = nI (st - 1) ∧ u = (hq ((nx - 1) &&& 3), nx - 1, st - 1, arU hq ((nx - 1) &&& 3) a0))) (h2 : (st = 0 ∧ r2 = (-5) ∧ w = (st, sg, be)) ∨ (0 < st ∧ r2 = nI (st - 1) ∧ w = (st - 1, cpF sg be 0 (618 * (st - 1)) 618, be))) : r1 = r2 ∧ ((u = (a0, nx, st, hq) ∧ w = (st, sg, be)) ∨ (0 < st ∧ u = (hq ((nx - 1) &&& 3), nx - 1, st - 1, arU hq ((nx - 1) &&& 3) a0) ∧ w = (st - 1, cpF sg be 0 (618 * (st - 1)) 618, be))) := by
  rcases h1 with ⟨a, rfl, rfl⟩ | ⟨a, rfl, rfl⟩
  · rcases h2 with ⟨c, rfl, rfl⟩ | ⟨c, rfl, rfl⟩
    · exact ⟨rfl, Or.inl ⟨rfl, rfl⟩⟩
    · omega
  · rcases h2 with ⟨c, rfl, rfl⟩ | ⟨c, rfl, rfl⟩
    · omega
    · exact ⟨rfl, Or.inr ⟨a, rfl, rfl⟩⟩
theorem eq_restore {n : Nat} {h : Nat → zSt} {kp nx st pn : Nat} {re er ra rb : Int32} {sz sc sg vz vc vg pd be ka : Nat → Nat} {a0 t0 : Nat} {hq ug uz uc : Nat → Nat} {r1 r2 : Int32} {u : (Nat → Nat) × (Nat → Nat) × (Nat → Nat) × Nat × Nat × Nat × Nat × (Nat → Nat)} {w : Nat × (Nat → Nat) × (Nat → Nat)} (hI : lI n h kp nx st pn re er ra rb sz sc sg vz vc vg pd be ka) (h1 : (kp = 0 ∧ r1 = (-5) ∧ u = (ug, uz, uc, a0, t0, nx, st, hq)) ∨ (∃ (zZ : Nat → Nat) (cC : Nat → Nat), 0 < kp ∧ sRel zZ cC vg ∧ r1 = nI (sumN (szF vg) 8) ∧ u = (vg, zZ, cC, t0, hq (nx &&& 3), nx + 1, min (st + 1) 4, arU hq (nx &&& 3) a0))) (h2 : (kp = 0 ∧ r2 = (-5) ∧ w = (st, sg, be)) ∨ (0 < kp ∧ r2 = nI (sumN (szF (cpF sg ka 0 0 618)) 8) ∧ w = (knK st, cpF sg ka 0 0 618, knB st be sg))) : r1 = r2 ∧ ((u = (ug, uz, uc, a0, t0, nx, st, hq) ∧ w = (st, sg, be)) ∨ (0 < kp ∧ ∃ z2 c2 : Nat → Nat, sRel z2 c2 vg ∧ u = (vg, z2, c2, t0, hq (nx &&& 3), nx + 1, min (st + 1) 4, arU hq (nx &&& 3) a0) ∧ w = (knK st, cpF sg ka 0 0 618, knB st be sg))) := by
  rcases h1 with ⟨a, rfl, rfl⟩ | ⟨z2, c2, a, hR2, rfl, rfl⟩
  · rcases h2 with ⟨c, rfl, rfl⟩ | ⟨c, rfl, rfl⟩
    · exact ⟨rfl, Or.inl ⟨rfl, rfl⟩⟩
    · omega
  · rcases h2 with ⟨c, rfl, rfl⟩ | ⟨c, rfl, rfl⟩
    · omega
    · exact ⟨congrArg nI (lI_restore a hR2 hI).2.2.2.symm, Or.inr ⟨a, z2, c2, hR2, rfl, rfl⟩⟩
theorem eq_readEntries {a0 t0 nx st pn : Nat} {re er ra rb : Int32} {hq sg be pd ug uz uc : Nat → Nat} {Dd : Int32 × Nat × (Nat → Nat)} {r1 r2 : Int32} {u : (Nat → Nat) × (Nat → Nat) × (Nat → Nat) × Nat × Nat × Nat × Nat × Int32 × Int32 × (Nat → Nat) × Nat × Nat × Int32 × Int32 × Int32 × Int32 × Int32 × Int32} {w : Nat × Int32 × Int32 × Nat × Nat × Int32 × (Nat → Nat) × (Nat → Nat) × (Nat → Nat) × (Nat → Nat)} (hMD : mOK Dd.2.2) (h1 : (∃ (yX : Nat) (qX : Nat) (icX : Nat) (exX : Int32) (txX : Int32) (woX : Int32) (seX : Int32) (loX : Int32) (faX : Int32), padF pd pn 61 0 = some yX ∧ r1 = (-100) - nI yX ∧ u = (ug, uz, uc, a0, t0, nx, st, re, er, hq, qX, icX, exX, txX, woX, seX, loX, faX)) ∨ (∃ (qX : Nat) (icX : Nat) (exX : Int32) (txX : Int32) (woX : Int32) (seX : Int32) (loX : Int32) (faX : Int32) (gU : Nat → Nat) (zU : Nat → Nat) (cU : Nat → Nat), padF pd pn 61 0 = none ∧ ¬ Dd.1 = 0 ∧ r1 = (-4) ∧ u = (gU, zU, cU, a0, t0, nx, st, nI Dd.2.1, Dd.1, hq, qX, icX, exX, txX, woX, seX, loX, faX)) ∨ (∃ (qX : Nat) (icX : Nat) (exX : Int32) (txX : Int32) (woX : Int32) (seX : Int32) (loX : Int32) (faX : Int32) (zZ : Nat → Nat) (cC : Nat → Nat), padF pd pn 61 0 = none ∧ Dd.1 = 0 ∧ sRel zZ cC Dd.2.2 ∧ r1 = nI Dd.2.1 ∧ u = (Dd.2.2, zZ, cC, t0, hq (nx &&& 3), nx + 1, min (st + 1) 4, re, er, arU hq (nx &&& 3) a0, qX, icX, exX, txX, woX, seX, loX, faX))) (h2 : (∃ (qX : Nat) (rX : Nat) (flX : Int32) (alX : Nat → Nat) (tdX : Nat → Nat), padF pd pn 61 0 = some qX ∧ r2 = (-100) - nI qX ∧ w = (st, ra, rb, rX, 1, flX, sg, alX, be, tdX)) ∨ (∃ (rX : Nat) (flX : Int32) (alX : Nat → Nat) (tdX : Nat → Nat), padF pd pn 61 0 = none ∧ ¬ Dd.1 = 0 ∧ r2 = (-4) ∧ w = (st, nI Dd.2.1, Dd.1, rX, 0, flX, sg, alX, be, tdX)) ∨ (∃ (rX : Nat) (flX : Int32) (alX : Nat → Nat) (tdX : Nat → Nat), padF pd pn 61 0 = none ∧ Dd.1 = 0 ∧ r2 = nI (Dd.2.1) ∧ w = (knK st, ra, rb, rX, 0, flX, Dd.2.2, alX, knB st be sg, tdX))) : r1 = r2 ∧ ((∃ (q ic : Nat) (ex tx wo se lo fa : Int32) (rd : Nat) (iw : Nat) (fl : Int32) (al td : Nat → Nat), u = (ug, uz, uc, a0, t0, nx, st, re, er, hq, q, ic, ex, tx, wo, se, lo, fa) ∧ w = (st, ra, rb, rd, iw, fl, sg, al, be, td)) ∨ (¬ Dd.1 = 0 ∧ ∃ (gU zU cU : Nat → Nat) (q ic : Nat) (ex tx wo se lo fa : Int32) (rd : Nat) (iw : Nat) (fl : Int32) (al td : Nat → Nat), u = (gU, zU, cU, a0, t0, nx, st, nI Dd.2.1, Dd.1, hq, q, ic, ex, tx, wo, se, lo, fa) ∧ w = (st, nI Dd.2.1, Dd.1, rd, iw, fl, sg, al, be, td)) ∨ (∃ (g2 z2 c2 : Nat → Nat), mOK g2 ∧ sRel z2 c2 g2 ∧ ∃ (q ic : Nat) (ex tx wo se lo fa : Int32) (rd : Nat) (iw : Nat) (fl : Int32) (al td : Nat → Nat), u = (g2, z2, c2, t0, hq (nx &&& 3), nx + 1, min (st + 1) 4, re, er, arU hq (nx &&& 3) a0, q, ic, ex, tx, wo, se, lo, fa) ∧ w = (knK st, ra, rb, rd, iw, fl, g2, al, knB st be sg, td))) := by
  rcases h1 with ⟨y, q, ic, ex, tx, wo, se, lo, fa, a, rfl, rfl⟩ | ⟨q, ic, ex, tx, wo, se, lo, fa, gU, zU, cU, a, a2, rfl, rfl⟩ | ⟨q, ic, ex, tx, wo, se, lo, fa, zZ, cC, a, a2, a3, rfl, rfl⟩
  · rcases h2 with ⟨y2, rd, fl, al, td, c, rfl, rfl⟩ | ⟨rd, fl, al, td, c, c2, rfl, rfl⟩ | ⟨rd, fl, al, td, c, c2, rfl, rfl⟩
    · have e := Option.some.inj (a.symm.trans c)
      subst e
      exact ⟨rfl, Or.inl ⟨q, ic, ex, tx, wo, se, lo, fa, rd, 1, fl, al, td, rfl, rfl⟩⟩
    · rw [a] at c; cases c
    · rw [a] at c; cases c
  · rcases h2 with ⟨y2, rd, fl, al, td, c, rfl, rfl⟩ | ⟨rd, fl, al, td, c, c2, rfl, rfl⟩ | ⟨rd, fl, al, td, c, c2, rfl, rfl⟩
    · rw [a] at c; cases c
    · exact ⟨rfl, Or.inr (Or.inl ⟨a2, gU, zU, cU, q, ic, ex, tx, wo, se, lo, fa, rd, 0, fl, al, td, rfl, rfl⟩)⟩
    · exact absurd c2 a2
  · rcases h2 with ⟨y2, rd, fl, al, td, c, rfl, rfl⟩ | ⟨rd, fl, al, td, c, c2, rfl, rfl⟩ | ⟨rd, fl, al, td, c, c2, rfl, rfl⟩
    · rw [a] at c; cases c
    · exact absurd a2 c2
    · exact ⟨rfl, Or.inr (Or.inr ⟨Dd.2.2, zZ, cC, hMD, a3, q, ic, ex, tx, wo, se, lo, fa, rd, 0, fl, al, td, rfl, rfl⟩)⟩
