set_option maxRecDepth 100000 in
theorem mwc_know_0 : Cond.fieldLink RX3 55 "ExhibitTextsModel" "known" "I" ∈ wsX3_know := by decide +kernel
set_option maxRecDepth 100000 in
theorem mic_know_3 : ∀ w ∈ u_ws RX3 TX3 14, w ∈ wsX3_know := by decide +kernel
set_option maxRecDepth 100000 in
theorem mwc_know_2 : Cond.fieldLink RX3 16 "ExhibitTextsModel" "before" "[I" ∈ wsX3_know := by decide +kernel
set_option maxRecDepth 100000 in
theorem mwc_know_3 : Cond.fieldLink RX3 7 "ExhibitTextsModel" "s" "[I" ∈ wsX3_know := by decide +kernel
set_option maxHeartbeats 4000000 in
set_option maxRecDepth 100000 in
/-- X3_know: what was there is recorded; of five the oldest goes -/
theorem c_know (l : Launch) (G : zG) (b0 : Nat) (b1 : Nat) (b2 : Nat) (b3 : Nat) (b4 : Nat) (b5 : Nat) (b6 : Nat) (kn : Nat) (ik : Nat) (ty : Nat) (ra : Int32) (rb : Int32) (rd : Nat) (iw : Nat) (fl : Int32) (sg : Nat → Nat) (be : Nat → Nat) (hkn : kn ≤ 4) : Met l yX3_know wsX3_know ({ frames := 0, cells := 0, slots := 0, locals := 0 } : Room) (zPc G [.ref b0] [(b0, .inr (3, [.ref b1, .ref b2, .ref b3, .int (nI kn), .ref b4, .int (nI ik), .ref b5, .int (nI ty), .int ra, .int rb, .int (nI rd), .int (nI iw), .ref b6, .int fl])), (b1, .inl (G.2.1, 618, .inl (arN sg))), (b3, .inl (G.2.1, 2472, .inl (arN be)))]) (va_Qv (fun (uU : Nat × (Nat → Nat)) => uU = (knK kn, knB kn be sg)) (fun uU tT => va_P G.1 vwCl ((fun (uU : Nat × (Nat → Nat)) => ([(b0, .inr (3, [.ref b1, .ref b2, .ref b3, .int (nI uU.1), .ref b4, .int (nI ik), .ref b5, .int (nI ty), .int ra, .int rb, .int (nI rd), .int (nI iw), .ref b6, .int fl])), (b1, .inl (G.2.1, 618, .inl (arN sg))), (b3, .inl (G.2.1, 2472, .inl (arN uU.2)))] : va_W)) uU) tT.heap) (zIn [(b0, .inr (3, [.ref b1, .ref b2, .ref b3, .int (nI kn), .ref b4, .int (nI ik), .ref b5, .int (nI ty), .int ra, .int rb, .int (nI rd), .int (nI iw), .ref b6, .int fl])), (b1, .inl (G.2.1, 618, .inl (arN sg))), (b3, .inl (G.2.1, 2472, .inl (arN be)))])) 0 0 (zIn [(b0, .inr (3, [.ref b1, .ref b2, .ref b3, .int (nI kn), .ref b4, .int (nI ik), .ref b5, .int (nI ty), .int ra, .int rb, .int (nI rd), .int (nI iw), .ref b6, .int fl])), (b1, .inl (G.2.1, 618, .inl (arN sg))), (b3, .inl (G.2.1, 2472, .inl (arN be)))]) := by
  refine zM (cc := cX3_know) (maxL := 2) (ret := none) (by decide) rfl (Nat.le_of_ble_eq_true rfl) ?_
  intro pP eE sS mM below meth cC hx hb hr hts hown hlk hml hnm hK hN hP hD hS ls hl
  have hl : lv_has ls 2 [(0, .ref b0)] := hl
  refine lv_aload_n hx hb dX3_know_0 rfl (lv_at hl 0 rfl) ?_
  refine va_get (D := G.1) (ci := 3) (v := .int (nI kn)) (C := RX3) (T := TX3) (N := 14) hx hb hts mic_know_3 hown hK hP 0 rfl rfl 3 (by decide) (hts _ mwc_know_0) (fun _ h9 => h9) rfl dX3_know_1 ?_
  refine lv_iconst (v := nI 4) hx hb dX3_know_4 (by decide) ?_
  refine zk_ine (tgt := 49) hx hb dX3_know_5 (by decide) (by omega) (by omega) (fun c5 => ?_) (fun c5 => ?_)
  · refine lv_iconst (v := nI 0) hx hb dX3_know_49 (by decide) ?_
    refine lv_istore_n (lv' := [(1, .int (nI 0)), (0, .ref b0)]) hx hb dX3_know_50 rfl hl (by decide) rfl (fun ls hl => ?_)
    have lp51 : ∀ (fu : Nat), ∀ (jX : Nat) (H : Heap) (locs : List Loc) (ls : Array Slot), (618 - jX) < fu → (jX ≤ 618) → va_P G.1 vwCl [(b0, .inr (3, [.ref b1, .ref b2, .ref b3, .int (nI kn), .ref b4, .int (nI ik), .ref b5, .int (nI ty), .int ra, .int rb, .int (nI rd), .int (nI iw), .ref b6, .int fl])), (b1, .inl (G.2.1, 618, .inl (arN sg))), (b3, .inl (G.2.1, 2472, .inl (arN (cpF (be) sg (618 * kn) 0 jX))))] H → va_D (zIn [(b0, .inr (3, [.ref b1, .ref b2, .ref b3, .int (nI kn), .ref b4, .int (nI ik), .ref b5, .int (nI ty), .int ra, .int rb, .int (nI rd), .int (nI iw), .ref b6, .int fl])), (b1, .inl (G.2.1, 618, .inl (arN sg))), (b3, .inl (G.2.1, 2472, .inl (arN be)))]) [(b0, .inr (3, [.ref b1, .ref b2, .ref b3, .int (nI kn), .ref b4, .int (nI ik), .ref b5, .int (nI ty), .int ra, .int rb, .int (nI rd), .int (nI iw), .ref b6, .int fl])), (b1, .inl (G.2.1, 618, .inl (arN sg))), (b3, .inl (G.2.1, 2472, .inl (arN (cpF (be) sg (618 * kn) 0 jX))))] → va_S (zIn [(b0, .inr (3, [.ref b1, .ref b2, .ref b3, .int (nI kn), .ref b4, .int (nI ik), .ref b5, .int (nI ty), .int ra, .int rb, .int (nI rd), .int (nI iw), .ref b6, .int fl])), (b1, .inl (G.2.1, 618, .inl (arN sg))), (b3, .inl (G.2.1, 2472, .inl (arN be)))]) sS.heap H locs → lv_has ls 2 [(0, .ref b0), (1, .int (nI jX))] → W pP l eE (headSpec wsX3_know ({ frames := 0, cells := 0, slots := 0, locals := 0 } : Room)).room sS mM ([.ref b0] : List Value).toArray below meth cC H locs 0 0 (MQ below (va_Qv (fun (uU : Nat × (Nat → Nat)) => uU = (knK kn, knB kn be sg)) (fun uU tT => va_P G.1 vwCl ((fun (uU : Nat × (Nat → Nat)) => ([(b0, .inr (3, [.ref b1, .ref b2, .ref b3, .int (nI uU.1), .ref b4, .int (nI ik), .ref b5, .int (nI ty), .int ra, .int rb, .int (nI rd), .int (nI iw), .ref b6, .int fl])), (b1, .inl (G.2.1, 618, .inl (arN sg))), (b3, .inl (G.2.1, 2472, .inl (arN uU.2)))] : va_W)) uU) tT.heap) (zIn [(b0, .inr (3, [.ref b1, .ref b2, .ref b3, .int (nI kn), .ref b4, .int (nI ik), .ref b5, .int (nI ty), .int ra, .int rb, .int (nI rd), .int (nI iw), .ref b6, .int fl])), (b1, .inl (G.2.1, 618, .inl (arN sg))), (b3, .inl (G.2.1, 2472, .inl (arN be)))])) ([.ref b0] : List Value).toArray sS 0 0 (zIn [(b0, .inr (3, [.ref b1, .ref b2, .ref b3, .int (nI kn), .ref b4, .int (nI ik), .ref b5, .int (nI ty), .int ra, .int rb, .int (nI rd), .int (nI iw), .ref b6, .int fl])), (b1, .inl (G.2.1, 618, .inl (arN sg))), (b3, .inl (G.2.1, 2472, .inl (arN be)))])) (F0 mM 51 ls []) := by
      intro fu
      induction fu with
      | zero => intro jX H locs ls hf; exact absurd hf (Nat.not_lt_zero _)
      | succ fu ih =>
        intro jX H locs ls hf hj hP hD hS hl
        refine lv_iload_n hx hb dX3_know_51 rfl (lv_at hl 1 rfl) ?_
        refine lv_sipush (v := nI 618) hx hb dX3_know_52 (by decide) ?_
        refine zk_ige (tgt := 85) hx hb dX3_know_55 (by decide) (by omega) (by omega) (fun c55 => ?_) (fun c55 => ?_)
        · refine lv_aload_n hx hb dX3_know_85 rfl (lv_at hl 0 rfl) ?_
          refine lv_dup hx hb dX3_know_86 rfl ?_
          refine va_get (D := G.1) (ci := 3) (v := .int (nI kn)) (C := RX3) (T := TX3) (N := 14) hx hb hts mic_know_3 hown hK hP 0 rfl rfl 3 (by decide) (hts _ mwc_know_0) (fun _ h9 => h9) rfl dX3_know_87 ?_
          refine lv_iconst (v := nI 1) hx hb dX3_know_90 (by decide) ?_
          refine zk_add hx hb dX3_know_91 ?_
          refine zk_put (D := G.1) (ci := 3) (v := .int (nI (kn + 1))) (ty := .int) (C := RX3) (T := TX3) (N := 14) (ws2 := [(b0, .inr (3, [.ref b1, .ref b2, .ref b3, .int (nI (kn + 1)), .ref b4, .int (nI ik), .ref b5, .int (nI ty), .int ra, .int rb, .int (nI rd), .int (nI iw), .ref b6, .int fl])), (b1, .inl (G.2.1, 618, .inl (arN sg))), (b3, .inl (G.2.1, 2472, .inl (arN (cpF (be) sg (618 * kn) 0 jX))))]) hx hb hts mic_know_3 tyX3 tyX3_ok nmX3 hown hK hP hD hS 0 rfl rfl 3 (by decide) (hts _ mwc_know_0) (fun _ h9 => h9) rfl (by decide +kernel) rfl rfl (Nat.le_of_ble_eq_true rfl) rfl dX3_know_92 (fun H locs hP hD hS => ?_)
          exact W.vret hx hb hr (fun tT ht hW => ⟨⟨(kn + 1, cpF (be) sg (618 * kn) 0 jX), rfl, (by have hk2 : jX = 618 := (by omega); subst hk2; unfold knK knB; rw [if_neg c5, if_neg c5]), by show va_P G.1 vwCl _ tT.heap; rw [ht]; exact hP⟩, hS.F ht⟩) hS.2.2 dX3_know_95
        · refine lv_aload_n hx hb dX3_know_58 rfl (lv_at hl 0 rfl) ?_
          refine va_get (D := G.1) (ci := 3) (v := .ref b3) (C := RX3) (T := TX3) (N := 14) hx hb hts mic_know_3 hown hK hP 0 rfl rfl 2 (by decide) (hts _ mwc_know_2) (fun _ h9 => h9) rfl dX3_know_59 ?_
          refine lv_sipush (v := nI 618) hx hb dX3_know_62 (by decide) ?_
          refine lv_aload_n hx hb dX3_know_65 rfl (lv_at hl 0 rfl) ?_
          refine va_get (D := G.1) (ci := 3) (v := .int (nI kn)) (C := RX3) (T := TX3) (N := 14) hx hb hts mic_know_3 hown hK hP 0 rfl rfl 3 (by decide) (hts _ mwc_know_0) (fun _ h9 => h9) rfl dX3_know_66 ?_
          refine zk_mul hx hb dX3_know_69 ?_
          refine lv_iload_n hx hb dX3_know_70 rfl (lv_at hl 1 rfl) ?_
          refine zk_add hx hb dX3_know_71 ?_
          refine lv_aload_n hx hb dX3_know_72 rfl (lv_at hl 0 rfl) ?_
          refine va_get (D := G.1) (ci := 3) (v := .ref b1) (C := RX3) (T := TX3) (N := 14) hx hb hts mic_know_3 hown hK hP 0 rfl rfl 0 (by decide) (hts _ mwc_know_3) (fun _ h9 => h9) rfl dX3_know_73 ?_
          refine lv_iload_n hx hb dX3_know_76 rfl (lv_at hl 1 rfl) ?_
          refine zk_ald (f := sg) (k := jX) hx hb hK hP 1 0 rfl rfl (Nat.le_of_ble_eq_true rfl) (by omega) dX3_know_77 ?_
          refine zk_ast (f := cpF (be) sg (618 * kn) 0 jX) (k := (618 * kn) + jX) (v := sg jX) (ws2 := [(b0, .inr (3, [.ref b1, .ref b2, .ref b3, .int (nI kn), .ref b4, .int (nI ik), .ref b5, .int (nI ty), .int ra, .int rb, .int (nI rd), .int (nI iw), .ref b6, .int fl])), (b1, .inl (G.2.1, 618, .inl (arN sg))), (b3, .inl (G.2.1, 2472, .inl (arN (arU (cpF (be) sg (618 * kn) 0 jX) ((618 * kn) + jX) (sg jX)))))]) hx hb hK hP hD hS 2 0 rfl rfl (Nat.le_of_ble_eq_true rfl) (by omega) rfl dX3_know_78 (fun H locs hP hD hS => ?_)
          have en : arU (cpF (be) sg (618 * kn) 0 jX) ((618 * kn) + jX) (sg jX) = cpF (be) sg (618 * kn) 0 (jX + 1) := cpF_s (by omega) (congrArg sg (by omega))
          rw [en] at hP hD
          refine zk_inc (a := jX) (d := 1) (lv' := [(1, .int (nI (jX + 1))), (0, .ref b0)]) hx hb dX3_know_79 hl (K := 1) rfl (by decide) (by decide) rfl (fun ls hl => ?_)
          refine lv_goto (tgt := 51) hx hb dX3_know_82 (by decide) ?_
          exact ih (jX + 1) _ _ _ (by omega) (by omega) hP hD hS (lv_sub hl [1, 0] rfl)
    have eq0 : be = cpF (be) sg (618 * kn) 0 0 := cpF_0 _ _ _ _
    rw [eq0] at hP
    have hD : va_D (zIn [(b0, .inr (3, [.ref b1, .ref b2, .ref b3, .int (nI kn), .ref b4, .int (nI ik), .ref b5, .int (nI ty), .int ra, .int rb, .int (nI rd), .int (nI iw), .ref b6, .int fl])), (b1, .inl (G.2.1, 618, .inl (arN sg))), (b3, .inl (G.2.1, 2472, .inl (arN be)))]) [(b0, .inr (3, [.ref b1, .ref b2, .ref b3, .int (nI kn), .ref b4, .int (nI ik), .ref b5, .int (nI ty), .int ra, .int rb, .int (nI rd), .int (nI iw), .ref b6, .int fl])), (b1, .inl (G.2.1, 618, .inl (arN sg))), (b3, .inl (G.2.1, 2472, .inl (arN (cpF (be) sg (618 * kn) 0 0))))] := by rw [← eq0]; exact hD
    exact lp51 _ 0 _ _ _ (Nat.lt_succ_self _) (by omega) hP hD hS (lv_sub hl [1, 0] rfl)
  · refine lv_iconst (v := nI 0) hx hb dX3_know_8 (by decide) ?_
    refine lv_istore_n (lv' := [(1, .int (nI 0)), (0, .ref b0)]) hx hb dX3_know_9 rfl hl (by decide) rfl (fun ls hl => ?_)
    have lp10 : ∀ (fu : Nat), ∀ (kX : Nat) (H : Heap) (locs : List Loc) (ls : Array Slot), (1854 - kX) < fu → (kX ≤ 1854) → va_P G.1 vwCl [(b0, .inr (3, [.ref b1, .ref b2, .ref b3, .int (nI kn), .ref b4, .int (nI ik), .ref b5, .int (nI ty), .int ra, .int rb, .int (nI rd), .int (nI iw), .ref b6, .int fl])), (b1, .inl (G.2.1, 618, .inl (arN sg))), (b3, .inl (G.2.1, 2472, .inl (arN (sfF be 0 618 kX))))] H → va_D (zIn [(b0, .inr (3, [.ref b1, .ref b2, .ref b3, .int (nI kn), .ref b4, .int (nI ik), .ref b5, .int (nI ty), .int ra, .int rb, .int (nI rd), .int (nI iw), .ref b6, .int fl])), (b1, .inl (G.2.1, 618, .inl (arN sg))), (b3, .inl (G.2.1, 2472, .inl (arN be)))]) [(b0, .inr (3, [.ref b1, .ref b2, .ref b3, .int (nI kn), .ref b4, .int (nI ik), .ref b5, .int (nI ty), .int ra, .int rb, .int (nI rd), .int (nI iw), .ref b6, .int fl])), (b1, .inl (G.2.1, 618, .inl (arN sg))), (b3, .inl (G.2.1, 2472, .inl (arN (sfF be 0 618 kX))))] → va_S (zIn [(b0, .inr (3, [.ref b1, .ref b2, .ref b3, .int (nI kn), .ref b4, .int (nI ik), .ref b5, .int (nI ty), .int ra, .int rb, .int (nI rd), .int (nI iw), .ref b6, .int fl])), (b1, .inl (G.2.1, 618, .inl (arN sg))), (b3, .inl (G.2.1, 2472, .inl (arN be)))]) sS.heap H locs → lv_has ls 2 [(0, .ref b0), (1, .int (nI kX))] → W pP l eE (headSpec wsX3_know ({ frames := 0, cells := 0, slots := 0, locals := 0 } : Room)).room sS mM ([.ref b0] : List Value).toArray below meth cC H locs 0 0 (MQ below (va_Qv (fun (uU : Nat × (Nat → Nat)) => uU = (knK kn, knB kn be sg)) (fun uU tT => va_P G.1 vwCl ((fun (uU : Nat × (Nat → Nat)) => ([(b0, .inr (3, [.ref b1, .ref b2, .ref b3, .int (nI uU.1), .ref b4, .int (nI ik), .ref b5, .int (nI ty), .int ra, .int rb, .int (nI rd), .int (nI iw), .ref b6, .int fl])), (b1, .inl (G.2.1, 618, .inl (arN sg))), (b3, .inl (G.2.1, 2472, .inl (arN uU.2)))] : va_W)) uU) tT.heap) (zIn [(b0, .inr (3, [.ref b1, .ref b2, .ref b3, .int (nI kn), .ref b4, .int (nI ik), .ref b5, .int (nI ty), .int ra, .int rb, .int (nI rd), .int (nI iw), .ref b6, .int fl])), (b1, .inl (G.2.1, 618, .inl (arN sg))), (b3, .inl (G.2.1, 2472, .inl (arN be)))])) ([.ref b0] : List Value).toArray sS 0 0 (zIn [(b0, .inr (3, [.ref b1, .ref b2, .ref b3, .int (nI kn), .ref b4, .int (nI ik), .ref b5, .int (nI ty), .int ra, .int rb, .int (nI rd), .int (nI iw), .ref b6, .int fl])), (b1, .inl (G.2.1, 618, .inl (arN sg))), (b3, .inl (G.2.1, 2472, .inl (arN be)))])) (F0 mM 10 ls []) := by
      intro fu
      induction fu with
      | zero => intro kX H locs ls hf; exact absurd hf (Nat.not_lt_zero _)
      | succ fu ih =>
        intro kX H locs ls hf hk hP hD hS hl
        refine lv_iload_n hx hb dX3_know_10 rfl (lv_at hl 1 rfl) ?_
        refine lv_sipush (v := nI 1854) hx hb dX3_know_11 (by decide) ?_
        refine zk_ige (tgt := 39) hx hb dX3_know_14 (by decide) (by omega) (by omega) (fun c14 => ?_) (fun c14 => ?_)
        · have hk9 : kX = 1854 := by omega
          subst hk9
          refine lv_aload_n hx hb dX3_know_39 rfl (lv_at hl 0 rfl) ?_
          refine lv_dup hx hb dX3_know_40 rfl ?_
          refine va_get (D := G.1) (ci := 3) (v := .int (nI kn)) (C := RX3) (T := TX3) (N := 14) hx hb hts mic_know_3 hown hK hP 0 rfl rfl 3 (by decide) (hts _ mwc_know_0) (fun _ h9 => h9) rfl dX3_know_41 ?_
          refine lv_iconst (v := nI 1) hx hb dX3_know_44 (by decide) ?_
          refine zk_sub hx hb dX3_know_45 (by omega) ?_
          refine zk_put (D := G.1) (ci := 3) (v := .int (nI (kn - 1))) (ty := .int) (C := RX3) (T := TX3) (N := 14) (ws2 := [(b0, .inr (3, [.ref b1, .ref b2, .ref b3, .int (nI (kn - 1)), .ref b4, .int (nI ik), .ref b5, .int (nI ty), .int ra, .int rb, .int (nI rd), .int (nI iw), .ref b6, .int fl])), (b1, .inl (G.2.1, 618, .inl (arN sg))), (b3, .inl (G.2.1, 2472, .inl (arN (sfF be 0 618 1854))))]) hx hb hts mic_know_3 tyX3 tyX3_ok nmX3 hown hK hP hD hS 0 rfl rfl 3 (by decide) (hts _ mwc_know_0) (fun _ h9 => h9) rfl (by decide +kernel) rfl rfl (Nat.le_of_ble_eq_true rfl) rfl dX3_know_46 (fun H locs hP hD hS => ?_)
          refine lv_iconst (v := nI 0) hx hb dX3_know_49 (by decide) ?_
          refine lv_istore_n (lv' := [(1, .int (nI 0)), (0, .ref b0)]) hx hb dX3_know_50 rfl hl (by decide) rfl (fun ls hl => ?_)
          have lp51 : ∀ (fu : Nat), ∀ (jX : Nat) (H : Heap) (locs : List Loc) (ls : Array Slot), (618 - jX) < fu → (jX ≤ 618) → va_P G.1 vwCl [(b0, .inr (3, [.ref b1, .ref b2, .ref b3, .int (nI (kn - 1)), .ref b4, .int (nI ik), .ref b5, .int (nI ty), .int ra, .int rb, .int (nI rd), .int (nI iw), .ref b6, .int fl])), (b1, .inl (G.2.1, 618, .inl (arN sg))), (b3, .inl (G.2.1, 2472, .inl (arN (cpF (sfF be 0 618 1854) sg (618 * (kn - 1)) 0 jX))))] H → va_D (zIn [(b0, .inr (3, [.ref b1, .ref b2, .ref b3, .int (nI kn), .ref b4, .int (nI ik), .ref b5, .int (nI ty), .int ra, .int rb, .int (nI rd), .int (nI iw), .ref b6, .int fl])), (b1, .inl (G.2.1, 618, .inl (arN sg))), (b3, .inl (G.2.1, 2472, .inl (arN be)))]) [(b0, .inr (3, [.ref b1, .ref b2, .ref b3, .int (nI (kn - 1)), .ref b4, .int (nI ik), .ref b5, .int (nI ty), .int ra, .int rb, .int (nI rd), .int (nI iw), .ref b6, .int fl])), (b1, .inl (G.2.1, 618, .inl (arN sg))), (b3, .inl (G.2.1, 2472, .inl (arN (cpF (sfF be 0 618 1854) sg (618 * (kn - 1)) 0 jX))))] → va_S (zIn [(b0, .inr (3, [.ref b1, .ref b2, .ref b3, .int (nI kn), .ref b4, .int (nI ik), .ref b5, .int (nI ty), .int ra, .int rb, .int (nI rd), .int (nI iw), .ref b6, .int fl])), (b1, .inl (G.2.1, 618, .inl (arN sg))), (b3, .inl (G.2.1, 2472, .inl (arN be)))]) sS.heap H locs → lv_has ls 2 [(0, .ref b0), (1, .int (nI jX))] → W pP l eE (headSpec wsX3_know ({ frames := 0, cells := 0, slots := 0, locals := 0 } : Room)).room sS mM ([.ref b0] : List Value).toArray below meth cC H locs 0 0 (MQ below (va_Qv (fun (uU : Nat × (Nat → Nat)) => uU = (knK kn, knB kn be sg)) (fun uU tT => va_P G.1 vwCl ((fun (uU : Nat × (Nat → Nat)) => ([(b0, .inr (3, [.ref b1, .ref b2, .ref b3, .int (nI uU.1), .ref b4, .int (nI ik), .ref b5, .int (nI ty), .int ra, .int rb, .int (nI rd), .int (nI iw), .ref b6, .int fl])), (b1, .inl (G.2.1, 618, .inl (arN sg))), (b3, .inl (G.2.1, 2472, .inl (arN uU.2)))] : va_W)) uU) tT.heap) (zIn [(b0, .inr (3, [.ref b1, .ref b2, .ref b3, .int (nI kn), .ref b4, .int (nI ik), .ref b5, .int (nI ty), .int ra, .int rb, .int (nI rd), .int (nI iw), .ref b6, .int fl])), (b1, .inl (G.2.1, 618, .inl (arN sg))), (b3, .inl (G.2.1, 2472, .inl (arN be)))])) ([.ref b0] : List Value).toArray sS 0 0 (zIn [(b0, .inr (3, [.ref b1, .ref b2, .ref b3, .int (nI kn), .ref b4, .int (nI ik), .ref b5, .int (nI ty), .int ra, .int rb, .int (nI rd), .int (nI iw), .ref b6, .int fl])), (b1, .inl (G.2.1, 618, .inl (arN sg))), (b3, .inl (G.2.1, 2472, .inl (arN be)))])) (F0 mM 51 ls []) := by
            intro fu
            induction fu with
            | zero => intro jX H locs ls hf; exact absurd hf (Nat.not_lt_zero _)
            | succ fu ih =>
              intro jX H locs ls hf hj hP hD hS hl
              refine lv_iload_n hx hb dX3_know_51 rfl (lv_at hl 1 rfl) ?_
              refine lv_sipush (v := nI 618) hx hb dX3_know_52 (by decide) ?_
              refine zk_ige (tgt := 85) hx hb dX3_know_55 (by decide) (by omega) (by omega) (fun c55 => ?_) (fun c55 => ?_)
              · refine lv_aload_n hx hb dX3_know_85 rfl (lv_at hl 0 rfl) ?_
                refine lv_dup hx hb dX3_know_86 rfl ?_
                refine va_get (D := G.1) (ci := 3) (v := .int (nI (kn - 1))) (C := RX3) (T := TX3) (N := 14) hx hb hts mic_know_3 hown hK hP 0 rfl rfl 3 (by decide) (hts _ mwc_know_0) (fun _ h9 => h9) rfl dX3_know_87 ?_
                refine lv_iconst (v := nI 1) hx hb dX3_know_90 (by decide) ?_
                refine zk_add hx hb dX3_know_91 ?_
                refine zk_put (D := G.1) (ci := 3) (v := .int (nI ((kn - 1) + 1))) (ty := .int) (C := RX3) (T := TX3) (N := 14) (ws2 := [(b0, .inr (3, [.ref b1, .ref b2, .ref b3, .int (nI ((kn - 1) + 1)), .ref b4, .int (nI ik), .ref b5, .int (nI ty), .int ra, .int rb, .int (nI rd), .int (nI iw), .ref b6, .int fl])), (b1, .inl (G.2.1, 618, .inl (arN sg))), (b3, .inl (G.2.1, 2472, .inl (arN (cpF (sfF be 0 618 1854) sg (618 * (kn - 1)) 0 jX))))]) hx hb hts mic_know_3 tyX3 tyX3_ok nmX3 hown hK hP hD hS 0 rfl rfl 3 (by decide) (hts _ mwc_know_0) (fun _ h9 => h9) rfl (by decide +kernel) rfl rfl (Nat.le_of_ble_eq_true rfl) rfl dX3_know_92 (fun H locs hP hD hS => ?_)
                exact W.vret hx hb hr (fun tT ht hW => ⟨⟨((kn - 1) + 1, cpF (sfF be 0 618 1854) sg (618 * (kn - 1)) 0 jX), rfl, (by have hk2 : jX = 618 := (by omega); subst hk2; subst c5; rfl), by show va_P G.1 vwCl _ tT.heap; rw [ht]; exact hP⟩, hS.F ht⟩) hS.2.2 dX3_know_95
              · refine lv_aload_n hx hb dX3_know_58 rfl (lv_at hl 0 rfl) ?_
                refine va_get (D := G.1) (ci := 3) (v := .ref b3) (C := RX3) (T := TX3) (N := 14) hx hb hts mic_know_3 hown hK hP 0 rfl rfl 2 (by decide) (hts _ mwc_know_2) (fun _ h9 => h9) rfl dX3_know_59 ?_
                refine lv_sipush (v := nI 618) hx hb dX3_know_62 (by decide) ?_
                refine lv_aload_n hx hb dX3_know_65 rfl (lv_at hl 0 rfl) ?_
                refine va_get (D := G.1) (ci := 3) (v := .int (nI (kn - 1))) (C := RX3) (T := TX3) (N := 14) hx hb hts mic_know_3 hown hK hP 0 rfl rfl 3 (by decide) (hts _ mwc_know_0) (fun _ h9 => h9) rfl dX3_know_66 ?_
                refine zk_mul hx hb dX3_know_69 ?_
                refine lv_iload_n hx hb dX3_know_70 rfl (lv_at hl 1 rfl) ?_
                refine zk_add hx hb dX3_know_71 ?_
                refine lv_aload_n hx hb dX3_know_72 rfl (lv_at hl 0 rfl) ?_
                refine va_get (D := G.1) (ci := 3) (v := .ref b1) (C := RX3) (T := TX3) (N := 14) hx hb hts mic_know_3 hown hK hP 0 rfl rfl 0 (by decide) (hts _ mwc_know_3) (fun _ h9 => h9) rfl dX3_know_73 ?_
                refine lv_iload_n hx hb dX3_know_76 rfl (lv_at hl 1 rfl) ?_
                refine zk_ald (f := sg) (k := jX) hx hb hK hP 1 0 rfl rfl (Nat.le_of_ble_eq_true rfl) (by omega) dX3_know_77 ?_
                refine zk_ast (f := cpF (sfF be 0 618 1854) sg (618 * (kn - 1)) 0 jX) (k := (618 * (kn - 1)) + jX) (v := sg jX) (ws2 := [(b0, .inr (3, [.ref b1, .ref b2, .ref b3, .int (nI (kn - 1)), .ref b4, .int (nI ik), .ref b5, .int (nI ty), .int ra, .int rb, .int (nI rd), .int (nI iw), .ref b6, .int fl])), (b1, .inl (G.2.1, 618, .inl (arN sg))), (b3, .inl (G.2.1, 2472, .inl (arN (arU (cpF (sfF be 0 618 1854) sg (618 * (kn - 1)) 0 jX) ((618 * (kn - 1)) + jX) (sg jX)))))]) hx hb hK hP hD hS 2 0 rfl rfl (Nat.le_of_ble_eq_true rfl) (by omega) rfl dX3_know_78 (fun H locs hP hD hS => ?_)
                have en : arU (cpF (sfF be 0 618 1854) sg (618 * (kn - 1)) 0 jX) ((618 * (kn - 1)) + jX) (sg jX) = cpF (sfF be 0 618 1854) sg (618 * (kn - 1)) 0 (jX + 1) := cpF_s (by omega) (congrArg sg (by omega))
                rw [en] at hP hD
                refine zk_inc (a := jX) (d := 1) (lv' := [(1, .int (nI (jX + 1))), (0, .ref b0)]) hx hb dX3_know_79 hl (K := 1) rfl (by decide) (by decide) rfl (fun ls hl => ?_)
                refine lv_goto (tgt := 51) hx hb dX3_know_82 (by decide) ?_
                exact ih (jX + 1) _ _ _ (by omega) (by omega) hP hD hS (lv_sub hl [1, 0] rfl)
          have eq0 : sfF be 0 618 1854 = cpF (sfF be 0 618 1854) sg (618 * (kn - 1)) 0 0 := cpF_0 _ _ _ _
          rw [eq0] at hP
          have hD : va_D (zIn [(b0, .inr (3, [.ref b1, .ref b2, .ref b3, .int (nI kn), .ref b4, .int (nI ik), .ref b5, .int (nI ty), .int ra, .int rb, .int (nI rd), .int (nI iw), .ref b6, .int fl])), (b1, .inl (G.2.1, 618, .inl (arN sg))), (b3, .inl (G.2.1, 2472, .inl (arN be)))]) [(b0, .inr (3, [.ref b1, .ref b2, .ref b3, .int (nI (kn - 1)), .ref b4, .int (nI ik), .ref b5, .int (nI ty), .int ra, .int rb, .int (nI rd), .int (nI iw), .ref b6, .int fl])), (b1, .inl (G.2.1, 618, .inl (arN sg))), (b3, .inl (G.2.1, 2472, .inl (arN (cpF (sfF be 0 618 1854) sg (618 * (kn - 1)) 0 0))))] := by rw [← eq0]; exact hD
          exact lp51 _ 0 _ _ _ (Nat.lt_succ_self _) (by omega) hP hD hS (lv_sub hl [1, 0] rfl)
        · refine lv_aload_n hx hb dX3_know_17 rfl (lv_at hl 0 rfl) ?_
          refine va_get (D := G.1) (ci := 3) (v := .ref b3) (C := RX3) (T := TX3) (N := 14) hx hb hts mic_know_3 hown hK hP 0 rfl rfl 2 (by decide) (hts _ mwc_know_2) (fun _ h9 => h9) rfl dX3_know_18 ?_
          refine lv_iload_n hx hb dX3_know_21 rfl (lv_at hl 1 rfl) ?_
          refine lv_aload_n hx hb dX3_know_22 rfl (lv_at hl 0 rfl) ?_
          refine va_get (D := G.1) (ci := 3) (v := .ref b3) (C := RX3) (T := TX3) (N := 14) hx hb hts mic_know_3 hown hK hP 0 rfl rfl 2 (by decide) (hts _ mwc_know_2) (fun _ h9 => h9) rfl dX3_know_23 ?_
          refine lv_sipush (v := nI 618) hx hb dX3_know_26 (by decide) ?_
          refine lv_iload_n hx hb dX3_know_29 rfl (lv_at hl 1 rfl) ?_
          refine zk_add hx hb dX3_know_30 ?_
          refine zk_ald (f := sfF be 0 618 kX) (k := 618 + kX) hx hb hK hP 2 0 rfl rfl (Nat.le_of_ble_eq_true rfl) (by omega) dX3_know_31 ?_
          refine zk_ast (f := sfF be 0 618 kX) (k := kX) (v := (sfF be 0 618 kX) (618 + kX)) (ws2 := [(b0, .inr (3, [.ref b1, .ref b2, .ref b3, .int (nI kn), .ref b4, .int (nI ik), .ref b5, .int (nI ty), .int ra, .int rb, .int (nI rd), .int (nI iw), .ref b6, .int fl])), (b1, .inl (G.2.1, 618, .inl (arN sg))), (b3, .inl (G.2.1, 2472, .inl (arN (arU (sfF be 0 618 kX) kX ((sfF be 0 618 kX) (618 + kX))))))]) hx hb hK hP hD hS 2 0 rfl rfl (Nat.le_of_ble_eq_true rfl) (by omega) rfl dX3_know_32 (fun H locs hP hD hS => ?_)
          have en : arU (sfF be 0 618 kX) kX ((sfF be 0 618 kX) (618 + kX)) = sfF be 0 618 (kX + 1) := sfF_s (by omega) (congrArg _ (by omega))
          rw [en] at hP hD
          refine zk_inc (a := kX) (d := 1) (lv' := [(1, .int (nI (kX + 1))), (0, .ref b0)]) hx hb dX3_know_33 hl (K := 1) rfl (by decide) (by decide) rfl (fun ls hl => ?_)
          refine lv_goto (tgt := 10) hx hb dX3_know_36 (by decide) ?_
          exact ih (kX + 1) _ _ _ (by omega) (by omega) hP hD hS (lv_sub hl [1, 0] rfl)
    have eq0 : be = sfF be 0 618 0 := sfF_0 _ _ _
    rw [eq0] at hP
    have hD : va_D (zIn [(b0, .inr (3, [.ref b1, .ref b2, .ref b3, .int (nI kn), .ref b4, .int (nI ik), .ref b5, .int (nI ty), .int ra, .int rb, .int (nI rd), .int (nI iw), .ref b6, .int fl])), (b1, .inl (G.2.1, 618, .inl (arN sg))), (b3, .inl (G.2.1, 2472, .inl (arN be)))]) [(b0, .inr (3, [.ref b1, .ref b2, .ref b3, .int (nI kn), .ref b4, .int (nI ik), .ref b5, .int (nI ty), .int ra, .int rb, .int (nI rd), .int (nI iw), .ref b6, .int fl])), (b1, .inl (G.2.1, 618, .inl (arN sg))), (b3, .inl (G.2.1, 2472, .inl (arN (sfF be 0 618 0))))] := by rw [← eq0]; exact hD
    exact lp10 _ 0 _ _ _ (Nat.lt_succ_self _) (by omega) hP hD hS (lv_sub hl [1, 0] rfl)
set_option maxRecDepth 100000 in
theorem mwc_shownTo_0 : Cond.fieldLink RX3 7 "ExhibitTextsModel" "s" "[I" ∈ wsX3_shownTo := by decide +kernel
set_option maxRecDepth 100000 in
theorem mic_shownTo_3 : ∀ w ∈ u_ws RX3 TX3 14, w ∈ wsX3_shownTo := by decide +kernel
set_option maxHeartbeats 4000000 in
set_option maxRecDepth 100000 in
/-- X3_shownTo: the text that an age is shown -/
theorem c_shownTo (l : Launch) (G : zG) (b0 : Nat) (b1 : Nat) (b2 : Nat) (b3 : Nat) (b4 : Nat) (b5 : Nat) (b6 : Nat) (kn : Nat) (ik : Nat) (ty : Nat) (ra : Int32) (rb : Int32) (rd : Nat) (iw : Nat) (fl : Int32) (sg : Nat → Nat) (e : Nat) (ag : Nat) (hM : mOK sg) (he : e < 8) (hag : ag ≤ 99) : Met l yX3_shownTo wsX3_shownTo ({ frames := 3, cells := 0, slots := 0, locals := 65 } : Room) (zPc G [.ref b0, .int (nI e), .int (nI ag)] [(b0, .inr (3, [.ref b1, .ref b2, .ref b3, .int (nI kn), .ref b4, .int (nI ik), .ref b5, .int (nI ty), .int ra, .int rb, .int (nI rd), .int (nI iw), .ref b6, .int fl])), (b1, .inl (G.2.1, 618, .inl (arN sg)))]) (vp_Si (fun (rR : Int32) => rR = enc (shT sg e ag))) 0 0 (fun _ => False) := by
  refine zR (cc := cX3_shownTo) (maxL := 9) (ret := (some .int)) (by decide) rfl (Nat.le_of_ble_eq_true rfl) ?_
  intro pP eE sS mM below meth cC hx hb hr hts hown hlk hml hK hN hP hD ls hl
  have hl : lv_has ls 9 [(0, .ref b0), (1, .int (nI e)), (2, .int (nI ag))] := hl
  have hz := hM.2.1 e he
  refine lv_bipush (v := (-5)) hx hb dX3_shownTo_0 (by decide) ?_
  refine lv_istore_n (lv' := [(3, .int (-5)), (0, .ref b0), (1, .int (nI e)), (2, .int (nI ag))]) hx hb dX3_shownTo_2 rfl hl (by decide) rfl (fun ls hl => ?_)
  refine lv_bipush (v := (-5)) hx hb dX3_shownTo_3 (by decide) ?_
  refine lv_istore (lv' := [(4, .int (-5)), (3, .int (-5)), (0, .ref b0), (1, .int (nI e)), (2, .int (nI ag))]) hx hb dX3_shownTo_5 hl (by decide) rfl (fun ls hl => ?_)
  refine lv_iconst (v := nI 0) hx hb dX3_shownTo_7 (by decide) ?_
  refine lv_istore (lv' := [(5, .int (nI 0)), (4, .int (-5)), (3, .int (-5)), (0, .ref b0), (1, .int (nI e)), (2, .int (nI ag))]) hx hb dX3_shownTo_8 hl (by decide) rfl (fun ls hl => ?_)
  have lp10 : ∀ (fu : Nat), ∀ (kX : Nat) (xf : Int32) (xl : Int32) (ls : Array Slot), (sg (10 + 76 * e) - kX) < fu → (kX ≤ sg (10 + 76 * e)) → (xf = enc (ftA (rdg sg e) (wdF sg e) ag kX)) → (xl = enc (lsA (rdg sg e) kX)) → lv_has ls 9 [(0, .ref b0), (1, .int (nI e)), (2, .int (nI ag)), (3, .int xf), (4, .int xl), (5, .int (nI kX))] → W pP l eE (headSpec wsX3_shownTo ({ frames := 3, cells := 0, slots := 0, locals := 65 } : Room)).room sS mM ([.ref b0, .int (nI e), .int (nI ag)] : List Value).toArray below meth cC sS.heap [] 0 0 (MQ below (vp_Si (fun (rR : Int32) => rR = enc (shT sg e ag))) ([.ref b0, .int (nI e), .int (nI ag)] : List Value).toArray sS 0 0 (fun _ => False)) (F0 mM 10 ls []) := by
    intro fu
    induction fu with
    | zero => intro kX xf xl ls hf; exact absurd hf (Nat.not_lt_zero _)
    | succ fu ih =>
      intro kX xf xl ls hf hk hf hls hl
      refine lv_iload hx hb dX3_shownTo_10 (lv_at hl 5 rfl) ?_
      refine lv_aload_n hx hb dX3_shownTo_12 rfl (lv_at hl 0 rfl) ?_
      refine va_get (D := G.1) (ci := 3) (v := .ref b1) (C := RX3) (T := TX3) (N := 14) hx hb hts mic_shownTo_3 hown hK hP 0 rfl rfl 0 (by decide) (hts _ mwc_shownTo_0) (fun _ h9 => h9) rfl dX3_shownTo_13 ?_
      refine lv_iload_n hx hb dX3_shownTo_16 rfl (lv_at hl 1 rfl) ?_
      refine zc_S (As := [.int (nI e)]) (rest := [.ref b1, .int (nI kX)]) ⟨hx, hb, hml, hown, hts⟩ (c_manyAt l e ) (va_cwS 1 hts gX3_shownTo_X3_manyAt rfl rfl rfl (by decide +kernel) ⟨Nat.le_of_ble_eq_true rfl, Nat.le_of_ble_eq_true rfl⟩) rfl hl.1 rfl (Nat.le_of_ble_eq_true rfl) dX3_shownTo_17 ⟨Nat.zero_le _, Nat.zero_le _⟩ (fun r17 h17 => ?_)
      subst h17
      refine zk_ald (f := sg) (k := 10 + 76 * e) hx hb hK hP 1 0 rfl rfl (Nat.le_of_ble_eq_true rfl) (by omega) dX3_shownTo_20 ?_
      refine zk_ige (tgt := 155) hx hb dX3_shownTo_21 (by decide) (by omega) (by omega) (fun c21 => ?_) (fun c21 => ?_)
      · refine lv_iload_n hx hb dX3_shownTo_155 rfl (lv_at hl 3 rfl) ?_
        refine lv_bipush (v := (-5)) hx hb dX3_shownTo_156 (by decide) ?_
        refine lv_icmp_ne (tgt := 166) hx hb dX3_shownTo_158 (by decide) (fun c158 => ?_) (fun c158 => ?_)
        · refine lv_iload_n hx hb dX3_shownTo_166 rfl (lv_at hl 3 rfl) ?_
          exact W.iret (v := xf) hx hb hr (fun tT ht hW => ⟨_, rfl, (by have hk2 : kX = sg (10 + 76 * e) := (by omega); rw [enc_shA (by omega), ← hk2]; first | (rw [if_pos (by rw [← c158, hf])]; exact hls) | (rw [if_neg (fun q => c158 (by rw [hf]; exact q))]; exact hf)), ht⟩) (fun _ h => absurd h List.not_mem_nil) dX3_shownTo_167
        · refine lv_iload hx hb dX3_shownTo_161 (lv_at hl 4 rfl) ?_
          refine lv_goto (tgt := 167) hx hb dX3_shownTo_163 (by decide) ?_
          exact W.iret (v := xl) hx hb hr (fun tT ht hW => ⟨_, rfl, (by have hk2 : kX = sg (10 + 76 * e) := (by omega); rw [enc_shA (by omega), ← hk2]; first | (rw [if_pos (by rw [← c158, hf])]; exact hls) | (rw [if_neg (fun q => c158 (by rw [hf]; exact q))]; exact hf)), ht⟩) (fun _ h => absurd h List.not_mem_nil) dX3_shownTo_167
      · have hTk := hM.2.2 e kX he c21
        have hwk := hTk.1.2
        have hrk := rdg_le hTk
        rcases hq2 : ftA (rdg sg e) (wdF sg e) ag kX with _ | fq
        · have hf : xf = -5 := by rw [hf, hq2]; rfl
          subst hf
          refine lv_aload_n hx hb dX3_shownTo_24 rfl (lv_at hl 0 rfl) ?_
          refine lv_iload_n hx hb dX3_shownTo_25 rfl (lv_at hl 1 rfl) ?_
          refine lv_iload hx hb dX3_shownTo_26 (lv_at hl 5 rfl) ?_
          refine zc_R (As := [.int (nI e), .int (nI kX)]) (rest := []) ⟨hx, hb, hml, hown, hts⟩ (c_readingAge l G b0 b1 b2 b3 b4 b5 b6 kn ik ty ra rb rd iw fl sg e kX (by omega) (by omega) hTk) (cwV 2 hts gX3_shownTo_X3_readingAge rfl rfl rfl (by decide +kernel) ⟨Nat.le_of_ble_eq_true rfl, Nat.le_of_ble_eq_true rfl⟩) hK hN hP hD [0, 1] rfl (by decide) (ci := 3) rfl rfl rfl hl.1 rfl (Nat.le_of_ble_eq_true rfl) dX3_shownTo_28 ⟨Nat.zero_le _, Nat.zero_le _⟩ (fun r28 h28 => ?_)
          subst h28
          refine lv_istore (lv' := [(6, .int (nI (rdg sg e kX))), (0, .ref b0), (1, .int (nI e)), (2, .int (nI ag)), (3, .int (-5)), (4, .int xl), (5, .int (nI kX))]) hx hb dX3_shownTo_31 hl (by decide) rfl (fun ls hl => ?_)
          have jn61 : ∀ (yl : Int32) (ls : Array Slot), (yl = enc (lsA (rdg sg e) (kX + 1))) → lv_has ls 9 [(0, .ref b0), (1, .int (nI e)), (2, .int (nI ag)), (3, .int (-5)), (5, .int (nI kX)), (6, .int (nI (rdg sg e kX))), (4, .int yl)] → W pP l eE (headSpec wsX3_shownTo ({ frames := 3, cells := 0, slots := 0, locals := 65 } : Room)).room sS mM ([.ref b0, .int (nI e), .int (nI ag)] : List Value).toArray below meth cC sS.heap [] 0 0 (MQ below (vp_Si (fun (rR : Int32) => rR = enc (shT sg e ag))) ([.ref b0, .int (nI e), .int (nI ag)] : List Value).toArray sS 0 0 (fun _ => False)) (F0 mM 61 ls []) := by
            intro yl ls hyl hl
            refine lv_iload_n hx hb dX3_shownTo_61 rfl (lv_at hl 3 rfl) ?_
            refine lv_bipush (v := (-5)) hx hb dX3_shownTo_62 (by decide) ?_
            refine lv_icmp_ne (tgt := 71) hx hb dX3_shownTo_64 (by decide) (fun q => absurd (by decide) q) (fun _ => ?_)
            refine lv_iconst (v := nI 1) hx hb dX3_shownTo_67 (by decide) ?_
            refine lv_goto (tgt := 80) hx hb dX3_shownTo_68 (by decide) ?_
            refine lv_istore (lv' := [(7, .int (nI 1)), (0, .ref b0), (1, .int (nI e)), (2, .int (nI ag)), (3, .int (-5)), (5, .int (nI kX)), (6, .int (nI (rdg sg e kX))), (4, .int yl)]) hx hb dX3_shownTo_80 hl (by decide) rfl (fun ls hl => ?_)
            refine lv_iload_n hx hb dX3_shownTo_82 rfl (lv_at hl 4 rfl) ?_
            refine lv_bipush (v := (-5)) hx hb dX3_shownTo_83 (by decide) ?_
            refine lv_icmp_eq (tgt := 118) hx hb dX3_shownTo_85 (by decide) (fun _ => ?_) (fun q => absurd (by decide) q)
            refine lv_iconst (v := nI 0) hx hb dX3_shownTo_118 (by decide) ?_
            refine lv_istore (lv' := [(8, .int (nI 0)), (7, .int (nI 1)), (0, .ref b0), (1, .int (nI e)), (2, .int (nI ag)), (3, .int (-5)), (5, .int (nI kX)), (6, .int (nI (rdg sg e kX))), (4, .int yl)]) hx hb dX3_shownTo_119 hl (by decide) rfl (fun ls hl => ?_)
            refine lv_iload hx hb dX3_shownTo_121 (lv_at hl 7 rfl) ?_
            refine lv_iload_n hx hb dX3_shownTo_123 rfl (lv_at hl 4 rfl) ?_
            refine zk_igt (tgt := 147) hx hb dX3_shownTo_124 (by decide) (by omega) (by omega) (fun c124 => ?_) (fun c124 => ?_)
            · refine lv_iload_n hx hb dX3_shownTo_147 rfl (lv_at hl 5 rfl) ?_
              refine lv_istore_n (lv' := [(3, .int (-5)), (8, .int (nI 0)), (7, .int (nI 1)), (0, .ref b0), (1, .int (nI e)), (2, .int (nI ag)), (5, .int (nI kX)), (6, .int (nI (rdg sg e kX))), (4, .int yl)]) hx hb dX3_shownTo_148 rfl hl (by decide) rfl (fun ls hl => ?_)
              refine zk_inc (a := kX) (d := 1) (lv' := [(5, .int (nI (kX + 1))), (3, .int (-5)), (8, .int (nI 0)), (7, .int (nI 1)), (0, .ref b0), (1, .int (nI e)), (2, .int (nI ag)), (6, .int (nI (rdg sg e kX))), (4, .int yl)]) hx hb dX3_shownTo_149 hl (K := 6) rfl (by decide) (by decide) rfl (fun ls hl => ?_)
              refine lv_goto (tgt := 10) hx hb dX3_shownTo_152 (by decide) ?_
              exact ih (kX + 1) (-5) yl _ (by omega) (by omega) (by show _ = enc (ftStep (rdg sg e) (wdF sg e) ag kX (ftA (rdg sg e) (wdF sg e) ag kX)); rw [hq2]; unfold ftStep; simp only [wdF]; first | rfl | (rw [if_pos (by omega)] <;> rfl) | (rw [if_neg (by omega)] <;> rfl)) hyl (lv_sub hl [4, 5, 6, 1, 8, 0] rfl)
            · refine lv_iload hx hb dX3_shownTo_127 (lv_at hl 1 rfl) ?_
              refine lv_if_gt (tgt := 142) hx hb dX3_shownTo_129 (by decide) (fun _ => ?_) (fun q => absurd (by decide) q)
              refine lv_iload hx hb dX3_shownTo_142 (lv_at hl 6 rfl) ?_
              refine lv_goto (tgt := 148) hx hb dX3_shownTo_144 (by decide) ?_
              refine lv_istore_n (lv' := [(3, .int (nI kX)), (8, .int (nI 0)), (7, .int (nI 1)), (0, .ref b0), (1, .int (nI e)), (2, .int (nI ag)), (5, .int (nI kX)), (6, .int (nI (rdg sg e kX))), (4, .int yl)]) hx hb dX3_shownTo_148 rfl hl (by decide) rfl (fun ls hl => ?_)
              refine zk_inc (a := kX) (d := 1) (lv' := [(5, .int (nI (kX + 1))), (3, .int (nI kX)), (8, .int (nI 0)), (7, .int (nI 1)), (0, .ref b0), (1, .int (nI e)), (2, .int (nI ag)), (6, .int (nI (rdg sg e kX))), (4, .int yl)]) hx hb dX3_shownTo_149 hl (K := 6) rfl (by decide) (by decide) rfl (fun ls hl => ?_)
              refine lv_goto (tgt := 10) hx hb dX3_shownTo_152 (by decide) ?_
              exact ih (kX + 1) (nI kX) yl _ (by omega) (by omega) (by show _ = enc (ftStep (rdg sg e) (wdF sg e) ag kX (ftA (rdg sg e) (wdF sg e) ag kX)); rw [hq2]; unfold ftStep; simp only [wdF]; first | rfl | (rw [if_pos (by omega)] <;> rfl) | (rw [if_neg (by omega)] <;> rfl)) hyl (lv_sub hl [4, 5, 6, 1, 8, 0] rfl)
          rcases hq : lsA (rdg sg e) kX with _ | lq
          · have hls : xl = -5 := by rw [hls, hq]; rfl
            subst hls
            refine lv_iload hx hb dX3_shownTo_33 (lv_at hl 5 rfl) ?_
            refine lv_bipush (v := (-5)) hx hb dX3_shownTo_35 (by decide) ?_
            refine lv_icmp_eq (tgt := 52) hx hb dX3_shownTo_37 (by decide) (fun _ => ?_) (fun q => absurd (by decide) q)
            refine lv_iload hx hb dX3_shownTo_52 (lv_at hl 6 rfl) ?_
            refine lv_goto (tgt := 59) hx hb dX3_shownTo_54 (by decide) ?_
            refine lv_istore (lv' := [(4, .int (nI kX)), (6, .int (nI (rdg sg e kX))), (0, .ref b0), (1, .int (nI e)), (2, .int (nI ag)), (3, .int (-5)), (5, .int (nI kX))]) hx hb dX3_shownTo_59 hl (by decide) rfl (fun ls hl => ?_)
            exact jn61 (nI kX) _ (by show _ = enc (lsStep (rdg sg e) kX (lsA (rdg sg e) kX)); rw [hq]; unfold lsStep; simp only; first | rfl | (rw [if_pos (by omega)] <;> rfl) | (rw [if_neg (by omega)] <;> rfl)) (lv_sub hl [2, 3, 4, 5, 6, 1, 0] rfl)
          · have hls : xl = nI lq := by rw [hls, hq]; rfl
            subst hls
            have hlq := lsA_lt _ hq
            have hTl := hM.2.2 e lq he (by omega)
            have hrl := rdg_le hTl
            refine lv_iload hx hb dX3_shownTo_33 (lv_at hl 5 rfl) ?_
            refine lv_bipush (v := (-5)) hx hb dX3_shownTo_35 (by decide) ?_
            refine lv_icmp_eq (tgt := 52) hx hb dX3_shownTo_37 (by decide) (fun q => absurd q (enc_ne (by omega))) (fun _ => ?_)
            refine lv_iload hx hb dX3_shownTo_40 (lv_at hl 0 rfl) ?_
            refine lv_aload_n hx hb dX3_shownTo_42 rfl (lv_at hl 1 rfl) ?_
            refine lv_iload_n hx hb dX3_shownTo_43 rfl (lv_at hl 2 rfl) ?_
            refine lv_iload hx hb dX3_shownTo_44 (lv_at hl 5 rfl) ?_
            refine zc_R (As := [.int (nI e), .int (nI lq)]) (rest := [.int (nI (rdg sg e kX))]) ⟨hx, hb, hml, hown, hts⟩ (c_readingAge l G b0 b1 b2 b3 b4 b5 b6 kn ik ty ra rb rd iw fl sg e lq (by omega) (by omega) hTl) (cwV 2 hts gX3_shownTo_X3_readingAge rfl rfl rfl (by decide +kernel) ⟨Nat.le_of_ble_eq_true rfl, Nat.le_of_ble_eq_true rfl⟩) hK hN hP hD [0, 1] rfl (by decide) (ci := 3) rfl rfl rfl hl.1 rfl (Nat.le_of_ble_eq_true rfl) dX3_shownTo_46 ⟨Nat.zero_le _, Nat.zero_le _⟩ (fun r46 h46 => ?_)
            subst h46
            refine zk_ige (tgt := 57) hx hb dX3_shownTo_49 (by decide) (by omega) (by omega) (fun c49 => ?_) (fun c49 => ?_)
            · refine lv_iload hx hb dX3_shownTo_57 (lv_at hl 5 rfl) ?_
              refine lv_istore (lv' := [(4, .int (nI lq)), (6, .int (nI (rdg sg e kX))), (0, .ref b0), (1, .int (nI e)), (2, .int (nI ag)), (3, .int (-5)), (5, .int (nI kX))]) hx hb dX3_shownTo_59 hl (by decide) rfl (fun ls hl => ?_)
              exact jn61 (nI lq) _ (by show _ = enc (lsStep (rdg sg e) kX (lsA (rdg sg e) kX)); rw [hq]; unfold lsStep; simp only; first | rfl | (rw [if_pos (by omega)] <;> rfl) | (rw [if_neg (by omega)] <;> rfl)) (lv_sub hl [2, 3, 4, 5, 6, 1, 0] rfl)
            · refine lv_iload hx hb dX3_shownTo_52 (lv_at hl 6 rfl) ?_
              refine lv_goto (tgt := 59) hx hb dX3_shownTo_54 (by decide) ?_
              refine lv_istore (lv' := [(4, .int (nI kX)), (6, .int (nI (rdg sg e kX))), (0, .ref b0), (1, .int (nI e)), (2, .int (nI ag)), (3, .int (-5)), (5, .int (nI kX))]) hx hb dX3_shownTo_59 hl (by decide) rfl (fun ls hl => ?_)
              exact jn61 (nI kX) _ (by show _ = enc (lsStep (rdg sg e) kX (lsA (rdg sg e) kX)); rw [hq]; unfold lsStep; simp only; first | rfl | (rw [if_pos (by omega)] <;> rfl) | (rw [if_neg (by omega)] <;> rfl)) (lv_sub hl [2, 3, 4, 5, 6, 1, 0] rfl)
        · have hf : xf = nI fq := by rw [hf, hq2]; rfl
          subst hf
          have hfq := ftA_lt _ hq2
          have hTf := hM.2.2 e fq he (by omega)
          have hwf := hTf.1.2
          have hrf := rdg_le hTf
          refine lv_aload_n hx hb dX3_shownTo_24 rfl (lv_at hl 0 rfl) ?_
          refine lv_iload_n hx hb dX3_shownTo_25 rfl (lv_at hl 1 rfl) ?_
          refine lv_iload hx hb dX3_shownTo_26 (lv_at hl 5 rfl) ?_
          refine zc_R (As := [.int (nI e), .int (nI kX)]) (rest := []) ⟨hx, hb, hml, hown, hts⟩ (c_readingAge l G b0 b1 b2 b3 b4 b5 b6 kn ik ty ra rb rd iw fl sg e kX (by omega) (by omega) hTk) (cwV 2 hts gX3_shownTo_X3_readingAge rfl rfl rfl (by decide +kernel) ⟨Nat.le_of_ble_eq_true rfl, Nat.le_of_ble_eq_true rfl⟩) hK hN hP hD [0, 1] rfl (by decide) (ci := 3) rfl rfl rfl hl.1 rfl (Nat.le_of_ble_eq_true rfl) dX3_shownTo_28 ⟨Nat.zero_le _, Nat.zero_le _⟩ (fun r28 h28 => ?_)
          subst h28
          refine lv_istore (lv' := [(6, .int (nI (rdg sg e kX))), (0, .ref b0), (1, .int (nI e)), (2, .int (nI ag)), (3, .int (nI fq)), (4, .int xl), (5, .int (nI kX))]) hx hb dX3_shownTo_31 hl (by decide) rfl (fun ls hl => ?_)
          have jn61 : ∀ (yl : Int32) (ls : Array Slot), (yl = enc (lsA (rdg sg e) (kX + 1))) → lv_has ls 9 [(0, .ref b0), (1, .int (nI e)), (2, .int (nI ag)), (3, .int (nI fq)), (5, .int (nI kX)), (6, .int (nI (rdg sg e kX))), (4, .int yl)] → W pP l eE (headSpec wsX3_shownTo ({ frames := 3, cells := 0, slots := 0, locals := 65 } : Room)).room sS mM ([.ref b0, .int (nI e), .int (nI ag)] : List Value).toArray below meth cC sS.heap [] 0 0 (MQ below (vp_Si (fun (rR : Int32) => rR = enc (shT sg e ag))) ([.ref b0, .int (nI e), .int (nI ag)] : List Value).toArray sS 0 0 (fun _ => False)) (F0 mM 61 ls []) := by
            intro yl ls hyl hl
            refine lv_iload_n hx hb dX3_shownTo_61 rfl (lv_at hl 3 rfl) ?_
            refine lv_bipush (v := (-5)) hx hb dX3_shownTo_62 (by decide) ?_
            refine lv_icmp_ne (tgt := 71) hx hb dX3_shownTo_64 (by decide) (fun _ => ?_) (fun q => absurd q (enc_ne (by omega)))
            refine lv_iload hx hb dX3_shownTo_71 (lv_at hl 5 rfl) ?_
            refine lv_aload_n hx hb dX3_shownTo_73 rfl (lv_at hl 0 rfl) ?_
            refine lv_iload_n hx hb dX3_shownTo_74 rfl (lv_at hl 1 rfl) ?_
            refine lv_iload_n hx hb dX3_shownTo_75 rfl (lv_at hl 3 rfl) ?_
            refine zc_R (As := [.int (nI e), .int (nI fq)]) (rest := [.int (nI (rdg sg e kX))]) ⟨hx, hb, hml, hown, hts⟩ (c_readingAge l G b0 b1 b2 b3 b4 b5 b6 kn ik ty ra rb rd iw fl sg e fq (by omega) (by omega) hTf) (cwV 2 hts gX3_shownTo_X3_readingAge rfl rfl rfl (by decide +kernel) ⟨Nat.le_of_ble_eq_true rfl, Nat.le_of_ble_eq_true rfl⟩) hK hN hP hD [0, 1] rfl (by decide) (ci := 3) rfl rfl rfl hl.1 rfl (Nat.le_of_ble_eq_true rfl) dX3_shownTo_76 ⟨Nat.zero_le _, Nat.zero_le _⟩ (fun r76 h76 => ?_)
            subst h76
            refine lv_isub hx hb dX3_shownTo_79 ?_
            refine lv_istore (lv' := [(7, .int ((nI (rdg sg e kX)) - (nI (rdg sg e fq)))), (0, .ref b0), (1, .int (nI e)), (2, .int (nI ag)), (3, .int (nI fq)), (5, .int (nI kX)), (6, .int (nI (rdg sg e kX))), (4, .int yl)]) hx hb dX3_shownTo_80 hl (by decide) rfl (fun ls hl => ?_)
            refine lv_iload_n hx hb dX3_shownTo_82 rfl (lv_at hl 4 rfl) ?_
            refine lv_bipush (v := (-5)) hx hb dX3_shownTo_83 (by decide) ?_
            refine lv_icmp_eq (tgt := 118) hx hb dX3_shownTo_85 (by decide) (fun q => absurd q (enc_ne (by omega))) (fun _ => ?_)
            refine lv_aload_n hx hb dX3_shownTo_88 rfl (lv_at hl 1 rfl) ?_
            refine va_get (D := G.1) (ci := 3) (v := .ref b1) (C := RX3) (T := TX3) (N := 14) hx hb hts mic_shownTo_3 hown hK hP 0 rfl rfl 0 (by decide) (hts _ mwc_shownTo_0) (fun _ h9 => h9) rfl dX3_shownTo_89 ?_
            refine lv_iload_n hx hb dX3_shownTo_92 rfl (lv_at hl 2 rfl) ?_
            refine lv_iload hx hb dX3_shownTo_93 (lv_at hl 5 rfl) ?_
            refine lv_iconst (v := nI 0) hx hb dX3_shownTo_95 (by decide) ?_
            refine zc_S (As := [.int (nI e), .int (nI kX), .int (nI 0)]) (rest := [.ref b1]) ⟨hx, hb, hml, hown, hts⟩ (c_of l e kX 0 ) (va_cwS 3 hts gX3_shownTo_X3_of rfl rfl rfl (by decide +kernel) ⟨Nat.le_of_ble_eq_true rfl, Nat.le_of_ble_eq_true rfl⟩) rfl hl.1 rfl (Nat.le_of_ble_eq_true rfl) dX3_shownTo_96 ⟨Nat.zero_le _, Nat.zero_le _⟩ (fun r96 h96 => ?_)
            subst h96
            refine zk_ald (f := sg) (k := 11 + 76 * e + 15 * kX + 0) hx hb hK hP 1 0 rfl rfl (Nat.le_of_ble_eq_true rfl) (by omega) dX3_shownTo_99 ?_
            refine lv_aload_n hx hb dX3_shownTo_100 rfl (lv_at hl 1 rfl) ?_
            refine va_get (D := G.1) (ci := 3) (v := .ref b1) (C := RX3) (T := TX3) (N := 14) hx hb hts mic_shownTo_3 hown hK hP 0 rfl rfl 0 (by decide) (hts _ mwc_shownTo_0) (fun _ h9 => h9) rfl dX3_shownTo_101 ?_
            refine lv_iload_n hx hb dX3_shownTo_104 rfl (lv_at hl 2 rfl) ?_
            refine lv_iload_n hx hb dX3_shownTo_105 rfl (lv_at hl 4 rfl) ?_
            refine lv_iconst (v := nI 0) hx hb dX3_shownTo_106 (by decide) ?_
            refine zc_S (As := [.int (nI e), .int (nI fq), .int (nI 0)]) (rest := [.ref b1, .int (nI (sg (11 + 76 * e + 15 * kX + 0)))]) ⟨hx, hb, hml, hown, hts⟩ (c_of l e fq 0 ) (va_cwS 3 hts gX3_shownTo_X3_of rfl rfl rfl (by decide +kernel) ⟨Nat.le_of_ble_eq_true rfl, Nat.le_of_ble_eq_true rfl⟩) rfl hl.1 rfl (Nat.le_of_ble_eq_true rfl) dX3_shownTo_107 ⟨Nat.zero_le _, Nat.zero_le _⟩ (fun r107 h107 => ?_)
            subst h107
            refine zk_ald (f := sg) (k := 11 + 76 * e + 15 * fq + 0) hx hb hK hP 1 0 rfl rfl (Nat.le_of_ble_eq_true rfl) (by omega) dX3_shownTo_110 ?_
            refine zk_ige (tgt := 118) hx hb dX3_shownTo_111 (by decide) (by omega) (by omega) (fun c111 => ?_) (fun c111 => ?_)
            · refine lv_iconst (v := nI 0) hx hb dX3_shownTo_118 (by decide) ?_
              refine lv_istore (lv' := [(8, .int (nI 0)), (7, .int ((nI (rdg sg e kX)) - (nI (rdg sg e fq)))), (0, .ref b0), (1, .int (nI e)), (2, .int (nI ag)), (3, .int (nI fq)), (5, .int (nI kX)), (6, .int (nI (rdg sg e kX))), (4, .int yl)]) hx hb dX3_shownTo_119 hl (by decide) rfl (fun ls hl => ?_)
              refine lv_iload hx hb dX3_shownTo_121 (lv_at hl 7 rfl) ?_
              refine lv_iload_n hx hb dX3_shownTo_123 rfl (lv_at hl 4 rfl) ?_
              refine zk_igt (tgt := 147) hx hb dX3_shownTo_124 (by decide) (by omega) (by omega) (fun c124 => ?_) (fun c124 => ?_)
              · refine lv_iload_n hx hb dX3_shownTo_147 rfl (lv_at hl 5 rfl) ?_
                refine lv_istore_n (lv' := [(3, .int (nI fq)), (8, .int (nI 0)), (7, .int ((nI (rdg sg e kX)) - (nI (rdg sg e fq)))), (0, .ref b0), (1, .int (nI e)), (2, .int (nI ag)), (5, .int (nI kX)), (6, .int (nI (rdg sg e kX))), (4, .int yl)]) hx hb dX3_shownTo_148 rfl hl (by decide) rfl (fun ls hl => ?_)
                refine zk_inc (a := kX) (d := 1) (lv' := [(5, .int (nI (kX + 1))), (3, .int (nI fq)), (8, .int (nI 0)), (7, .int ((nI (rdg sg e kX)) - (nI (rdg sg e fq)))), (0, .ref b0), (1, .int (nI e)), (2, .int (nI ag)), (6, .int (nI (rdg sg e kX))), (4, .int yl)]) hx hb dX3_shownTo_149 hl (K := 6) rfl (by decide) (by decide) rfl (fun ls hl => ?_)
                refine lv_goto (tgt := 10) hx hb dX3_shownTo_152 (by decide) ?_
                exact ih (kX + 1) (nI fq) yl _ (by omega) (by omega) (by show _ = enc (ftStep (rdg sg e) (wdF sg e) ag kX (ftA (rdg sg e) (wdF sg e) ag kX)); rw [hq2]; unfold ftStep; simp only [wdF]; first | rfl | (rw [if_pos (by omega)] <;> rfl) | (rw [if_neg (by omega)] <;> rfl)) hyl (lv_sub hl [4, 5, 6, 1, 8, 0] rfl)
              · refine lv_iload hx hb dX3_shownTo_127 (lv_at hl 1 rfl) ?_
                refine lv_if_gt (tgt := 142) hx hb dX3_shownTo_129 (by decide) (fun c129 => ?_) (fun c129 => ?_)
                · have d129 := (zd_gt (by omega) (by omega)).mp c129
                  refine lv_iload hx hb dX3_shownTo_142 (lv_at hl 6 rfl) ?_
                  refine lv_goto (tgt := 148) hx hb dX3_shownTo_144 (by decide) ?_
                  refine lv_istore_n (lv' := [(3, .int (nI kX)), (8, .int (nI 0)), (7, .int ((nI (rdg sg e kX)) - (nI (rdg sg e fq)))), (0, .ref b0), (1, .int (nI e)), (2, .int (nI ag)), (5, .int (nI kX)), (6, .int (nI (rdg sg e kX))), (4, .int yl)]) hx hb dX3_shownTo_148 rfl hl (by decide) rfl (fun ls hl => ?_)
                  refine zk_inc (a := kX) (d := 1) (lv' := [(5, .int (nI (kX + 1))), (3, .int (nI kX)), (8, .int (nI 0)), (7, .int ((nI (rdg sg e kX)) - (nI (rdg sg e fq)))), (0, .ref b0), (1, .int (nI e)), (2, .int (nI ag)), (6, .int (nI (rdg sg e kX))), (4, .int yl)]) hx hb dX3_shownTo_149 hl (K := 6) rfl (by decide) (by decide) rfl (fun ls hl => ?_)
                  refine lv_goto (tgt := 10) hx hb dX3_shownTo_152 (by decide) ?_
                  exact ih (kX + 1) (nI kX) yl _ (by omega) (by omega) (by show _ = enc (ftStep (rdg sg e) (wdF sg e) ag kX (ftA (rdg sg e) (wdF sg e) ag kX)); rw [hq2]; unfold ftStep; simp only [wdF]; first | rfl | (rw [if_pos (by omega)] <;> rfl) | (rw [if_neg (by omega)] <;> rfl)) hyl (lv_sub hl [4, 5, 6, 1, 8, 0] rfl)
                · have d129 : ¬ rdg sg e fq < rdg sg e kX := fun q => c129 ((zd_gt (by omega) (by omega)).mpr q)
                  refine lv_iload hx hb dX3_shownTo_132 (lv_at hl 1 rfl) ?_
                  refine lv_if_ne (tgt := 147) hx hb dX3_shownTo_134 (by decide) (fun c134 => ?_) (fun c134 => ?_)
                  · have d134 : ¬ rdg sg e kX = rdg sg e fq := fun q => c134 ((zd_eq (by omega) (by omega)).mpr q)
                    refine lv_iload_n hx hb dX3_shownTo_147 rfl (lv_at hl 5 rfl) ?_
                    refine lv_istore_n (lv' := [(3, .int (nI fq)), (8, .int (nI 0)), (7, .int ((nI (rdg sg e kX)) - (nI (rdg sg e fq)))), (0, .ref b0), (1, .int (nI e)), (2, .int (nI ag)), (5, .int (nI kX)), (6, .int (nI (rdg sg e kX))), (4, .int yl)]) hx hb dX3_shownTo_148 rfl hl (by decide) rfl (fun ls hl => ?_)
                    refine zk_inc (a := kX) (d := 1) (lv' := [(5, .int (nI (kX + 1))), (3, .int (nI fq)), (8, .int (nI 0)), (7, .int ((nI (rdg sg e kX)) - (nI (rdg sg e fq)))), (0, .ref b0), (1, .int (nI e)), (2, .int (nI ag)), (6, .int (nI (rdg sg e kX))), (4, .int yl)]) hx hb dX3_shownTo_149 hl (K := 6) rfl (by decide) (by decide) rfl (fun ls hl => ?_)
                    refine lv_goto (tgt := 10) hx hb dX3_shownTo_152 (by decide) ?_
                    exact ih (kX + 1) (nI fq) yl _ (by omega) (by omega) (by show _ = enc (ftStep (rdg sg e) (wdF sg e) ag kX (ftA (rdg sg e) (wdF sg e) ag kX)); rw [hq2]; unfold ftStep; simp only [wdF]; first | rfl | (rw [if_pos (by omega)] <;> rfl) | (rw [if_neg (by omega)] <;> rfl)) hyl (lv_sub hl [4, 5, 6, 1, 8, 0] rfl)
                  · have d134 := (zd_eq (by omega) (by omega)).mp c134
                    refine lv_iload hx hb dX3_shownTo_137 (lv_at hl 0 rfl) ?_
                    refine lv_if_eq (tgt := 147) hx hb dX3_shownTo_139 (by decide) (fun _ => ?_) (fun q => absurd (by decide) q)
                    refine lv_iload_n hx hb dX3_shownTo_147 rfl (lv_at hl 5 rfl) ?_
                    refine lv_istore_n (lv' := [(3, .int (nI fq)), (8, .int (nI 0)), (7, .int ((nI (rdg sg e kX)) - (nI (rdg sg e fq)))), (0, .ref b0), (1, .int (nI e)), (2, .int (nI ag)), (5, .int (nI kX)), (6, .int (nI (rdg sg e kX))), (4, .int yl)]) hx hb dX3_shownTo_148 rfl hl (by decide) rfl (fun ls hl => ?_)
                    refine zk_inc (a := kX) (d := 1) (lv' := [(5, .int (nI (kX + 1))), (3, .int (nI fq)), (8, .int (nI 0)), (7, .int ((nI (rdg sg e kX)) - (nI (rdg sg e fq)))), (0, .ref b0), (1, .int (nI e)), (2, .int (nI ag)), (6, .int (nI (rdg sg e kX))), (4, .int yl)]) hx hb dX3_shownTo_149 hl (K := 6) rfl (by decide) (by decide) rfl (fun ls hl => ?_)
                    refine lv_goto (tgt := 10) hx hb dX3_shownTo_152 (by decide) ?_
                    exact ih (kX + 1) (nI fq) yl _ (by omega) (by omega) (by show _ = enc (ftStep (rdg sg e) (wdF sg e) ag kX (ftA (rdg sg e) (wdF sg e) ag kX)); rw [hq2]; unfold ftStep; simp only [wdF]; first | rfl | (rw [if_pos (by omega)] <;> rfl) | (rw [if_neg (by omega)] <;> rfl)) hyl (lv_sub hl [4, 5, 6, 1, 8, 0] rfl)
            · refine lv_iconst (v := nI 1) hx hb dX3_shownTo_114 (by decide) ?_
              refine lv_goto (tgt := 119) hx hb dX3_shownTo_115 (by decide) ?_
              refine lv_istore (lv' := [(8, .int (nI 1)), (7, .int ((nI (rdg sg e kX)) - (nI (rdg sg e fq)))), (0, .ref b0), (1, .int (nI e)), (2, .int (nI ag)), (3, .int (nI fq)), (5, .int (nI kX)), (6, .int (nI (rdg sg e kX))), (4, .int yl)]) hx hb dX3_shownTo_119 hl (by decide) rfl (fun ls hl => ?_)
              refine lv_iload hx hb dX3_shownTo_121 (lv_at hl 7 rfl) ?_
              refine lv_iload_n hx hb dX3_shownTo_123 rfl (lv_at hl 4 rfl) ?_
              refine zk_igt (tgt := 147) hx hb dX3_shownTo_124 (by decide) (by omega) (by omega) (fun c124 => ?_) (fun c124 => ?_)
              · refine lv_iload_n hx hb dX3_shownTo_147 rfl (lv_at hl 5 rfl) ?_
                refine lv_istore_n (lv' := [(3, .int (nI fq)), (8, .int (nI 1)), (7, .int ((nI (rdg sg e kX)) - (nI (rdg sg e fq)))), (0, .ref b0), (1, .int (nI e)), (2, .int (nI ag)), (5, .int (nI kX)), (6, .int (nI (rdg sg e kX))), (4, .int yl)]) hx hb dX3_shownTo_148 rfl hl (by decide) rfl (fun ls hl => ?_)
                refine zk_inc (a := kX) (d := 1) (lv' := [(5, .int (nI (kX + 1))), (3, .int (nI fq)), (8, .int (nI 1)), (7, .int ((nI (rdg sg e kX)) - (nI (rdg sg e fq)))), (0, .ref b0), (1, .int (nI e)), (2, .int (nI ag)), (6, .int (nI (rdg sg e kX))), (4, .int yl)]) hx hb dX3_shownTo_149 hl (K := 6) rfl (by decide) (by decide) rfl (fun ls hl => ?_)
                refine lv_goto (tgt := 10) hx hb dX3_shownTo_152 (by decide) ?_
                exact ih (kX + 1) (nI fq) yl _ (by omega) (by omega) (by show _ = enc (ftStep (rdg sg e) (wdF sg e) ag kX (ftA (rdg sg e) (wdF sg e) ag kX)); rw [hq2]; unfold ftStep; simp only [wdF]; first | rfl | (rw [if_pos (by omega)] <;> rfl) | (rw [if_neg (by omega)] <;> rfl)) hyl (lv_sub hl [4, 5, 6, 1, 8, 0] rfl)
              · refine lv_iload hx hb dX3_shownTo_127 (lv_at hl 1 rfl) ?_
                refine lv_if_gt (tgt := 142) hx hb dX3_shownTo_129 (by decide) (fun c129 => ?_) (fun c129 => ?_)
                · have d129 := (zd_gt (by omega) (by omega)).mp c129
                  refine lv_iload hx hb dX3_shownTo_142 (lv_at hl 6 rfl) ?_
                  refine lv_goto (tgt := 148) hx hb dX3_shownTo_144 (by decide) ?_
                  refine lv_istore_n (lv' := [(3, .int (nI kX)), (8, .int (nI 1)), (7, .int ((nI (rdg sg e kX)) - (nI (rdg sg e fq)))), (0, .ref b0), (1, .int (nI e)), (2, .int (nI ag)), (5, .int (nI kX)), (6, .int (nI (rdg sg e kX))), (4, .int yl)]) hx hb dX3_shownTo_148 rfl hl (by decide) rfl (fun ls hl => ?_)
                  refine zk_inc (a := kX) (d := 1) (lv' := [(5, .int (nI (kX + 1))), (3, .int (nI kX)), (8, .int (nI 1)), (7, .int ((nI (rdg sg e kX)) - (nI (rdg sg e fq)))), (0, .ref b0), (1, .int (nI e)), (2, .int (nI ag)), (6, .int (nI (rdg sg e kX))), (4, .int yl)]) hx hb dX3_shownTo_149 hl (K := 6) rfl (by decide) (by decide) rfl (fun ls hl => ?_)
                  refine lv_goto (tgt := 10) hx hb dX3_shownTo_152 (by decide) ?_
                  exact ih (kX + 1) (nI kX) yl _ (by omega) (by omega) (by show _ = enc (ftStep (rdg sg e) (wdF sg e) ag kX (ftA (rdg sg e) (wdF sg e) ag kX)); rw [hq2]; unfold ftStep; simp only [wdF]; first | rfl | (rw [if_pos (by omega)] <;> rfl) | (rw [if_neg (by omega)] <;> rfl)) hyl (lv_sub hl [4, 5, 6, 1, 8, 0] rfl)
                · have d129 : ¬ rdg sg e fq < rdg sg e kX := fun q => c129 ((zd_gt (by omega) (by omega)).mpr q)
                  refine lv_iload hx hb dX3_shownTo_132 (lv_at hl 1 rfl) ?_
                  refine lv_if_ne (tgt := 147) hx hb dX3_shownTo_134 (by decide) (fun c134 => ?_) (fun c134 => ?_)
                  · have d134 : ¬ rdg sg e kX = rdg sg e fq := fun q => c134 ((zd_eq (by omega) (by omega)).mpr q)
                    refine lv_iload_n hx hb dX3_shownTo_147 rfl (lv_at hl 5 rfl) ?_
                    refine lv_istore_n (lv' := [(3, .int (nI fq)), (8, .int (nI 1)), (7, .int ((nI (rdg sg e kX)) - (nI (rdg sg e fq)))), (0, .ref b0), (1, .int (nI e)), (2, .int (nI ag)), (5, .int (nI kX)), (6, .int (nI (rdg sg e kX))), (4, .int yl)]) hx hb dX3_shownTo_148 rfl hl (by decide) rfl (fun ls hl => ?_)
                    refine zk_inc (a := kX) (d := 1) (lv' := [(5, .int (nI (kX + 1))), (3, .int (nI fq)), (8, .int (nI 1)), (7, .int ((nI (rdg sg e kX)) - (nI (rdg sg e fq)))), (0, .ref b0), (1, .int (nI e)), (2, .int (nI ag)), (6, .int (nI (rdg sg e kX))), (4, .int yl)]) hx hb dX3_shownTo_149 hl (K := 6) rfl (by decide) (by decide) rfl (fun ls hl => ?_)
                    refine lv_goto (tgt := 10) hx hb dX3_shownTo_152 (by decide) ?_
                    exact ih (kX + 1) (nI fq) yl _ (by omega) (by omega) (by show _ = enc (ftStep (rdg sg e) (wdF sg e) ag kX (ftA (rdg sg e) (wdF sg e) ag kX)); rw [hq2]; unfold ftStep; simp only [wdF]; first | rfl | (rw [if_pos (by omega)] <;> rfl) | (rw [if_neg (by omega)] <;> rfl)) hyl (lv_sub hl [4, 5, 6, 1, 8, 0] rfl)
                  · have d134 := (zd_eq (by omega) (by omega)).mp c134
                    refine lv_iload hx hb dX3_shownTo_137 (lv_at hl 0 rfl) ?_
                    refine lv_if_eq (tgt := 147) hx hb dX3_shownTo_139 (by decide) (fun q => absurd q (by decide)) (fun _ => ?_)
                    refine lv_iload hx hb dX3_shownTo_142 (lv_at hl 6 rfl) ?_
                    refine lv_goto (tgt := 148) hx hb dX3_shownTo_144 (by decide) ?_
                    refine lv_istore_n (lv' := [(3, .int (nI kX)), (8, .int (nI 1)), (7, .int ((nI (rdg sg e kX)) - (nI (rdg sg e fq)))), (0, .ref b0), (1, .int (nI e)), (2, .int (nI ag)), (5, .int (nI kX)), (6, .int (nI (rdg sg e kX))), (4, .int yl)]) hx hb dX3_shownTo_148 rfl hl (by decide) rfl (fun ls hl => ?_)
                    refine zk_inc (a := kX) (d := 1) (lv' := [(5, .int (nI (kX + 1))), (3, .int (nI kX)), (8, .int (nI 1)), (7, .int ((nI (rdg sg e kX)) - (nI (rdg sg e fq)))), (0, .ref b0), (1, .int (nI e)), (2, .int (nI ag)), (6, .int (nI (rdg sg e kX))), (4, .int yl)]) hx hb dX3_shownTo_149 hl (K := 6) rfl (by decide) (by decide) rfl (fun ls hl => ?_)
                    refine lv_goto (tgt := 10) hx hb dX3_shownTo_152 (by decide) ?_
                    exact ih (kX + 1) (nI kX) yl _ (by omega) (by omega) (by show _ = enc (ftStep (rdg sg e) (wdF sg e) ag kX (ftA (rdg sg e) (wdF sg e) ag kX)); rw [hq2]; unfold ftStep; simp only [wdF]; first | rfl | (rw [if_pos (by omega)] <;> rfl) | (rw [if_neg (by omega)] <;> rfl)) hyl (lv_sub hl [4, 5, 6, 1, 8, 0] rfl)
          rcases hq : lsA (rdg sg e) kX with _ | lq
          · have hls : xl = -5 := by rw [hls, hq]; rfl
            subst hls
            refine lv_iload hx hb dX3_shownTo_33 (lv_at hl 5 rfl) ?_
            refine lv_bipush (v := (-5)) hx hb dX3_shownTo_35 (by decide) ?_
            refine lv_icmp_eq (tgt := 52) hx hb dX3_shownTo_37 (by decide) (fun _ => ?_) (fun q => absurd (by decide) q)
            refine lv_iload hx hb dX3_shownTo_52 (lv_at hl 6 rfl) ?_
            refine lv_goto (tgt := 59) hx hb dX3_shownTo_54 (by decide) ?_
            refine lv_istore (lv' := [(4, .int (nI kX)), (6, .int (nI (rdg sg e kX))), (0, .ref b0), (1, .int (nI e)), (2, .int (nI ag)), (3, .int (nI fq)), (5, .int (nI kX))]) hx hb dX3_shownTo_59 hl (by decide) rfl (fun ls hl => ?_)
            exact jn61 (nI kX) _ (by show _ = enc (lsStep (rdg sg e) kX (lsA (rdg sg e) kX)); rw [hq]; unfold lsStep; simp only; first | rfl | (rw [if_pos (by omega)] <;> rfl) | (rw [if_neg (by omega)] <;> rfl)) (lv_sub hl [2, 3, 4, 5, 6, 1, 0] rfl)
          · have hls : xl = nI lq := by rw [hls, hq]; rfl
            subst hls
            have hlq := lsA_lt _ hq
            have hTl := hM.2.2 e lq he (by omega)
            have hrl := rdg_le hTl
            refine lv_iload hx hb dX3_shownTo_33 (lv_at hl 5 rfl) ?_
            refine lv_bipush (v := (-5)) hx hb dX3_shownTo_35 (by decide) ?_
            refine lv_icmp_eq (tgt := 52) hx hb dX3_shownTo_37 (by decide) (fun q => absurd q (enc_ne (by omega))) (fun _ => ?_)
            refine lv_iload hx hb dX3_shownTo_40 (lv_at hl 0 rfl) ?_
            refine lv_aload_n hx hb dX3_shownTo_42 rfl (lv_at hl 1 rfl) ?_
            refine lv_iload_n hx hb dX3_shownTo_43 rfl (lv_at hl 2 rfl) ?_
            refine lv_iload hx hb dX3_shownTo_44 (lv_at hl 5 rfl) ?_
            refine zc_R (As := [.int (nI e), .int (nI lq)]) (rest := [.int (nI (rdg sg e kX))]) ⟨hx, hb, hml, hown, hts⟩ (c_readingAge l G b0 b1 b2 b3 b4 b5 b6 kn ik ty ra rb rd iw fl sg e lq (by omega) (by omega) hTl) (cwV 2 hts gX3_shownTo_X3_readingAge rfl rfl rfl (by decide +kernel) ⟨Nat.le_of_ble_eq_true rfl, Nat.le_of_ble_eq_true rfl⟩) hK hN hP hD [0, 1] rfl (by decide) (ci := 3) rfl rfl rfl hl.1 rfl (Nat.le_of_ble_eq_true rfl) dX3_shownTo_46 ⟨Nat.zero_le _, Nat.zero_le _⟩ (fun r46 h46 => ?_)
            subst h46
            refine zk_ige (tgt := 57) hx hb dX3_shownTo_49 (by decide) (by omega) (by omega) (fun c49 => ?_) (fun c49 => ?_)
            · refine lv_iload hx hb dX3_shownTo_57 (lv_at hl 5 rfl) ?_
              refine lv_istore (lv' := [(4, .int (nI lq)), (6, .int (nI (rdg sg e kX))), (0, .ref b0), (1, .int (nI e)), (2, .int (nI ag)), (3, .int (nI fq)), (5, .int (nI kX))]) hx hb dX3_shownTo_59 hl (by decide) rfl (fun ls hl => ?_)
              exact jn61 (nI lq) _ (by show _ = enc (lsStep (rdg sg e) kX (lsA (rdg sg e) kX)); rw [hq]; unfold lsStep; simp only; first | rfl | (rw [if_pos (by omega)] <;> rfl) | (rw [if_neg (by omega)] <;> rfl)) (lv_sub hl [2, 3, 4, 5, 6, 1, 0] rfl)
            · refine lv_iload hx hb dX3_shownTo_52 (lv_at hl 6 rfl) ?_
              refine lv_goto (tgt := 59) hx hb dX3_shownTo_54 (by decide) ?_
              refine lv_istore (lv' := [(4, .int (nI kX)), (6, .int (nI (rdg sg e kX))), (0, .ref b0), (1, .int (nI e)), (2, .int (nI ag)), (3, .int (nI fq)), (5, .int (nI kX))]) hx hb dX3_shownTo_59 hl (by decide) rfl (fun ls hl => ?_)
              exact jn61 (nI kX) _ (by show _ = enc (lsStep (rdg sg e) kX (lsA (rdg sg e) kX)); rw [hq]; unfold lsStep; simp only; first | rfl | (rw [if_pos (by omega)] <;> rfl) | (rw [if_neg (by omega)] <;> rfl)) (lv_sub hl [2, 3, 4, 5, 6, 1, 0] rfl)
  exact lp10 _ 0 (-5) (-5) _ (Nat.lt_succ_self _) (by omega) rfl rfl (lv_sub hl [3, 4, 5, 2, 1, 0] rfl)
