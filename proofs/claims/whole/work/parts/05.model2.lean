set_option maxRecDepth 100000 in
theorem mwc_know_0 : Cond.fieldLink RX3 55 "ExhibitTextsModel" "known" "I" ∈ wsX3_know := by decide +kernel
set_option maxRecDepth 100000 in
theorem mic_know_3 : ∀ w ∈ u_ws RX3 TX3 14, w ∈ wsX3_know := by decide +kernel
set_option maxRecDepth 100000 in
theorem mwc_know_2 : Cond.fieldLink RX3 16 "ExhibitTextsModel" "before" "[I" ∈ wsX3_know := by decide +kernel
set_option maxRecDepth 100000 in
theorem mwc_know_3 : Cond.fieldLink RX3 7 "ExhibitTextsModel" "s" "[I" ∈ wsX3_know := by decide +kernel
set_option maxHeartbeats 4000000 in
set_option maxRecDepth 100000 in
/-- X3_know: what was there is recorded; of five the oldest goes -/
theorem c_know (l : Launch) (G : zG) (b0 : Nat) (b1 : Nat) (b2 : Nat) (b3 : Nat) (b4 : Nat) (b5 : Nat) (b6 : Nat) (kn : Nat) (ik : Nat) (ty : Nat) (ra : Int32) (rb : Int32) (rd : Nat) (iw : Nat) (fl : Int32) (sg : Nat → Nat) (be : Nat → Nat) (hkn : kn ≤ 4) : Met l yX3_know wsX3_know ({ frames := 0, cells := 0, slots := 0, locals := 0 } : Room) (zPc G [.ref b0] [(b0, .inr (3, [.ref b1, .ref b2, .ref b3, .int (nI kn), .ref b4, .int (nI ik), .ref b5, .int (nI ty), .int ra, .int rb, .int (nI rd), .int (nI iw), .ref b6, .int fl])), (b1, .inl (G.2.1, 618, .inl (arN sg))), (b3, .inl (G.2.1, 2472, .inl (arN be)))]) (va_Qv (fun (uU : Nat × (Nat → Nat)) => uU = (knK kn, knB kn be sg)) (fun uU tT => va_P G.1 vwCl ((fun (uU : Nat × (Nat → Nat)) => ([(b0, .inr (3, [.ref b1, .ref b2, .ref b3, .int (nI uU.1), .ref b4, .int (nI ik), .ref b5, .int (nI ty), .int ra, .int rb, .int (nI rd), .int (nI iw), .ref b6, .int fl])), (b1, .inl (G.2.1, 618, .inl (arN sg))), (b3, .inl (G.2.1, 2472, .inl (arN uU.2)))] : va_W)) uU) tT.heap) (zIn [(b0, .inr (3, [.ref b1, .ref b2, .ref b3, .int (nI kn), .ref b4, .int (nI ik), .ref b5, .int (nI ty), .int ra, .int rb, .int (nI rd), .int (nI iw), .ref b6, .int fl])), (b1, .inl (G.2.1, 618, .inl (arN sg))), (b3, .inl (G.2.1, 2472, .inl (arN be)))])) 0 0 (zIn [(b0, .inr (3, [.ref b1, .ref b2, .ref b3, .int (nI kn), .ref b4, .int (nI ik), .ref b5, .int (nI ty), .int ra, .int rb, .int (nI rd), .int (nI iw), .ref b6, .int fl])), (b1, .inl (G.2.1, 618, .inl (arN sg))), (b3, .inl (G.2.1, 2472, .inl (arN be)))]) := by
  refine zM (cc := cX3_know) (maxL := 2) (ret := none) (by decide) rfl (Nat.le_of_ble_eq_true rfl) ?_
  intro pP eE sS mM below meth cC hx hb hr hts hown hlk hml hnm hK hN hP hD hS ls hl
  have hl : lv_has ls 2 [(0, .ref b0)] := hl
  refine lv_aload_n hx hb dX3_know_0 rfl (lv_at hl 0 rfl) ?_
  refine va_get (D := G.1) (ci := 3) (v := .int (nI kn)) (C := RX3) (T := TX3) (N := 14) hx hb hts mic_know_3 hown hK hP 0 rfl rfl 3 (by decide) (hts _ mwc_know_0) (fun _ h9 => h9) rfl dX3_know_1 ?_
  refine lv_iconst (v := nI 4) hx hb dX3_know_4 (by decide) ?_
  refine zk_ine (tgt := 49) hx hb dX3_know_5 (by decide) (by omega) (by omega) (fun c5 => ?_) (fun c5 => ?_)
  · refine lv_iconst (v := nI 0) hx hb dX3_know_49 (by decide) ?_
    refine lv_istore_n (lv' := [(1, .int (nI 0)), (0, .ref b0)]) hx hb dX3_know_50 rfl hl (by decide) rfl (fun ls hl => ?_)
    have lp51 : ∀ (fu51 : Nat), ∀ (jX : Nat) (H : Heap) (locs : List Loc) (ls : Array Slot), (618 - jX) < fu51 → (jX ≤ 618) → va_P G.1 vwCl [(b0, .inr (3, [.ref b1, .ref b2, .ref b3, .int (nI kn), .ref b4, .int (nI ik), .ref b5, .int (nI ty), .int ra, .int rb, .int (nI rd), .int (nI iw), .ref b6, .int fl])), (b1, .inl (G.2.1, 618, .inl (arN sg))), (b3, .inl (G.2.1, 2472, .inl (arN (cpF (be) sg (618 * kn) 0 jX))))] H → va_D (zIn [(b0, .inr (3, [.ref b1, .ref b2, .ref b3, .int (nI kn), .ref b4, .int (nI ik), .ref b5, .int (nI ty), .int ra, .int rb, .int (nI rd), .int (nI iw), .ref b6, .int fl])), (b1, .inl (G.2.1, 618, .inl (arN sg))), (b3, .inl (G.2.1, 2472, .inl (arN be)))]) [(b0, .inr (3, [.ref b1, .ref b2, .ref b3, .int (nI kn), .ref b4, .int (nI ik), .ref b5, .int (nI ty), .int ra, .int rb, .int (nI rd), .int (nI iw), .ref b6, .int fl])), (b1, .inl (G.2.1, 618, .inl (arN sg))), (b3, .inl (G.2.1, 2472, .inl (arN (cpF (be) sg (618 * kn) 0 jX))))] → va_S (zIn [(b0, .inr (3, [.ref b1, .ref b2, .ref b3, .int (nI kn), .ref b4, .int (nI ik), .ref b5, .int (nI ty), .int ra, .int rb, .int (nI rd), .int (nI iw), .ref b6, .int fl])), (b1, .inl (G.2.1, 618, .inl (arN sg))), (b3, .inl (G.2.1, 2472, .inl (arN be)))]) sS.heap H locs → lv_has ls 2 [(0, .ref b0), (1, .int (nI jX))] → W pP l eE (headSpec wsX3_know ({ frames := 0, cells := 0, slots := 0, locals := 0 } : Room)).room sS mM ([.ref b0] : List Value).toArray below meth cC H locs 0 0 (MQ below (va_Qv (fun (uU : Nat × (Nat → Nat)) => uU = (knK kn, knB kn be sg)) (fun uU tT => va_P G.1 vwCl ((fun (uU : Nat × (Nat → Nat)) => ([(b0, .inr (3, [.ref b1, .ref b2, .ref b3, .int (nI uU.1), .ref b4, .int (nI ik), .ref b5, .int (nI ty), .int ra, .int rb, .int (nI rd), .int (nI iw), .ref b6, .int fl])), (b1, .inl (G.2.1, 618, .inl (arN sg))), (b3, .inl (G.2.1, 2472, .inl (arN uU.2)))] : va_W)) uU) tT.heap) (zIn [(b0, .inr (3, [.ref b1, .ref b2, .ref b3, .int (nI kn), .ref b4, .int (nI ik), .ref b5, .int (nI ty), .int ra, .int rb, .int (nI rd), .int (nI iw), .ref b6, .int fl])), (b1, .inl (G.2.1, 618, .inl (arN sg))), (b3, .inl (G.2.1, 2472, .inl (arN be)))])) ([.ref b0] : List Value).toArray sS 0 0 (zIn [(b0, .inr (3, [.ref b1, .ref b2, .ref b3, .int (nI kn), .ref b4, .int (nI ik), .ref b5, .int (nI ty), .int ra, .int rb, .int (nI rd), .int (nI iw), .ref b6, .int fl])), (b1, .inl (G.2.1, 618, .inl (arN sg))), (b3, .inl (G.2.1, 2472, .inl (arN be)))])) (F0 mM 51 ls []) := by
      intro fu51
      induction fu51 with
      | zero => intro jX H locs ls hfu51; exact absurd hfu51 (Nat.not_lt_zero _)
      | succ fu51 ih51 =>
        intro jX H locs ls hfu51 hj hP hD hS hl
        refine lv_iload_n hx hb dX3_know_51 rfl (lv_at hl 1 rfl) ?_
        refine lv_sipush (v := nI 618) hx hb dX3_know_52 (by decide) ?_
        refine zk_ige (tgt := 85) hx hb dX3_know_55 (by decide) (by omega) (by omega) (fun c55 => ?_) (fun c55 => ?_)
        · refine lv_aload_n hx hb dX3_know_85 rfl (lv_at hl 0 rfl) ?_
          refine lv_dup hx hb dX3_know_86 rfl ?_
          refine va_get (D := G.1) (ci := 3) (v := .int (nI kn)) (C := RX3) (T := TX3) (N := 14) hx hb hts mic_know_3 hown hK hP 0 rfl rfl 3 (by decide) (hts _ mwc_know_0) (fun _ h9 => h9) rfl dX3_know_87 ?_
          refine lv_iconst (v := nI 1) hx hb dX3_know_90 (by decide) ?_
          refine zk_add hx hb dX3_know_91 ?_
          refine zk_put (D := G.1) (ci := 3) (v := .int (nI (kn + 1))) (ty := .int) (C := RX3) (T := TX3) (N := 14) (ws2 := [(b0, .inr (3, [.ref b1, .ref b2, .ref b3, .int (nI (kn + 1)), .ref b4, .int (nI ik), .ref b5, .int (nI ty), .int ra, .int rb, .int (nI rd), .int (nI iw), .ref b6, .int fl])), (b1, .inl (G.2.1, 618, .inl (arN sg))), (b3, .inl (G.2.1, 2472, .inl (arN (cpF (be) sg (618 * kn) 0 jX))))]) hx hb hts mic_know_3 tyX3 tyX3_ok nmX3 hown hK hP hD hS 0 rfl rfl 3 (by decide) (hts _ mwc_know_0) (fun _ h9 => h9) rfl (by decide +kernel) rfl rfl (Nat.le_of_ble_eq_true rfl) rfl dX3_know_92 (fun H locs hP hD hS => ?_)
          exact W.vret hx hb hr (fun tT ht hW => ⟨⟨(kn + 1, cpF (be) sg (618 * kn) 0 jX), rfl, (by have hk2 : jX = 618 := (by omega); subst hk2; unfold knK knB; rw [if_neg c5, if_neg c5]), by show va_P G.1 vwCl _ tT.heap; rw [ht]; exact hP⟩, hS.F ht⟩) hS.2.2 dX3_know_95
        · refine lv_aload_n hx hb dX3_know_58 rfl (lv_at hl 0 rfl) ?_
          refine va_get (D := G.1) (ci := 3) (v := .ref b3) (C := RX3) (T := TX3) (N := 14) hx hb hts mic_know_3 hown hK hP 0 rfl rfl 2 (by decide) (hts _ mwc_know_2) (fun _ h9 => h9) rfl dX3_know_59 ?_
          refine lv_sipush (v := nI 618) hx hb dX3_know_62 (by decide) ?_
          refine lv_aload_n hx hb dX3_know_65 rfl (lv_at hl 0 rfl) ?_
          refine va_get (D := G.1) (ci := 3) (v := .int (nI kn)) (C := RX3) (T := TX3) (N := 14) hx hb hts mic_know_3 hown hK hP 0 rfl rfl 3 (by decide) (hts _ mwc_know_0) (fun _ h9 => h9) rfl dX3_know_66 ?_
          refine zk_mul hx hb dX3_know_69 ?_
          refine lv_iload_n hx hb dX3_know_70 rfl (lv_at hl 1 rfl) ?_
          refine zk_add hx hb dX3_know_71 ?_
          refine lv_aload_n hx hb dX3_know_72 rfl (lv_at hl 0 rfl) ?_
          refine va_get (D := G.1) (ci := 3) (v := .ref b1) (C := RX3) (T := TX3) (N := 14) hx hb hts mic_know_3 hown hK hP 0 rfl rfl 0 (by decide) (hts _ mwc_know_3) (fun _ h9 => h9) rfl dX3_know_73 ?_
          refine lv_iload_n hx hb dX3_know_76 rfl (lv_at hl 1 rfl) ?_
          refine zk_ald (f := sg) (k := jX) hx hb hK hP 1 0 rfl rfl (Nat.le_of_ble_eq_true rfl) (by omega) dX3_know_77 ?_
          refine zk_ast (f := cpF (be) sg (618 * kn) 0 jX) (k := (618 * kn) + jX) (v := sg jX) (ws2 := [(b0, .inr (3, [.ref b1, .ref b2, .ref b3, .int (nI kn), .ref b4, .int (nI ik), .ref b5, .int (nI ty), .int ra, .int rb, .int (nI rd), .int (nI iw), .ref b6, .int fl])), (b1, .inl (G.2.1, 618, .inl (arN sg))), (b3, .inl (G.2.1, 2472, .inl (arN (arU (cpF (be) sg (618 * kn) 0 jX) ((618 * kn) + jX) (sg jX)))))]) hx hb hK hP hD hS 2 0 rfl rfl (Nat.le_of_ble_eq_true rfl) (by omega) rfl dX3_know_78 (fun H locs hP hD hS => ?_)
          have en : arU (cpF (be) sg (618 * kn) 0 jX) ((618 * kn) + jX) (sg jX) = cpF (be) sg (618 * kn) 0 (jX + 1) := cpF_s (by omega) (congrArg sg (by omega))
          rw [en] at hP hD
          refine zk_inc (a := jX) (d := 1) (lv' := [(1, .int (nI (jX + 1))), (0, .ref b0)]) hx hb dX3_know_79 hl (K := 1) rfl (by decide) (by decide) rfl (fun ls hl => ?_)
          refine lv_goto (tgt := 51) hx hb dX3_know_82 (by decide) ?_
          exact ih51 (jX + 1) _ _ _ (by omega) (by omega) hP hD hS (lv_sub hl [1, 0] rfl)
    have eq0 : be = cpF (be) sg (618 * kn) 0 0 := cpF_0 _ _ _ _
    have hP : va_P G.1 vwCl [(b0, .inr (3, [.ref b1, .ref b2, .ref b3, .int (nI kn), .ref b4, .int (nI ik), .ref b5, .int (nI ty), .int ra, .int rb, .int (nI rd), .int (nI iw), .ref b6, .int fl])), (b1, .inl (G.2.1, 618, .inl (arN sg))), (b3, .inl (G.2.1, 2472, .inl (arN (cpF (be) sg (618 * kn) 0 0))))] sS.heap := by rw [← eq0]; exact hP
    have hD : va_D (zIn [(b0, .inr (3, [.ref b1, .ref b2, .ref b3, .int (nI kn), .ref b4, .int (nI ik), .ref b5, .int (nI ty), .int ra, .int rb, .int (nI rd), .int (nI iw), .ref b6, .int fl])), (b1, .inl (G.2.1, 618, .inl (arN sg))), (b3, .inl (G.2.1, 2472, .inl (arN be)))]) [(b0, .inr (3, [.ref b1, .ref b2, .ref b3, .int (nI kn), .ref b4, .int (nI ik), .ref b5, .int (nI ty), .int ra, .int rb, .int (nI rd), .int (nI iw), .ref b6, .int fl])), (b1, .inl (G.2.1, 618, .inl (arN sg))), (b3, .inl (G.2.1, 2472, .inl (arN (cpF (be) sg (618 * kn) 0 0))))] := by rw [← eq0]; exact hD
    exact lp51 _ 0 _ _ _ (Nat.lt_succ_self _) (by omega) hP hD hS (lv_sub hl [1, 0] rfl)
  · refine lv_iconst (v := nI 0) hx hb dX3_know_8 (by decide) ?_
    refine lv_istore_n (lv' := [(1, .int (nI 0)), (0, .ref b0)]) hx hb dX3_know_9 rfl hl (by decide) rfl (fun ls hl => ?_)
    have lp10 : ∀ (fu10 : Nat), ∀ (kX : Nat) (H : Heap) (locs : List Loc) (ls : Array Slot), (1854 - kX) < fu10 → (kX ≤ 1854) → va_P G.1 vwCl [(b0, .inr (3, [.ref b1, .ref b2, .ref b3, .int (nI kn), .ref b4, .int (nI ik), .ref b5, .int (nI ty), .int ra, .int rb, .int (nI rd), .int (nI iw), .ref b6, .int fl])), (b1, .inl (G.2.1, 618, .inl (arN sg))), (b3, .inl (G.2.1, 2472, .inl (arN (sfF be 0 618 kX))))] H → va_D (zIn [(b0, .inr (3, [.ref b1, .ref b2, .ref b3, .int (nI kn), .ref b4, .int (nI ik), .ref b5, .int (nI ty), .int ra, .int rb, .int (nI rd), .int (nI iw), .ref b6, .int fl])), (b1, .inl (G.2.1, 618, .inl (arN sg))), (b3, .inl (G.2.1, 2472, .inl (arN be)))]) [(b0, .inr (3, [.ref b1, .ref b2, .ref b3, .int (nI kn), .ref b4, .int (nI ik), .ref b5, .int (nI ty), .int ra, .int rb, .int (nI rd), .int (nI iw), .ref b6, .int fl])), (b1, .inl (G.2.1, 618, .inl (arN sg))), (b3, .inl (G.2.1, 2472, .inl (arN (sfF be 0 618 kX))))] → va_S (zIn [(b0, .inr (3, [.ref b1, .ref b2, .ref b3, .int (nI kn), .ref b4, .int (nI ik), .ref b5, .int (nI ty), .int ra, .int rb, .int (nI rd), .int (nI iw), .ref b6, .int fl])), (b1, .inl (G.2.1, 618, .inl (arN sg))), (b3, .inl (G.2.1, 2472, .inl (arN be)))]) sS.heap H locs → lv_has ls 2 [(0, .ref b0), (1, .int (nI kX))] → W pP l eE (headSpec wsX3_know ({ frames := 0, cells := 0, slots := 0, locals := 0 } : Room)).room sS mM ([.ref b0] : List Value).toArray below meth cC H locs 0 0 (MQ below (va_Qv (fun (uU : Nat × (Nat → Nat)) => uU = (knK kn, knB kn be sg)) (fun uU tT => va_P G.1 vwCl ((fun (uU : Nat × (Nat → Nat)) => ([(b0, .inr (3, [.ref b1, .ref b2, .ref b3, .int (nI uU.1), .ref b4, .int (nI ik), .ref b5, .int (nI ty), .int ra, .int rb, .int (nI rd), .int (nI iw), .ref b6, .int fl])), (b1, .inl (G.2.1, 618, .inl (arN sg))), (b3, .inl (G.2.1, 2472, .inl (arN uU.2)))] : va_W)) uU) tT.heap) (zIn [(b0, .inr (3, [.ref b1, .ref b2, .ref b3, .int (nI kn), .ref b4, .int (nI ik), .ref b5, .int (nI ty), .int ra, .int rb, .int (nI rd), .int (nI iw), .ref b6, .int fl])), (b1, .inl (G.2.1, 618, .inl (arN sg))), (b3, .inl (G.2.1, 2472, .inl (arN be)))])) ([.ref b0] : List Value).toArray sS 0 0 (zIn [(b0, .inr (3, [.ref b1, .ref b2, .ref b3, .int (nI kn), .ref b4, .int (nI ik), .ref b5, .int (nI ty), .int ra, .int rb, .int (nI rd), .int (nI iw), .ref b6, .int fl])), (b1, .inl (G.2.1, 618, .inl (arN sg))), (b3, .inl (G.2.1, 2472, .inl (arN be)))])) (F0 mM 10 ls []) := by
      intro fu10
      induction fu10 with
      | zero => intro kX H locs ls hfu10; exact absurd hfu10 (Nat.not_lt_zero _)
      | succ fu10 ih10 =>
        intro kX H locs ls hfu10 hk hP hD hS hl
        refine lv_iload_n hx hb dX3_know_10 rfl (lv_at hl 1 rfl) ?_
        refine lv_sipush (v := nI 1854) hx hb dX3_know_11 (by decide) ?_
        refine zk_ige (tgt := 39) hx hb dX3_know_14 (by decide) (by omega) (by omega) (fun c14 => ?_) (fun c14 => ?_)
        · have hk9 : kX = 1854 := by omega
          subst hk9
          refine lv_aload_n hx hb dX3_know_39 rfl (lv_at hl 0 rfl) ?_
          refine lv_dup hx hb dX3_know_40 rfl ?_
          refine va_get (D := G.1) (ci := 3) (v := .int (nI kn)) (C := RX3) (T := TX3) (N := 14) hx hb hts mic_know_3 hown hK hP 0 rfl rfl 3 (by decide) (hts _ mwc_know_0) (fun _ h9 => h9) rfl dX3_know_41 ?_
          refine lv_iconst (v := nI 1) hx hb dX3_know_44 (by decide) ?_
          refine zk_sub hx hb dX3_know_45 (by omega) ?_
          refine zk_put (D := G.1) (ci := 3) (v := .int (nI (kn - 1))) (ty := .int) (C := RX3) (T := TX3) (N := 14) (ws2 := [(b0, .inr (3, [.ref b1, .ref b2, .ref b3, .int (nI (kn - 1)), .ref b4, .int (nI ik), .ref b5, .int (nI ty), .int ra, .int rb, .int (nI rd), .int (nI iw), .ref b6, .int fl])), (b1, .inl (G.2.1, 618, .inl (arN sg))), (b3, .inl (G.2.1, 2472, .inl (arN (sfF be 0 618 1854))))]) hx hb hts mic_know_3 tyX3 tyX3_ok nmX3 hown hK hP hD hS 0 rfl rfl 3 (by decide) (hts _ mwc_know_0) (fun _ h9 => h9) rfl (by decide +kernel) rfl rfl (Nat.le_of_ble_eq_true rfl) rfl dX3_know_46 (fun H locs hP hD hS => ?_)
          refine lv_iconst (v := nI 0) hx hb dX3_know_49 (by decide) ?_
          refine lv_istore_n (lv' := [(1, .int (nI 0)), (0, .ref b0)]) hx hb dX3_know_50 rfl hl (by decide) rfl (fun ls hl => ?_)
          have lp51 : ∀ (fu51 : Nat), ∀ (jX : Nat) (H : Heap) (locs : List Loc) (ls : Array Slot), (618 - jX) < fu51 → (jX ≤ 618) → va_P G.1 vwCl [(b0, .inr (3, [.ref b1, .ref b2, .ref b3, .int (nI (kn - 1)), .ref b4, .int (nI ik), .ref b5, .int (nI ty), .int ra, .int rb, .int (nI rd), .int (nI iw), .ref b6, .int fl])), (b1, .inl (G.2.1, 618, .inl (arN sg))), (b3, .inl (G.2.1, 2472, .inl (arN (cpF (sfF be 0 618 1854) sg (618 * (kn - 1)) 0 jX))))] H → va_D (zIn [(b0, .inr (3, [.ref b1, .ref b2, .ref b3, .int (nI kn), .ref b4, .int (nI ik), .ref b5, .int (nI ty), .int ra, .int rb, .int (nI rd), .int (nI iw), .ref b6, .int fl])), (b1, .inl (G.2.1, 618, .inl (arN sg))), (b3, .inl (G.2.1, 2472, .inl (arN be)))]) [(b0, .inr (3, [.ref b1, .ref b2, .ref b3, .int (nI (kn - 1)), .ref b4, .int (nI ik), .ref b5, .int (nI ty), .int ra, .int rb, .int (nI rd), .int (nI iw), .ref b6, .int fl])), (b1, .inl (G.2.1, 618, .inl (arN sg))), (b3, .inl (G.2.1, 2472, .inl (arN (cpF (sfF be 0 618 1854) sg (618 * (kn - 1)) 0 jX))))] → va_S (zIn [(b0, .inr (3, [.ref b1, .ref b2, .ref b3, .int (nI kn), .ref b4, .int (nI ik), .ref b5, .int (nI ty), .int ra, .int rb, .int (nI rd), .int (nI iw), .ref b6, .int fl])), (b1, .inl (G.2.1, 618, .inl (arN sg))), (b3, .inl (G.2.1, 2472, .inl (arN be)))]) sS.heap H locs → lv_has ls 2 [(0, .ref b0), (1, .int (nI jX))] → W pP l eE (headSpec wsX3_know ({ frames := 0, cells := 0, slots := 0, locals := 0 } : Room)).room sS mM ([.ref b0] : List Value).toArray below meth cC H locs 0 0 (MQ below (va_Qv (fun (uU : Nat × (Nat → Nat)) => uU = (knK kn, knB kn be sg)) (fun uU tT => va_P G.1 vwCl ((fun (uU : Nat × (Nat → Nat)) => ([(b0, .inr (3, [.ref b1, .ref b2, .ref b3, .int (nI uU.1), .ref b4, .int (nI ik), .ref b5, .int (nI ty), .int ra, .int rb, .int (nI rd), .int (nI iw), .ref b6, .int fl])), (b1, .inl (G.2.1, 618, .inl (arN sg))), (b3, .inl (G.2.1, 2472, .inl (arN uU.2)))] : va_W)) uU) tT.heap) (zIn [(b0, .inr (3, [.ref b1, .ref b2, .ref b3, .int (nI kn), .ref b4, .int (nI ik), .ref b5, .int (nI ty), .int ra, .int rb, .int (nI rd), .int (nI iw), .ref b6, .int fl])), (b1, .inl (G.2.1, 618, .inl (arN sg))), (b3, .inl (G.2.1, 2472, .inl (arN be)))])) ([.ref b0] : List Value).toArray sS 0 0 (zIn [(b0, .inr (3, [.ref b1, .ref b2, .ref b3, .int (nI kn), .ref b4, .int (nI ik), .ref b5, .int (nI ty), .int ra, .int rb, .int (nI rd), .int (nI iw), .ref b6, .int fl])), (b1, .inl (G.2.1, 618, .inl (arN sg))), (b3, .inl (G.2.1, 2472, .inl (arN be)))])) (F0 mM 51 ls []) := by
            intro fu51
            induction fu51 with
            | zero => intro jX H locs ls hfu51; exact absurd hfu51 (Nat.not_lt_zero _)
            | succ fu51 ih51 =>
              intro jX H locs ls hfu51 hj hP hD hS hl
              refine lv_iload_n hx hb dX3_know_51 rfl (lv_at hl 1 rfl) ?_
              refine lv_sipush (v := nI 618) hx hb dX3_know_52 (by decide) ?_
              refine zk_ige (tgt := 85) hx hb dX3_know_55 (by decide) (by omega) (by omega) (fun c55 => ?_) (fun c55 => ?_)
              · refine lv_aload_n hx hb dX3_know_85 rfl (lv_at hl 0 rfl) ?_
                refine lv_dup hx hb dX3_know_86 rfl ?_
                refine va_get (D := G.1) (ci := 3) (v := .int (nI (kn - 1))) (C := RX3) (T := TX3) (N := 14) hx hb hts mic_know_3 hown hK hP 0 rfl rfl 3 (by decide) (hts _ mwc_know_0) (fun _ h9 => h9) rfl dX3_know_87 ?_
                refine lv_iconst (v := nI 1) hx hb dX3_know_90 (by decide) ?_
                refine zk_add hx hb dX3_know_91 ?_
                refine zk_put (D := G.1) (ci := 3) (v := .int (nI ((kn - 1) + 1))) (ty := .int) (C := RX3) (T := TX3) (N := 14) (ws2 := [(b0, .inr (3, [.ref b1, .ref b2, .ref b3, .int (nI ((kn - 1) + 1)), .ref b4, .int (nI ik), .ref b5, .int (nI ty), .int ra, .int rb, .int (nI rd), .int (nI iw), .ref b6, .int fl])), (b1, .inl (G.2.1, 618, .inl (arN sg))), (b3, .inl (G.2.1, 2472, .inl (arN (cpF (sfF be 0 618 1854) sg (618 * (kn - 1)) 0 jX))))]) hx hb hts mic_know_3 tyX3 tyX3_ok nmX3 hown hK hP hD hS 0 rfl rfl 3 (by decide) (hts _ mwc_know_0) (fun _ h9 => h9) rfl (by decide +kernel) rfl rfl (Nat.le_of_ble_eq_true rfl) rfl dX3_know_92 (fun H locs hP hD hS => ?_)
                exact W.vret hx hb hr (fun tT ht hW => ⟨⟨((kn - 1) + 1, cpF (sfF be 0 618 1854) sg (618 * (kn - 1)) 0 jX), rfl, (by have hk2 : jX = 618 := (by omega); subst hk2; subst c5; rfl), by show va_P G.1 vwCl _ tT.heap; rw [ht]; exact hP⟩, hS.F ht⟩) hS.2.2 dX3_know_95
              · refine lv_aload_n hx hb dX3_know_58 rfl (lv_at hl 0 rfl) ?_
                refine va_get (D := G.1) (ci := 3) (v := .ref b3) (C := RX3) (T := TX3) (N := 14) hx hb hts mic_know_3 hown hK hP 0 rfl rfl 2 (by decide) (hts _ mwc_know_2) (fun _ h9 => h9) rfl dX3_know_59 ?_
                refine lv_sipush (v := nI 618) hx hb dX3_know_62 (by decide) ?_
                refine lv_aload_n hx hb dX3_know_65 rfl (lv_at hl 0 rfl) ?_
                refine va_get (D := G.1) (ci := 3) (v := .int (nI (kn - 1))) (C := RX3) (T := TX3) (N := 14) hx hb hts mic_know_3 hown hK hP 0 rfl rfl 3 (by decide) (hts _ mwc_know_0) (fun _ h9 => h9) rfl dX3_know_66 ?_
                refine zk_mul hx hb dX3_know_69 ?_
                refine lv_iload_n hx hb dX3_know_70 rfl (lv_at hl 1 rfl) ?_
                refine zk_add hx hb dX3_know_71 ?_
                refine lv_aload_n hx hb dX3_know_72 rfl (lv_at hl 0 rfl) ?_
                refine va_get (D := G.1) (ci := 3) (v := .ref b1) (C := RX3) (T := TX3) (N := 14) hx hb hts mic_know_3 hown hK hP 0 rfl rfl 0 (by decide) (hts _ mwc_know_3) (fun _ h9 => h9) rfl dX3_know_73 ?_
                refine lv_iload_n hx hb dX3_know_76 rfl (lv_at hl 1 rfl) ?_
                refine zk_ald (f := sg) (k := jX) hx hb hK hP 1 0 rfl rfl (Nat.le_of_ble_eq_true rfl) (by omega) dX3_know_77 ?_
                refine zk_ast (f := cpF (sfF be 0 618 1854) sg (618 * (kn - 1)) 0 jX) (k := (618 * (kn - 1)) + jX) (v := sg jX) (ws2 := [(b0, .inr (3, [.ref b1, .ref b2, .ref b3, .int (nI (kn - 1)), .ref b4, .int (nI ik), .ref b5, .int (nI ty), .int ra, .int rb, .int (nI rd), .int (nI iw), .ref b6, .int fl])), (b1, .inl (G.2.1, 618, .inl (arN sg))), (b3, .inl (G.2.1, 2472, .inl (arN (arU (cpF (sfF be 0 618 1854) sg (618 * (kn - 1)) 0 jX) ((618 * (kn - 1)) + jX) (sg jX)))))]) hx hb hK hP hD hS 2 0 rfl rfl (Nat.le_of_ble_eq_true rfl) (by omega) rfl dX3_know_78 (fun H locs hP hD hS => ?_)
                have en : arU (cpF (sfF be 0 618 1854) sg (618 * (kn - 1)) 0 jX) ((618 * (kn - 1)) + jX) (sg jX) = cpF (sfF be 0 618 1854) sg (618 * (kn - 1)) 0 (jX + 1) := cpF_s (by omega) (congrArg sg (by omega))
                rw [en] at hP hD
                refine zk_inc (a := jX) (d := 1) (lv' := [(1, .int (nI (jX + 1))), (0, .ref b0)]) hx hb dX3_know_79 hl (K := 1) rfl (by decide) (by decide) rfl (fun ls hl => ?_)
                refine lv_goto (tgt := 51) hx hb dX3_know_82 (by decide) ?_
                exact ih51 (jX + 1) _ _ _ (by omega) (by omega) hP hD hS (lv_sub hl [1, 0] rfl)
          have eq0 : sfF be 0 618 1854 = cpF (sfF be 0 618 1854) sg (618 * (kn - 1)) 0 0 := cpF_0 _ _ _ _
          have hP : va_P G.1 vwCl [(b0, .inr (3, [.ref b1, .ref b2, .ref b3, .int (nI (kn - 1)), .ref b4, .int (nI ik), .ref b5, .int (nI ty), .int ra, .int rb, .int (nI rd), .int (nI iw), .ref b6, .int fl])), (b1, .inl (G.2.1, 618, .inl (arN sg))), (b3, .inl (G.2.1, 2472, .inl (arN (cpF (sfF be 0 618 1854) sg (618 * (kn - 1)) 0 0))))] H := by rw [← eq0]; exact hP
          have hD : va_D (zIn [(b0, .inr (3, [.ref b1, .ref b2, .ref b3, .int (nI kn), .ref b4, .int (nI ik), .ref b5, .int (nI ty), .int ra, .int rb, .int (nI rd), .int (nI iw), .ref b6, .int fl])), (b1, .inl (G.2.1, 618, .inl (arN sg))), (b3, .inl (G.2.1, 2472, .inl (arN be)))]) [(b0, .inr (3, [.ref b1, .ref b2, .ref b3, .int (nI (kn - 1)), .ref b4, .int (nI ik), .ref b5, .int (nI ty), .int ra, .int rb, .int (nI rd), .int (nI iw), .ref b6, .int fl])), (b1, .inl (G.2.1, 618, .inl (arN sg))), (b3, .inl (G.2.1, 2472, .inl (arN (cpF (sfF be 0 618 1854) sg (618 * (kn - 1)) 0 0))))] := by rw [← eq0]; exact hD
          exact lp51 _ 0 _ _ _ (Nat.lt_succ_self _) (by omega) hP hD hS (lv_sub hl [1, 0] rfl)
        · refine lv_aload_n hx hb dX3_know_17 rfl (lv_at hl 0 rfl) ?_
          refine va_get (D := G.1) (ci := 3) (v := .ref b3) (C := RX3) (T := TX3) (N := 14) hx hb hts mic_know_3 hown hK hP 0 rfl rfl 2 (by decide) (hts _ mwc_know_2) (fun _ h9 => h9) rfl dX3_know_18 ?_
          refine lv_iload_n hx hb dX3_know_21 rfl (lv_at hl 1 rfl) ?_
          refine lv_aload_n hx hb dX3_know_22 rfl (lv_at hl 0 rfl) ?_
          refine va_get (D := G.1) (ci := 3) (v := .ref b3) (C := RX3) (T := TX3) (N := 14) hx hb hts mic_know_3 hown hK hP 0 rfl rfl 2 (by decide) (hts _ mwc_know_2) (fun _ h9 => h9) rfl dX3_know_23 ?_
          refine lv_sipush (v := nI 618) hx hb dX3_know_26 (by decide) ?_
          refine lv_iload_n hx hb dX3_know_29 rfl (lv_at hl 1 rfl) ?_
          refine zk_add hx hb dX3_know_30 ?_
          refine zk_ald (f := sfF be 0 618 kX) (k := 618 + kX) hx hb hK hP 2 0 rfl rfl (Nat.le_of_ble_eq_true rfl) (by omega) dX3_know_31 ?_
          refine zk_top (y := nI (be (618 + kX))) (congrArg nI (sfF_out (by omega))) ?_
          refine zk_ast (f := sfF be 0 618 kX) (k := kX) (v := be (618 + kX)) (ws2 := [(b0, .inr (3, [.ref b1, .ref b2, .ref b3, .int (nI kn), .ref b4, .int (nI ik), .ref b5, .int (nI ty), .int ra, .int rb, .int (nI rd), .int (nI iw), .ref b6, .int fl])), (b1, .inl (G.2.1, 618, .inl (arN sg))), (b3, .inl (G.2.1, 2472, .inl (arN (arU (sfF be 0 618 kX) kX (be (618 + kX))))))]) hx hb hK hP hD hS 2 0 rfl rfl (Nat.le_of_ble_eq_true rfl) (by omega) rfl dX3_know_32 (fun H locs hP hD hS => ?_)
          have en : arU (sfF be 0 618 kX) kX (be (618 + kX)) = sfF be 0 618 (kX + 1) := sfF_s (by omega) (congrArg be (by omega))
          rw [en] at hP hD
          refine zk_inc (a := kX) (d := 1) (lv' := [(1, .int (nI (kX + 1))), (0, .ref b0)]) hx hb dX3_know_33 hl (K := 1) rfl (by decide) (by decide) rfl (fun ls hl => ?_)
          refine lv_goto (tgt := 10) hx hb dX3_know_36 (by decide) ?_
          exact ih10 (kX + 1) _ _ _ (by omega) (by omega) hP hD hS (lv_sub hl [1, 0] rfl)
    have eq0 : be = sfF be 0 618 0 := sfF_0 _ _ _
    have hP : va_P G.1 vwCl [(b0, .inr (3, [.ref b1, .ref b2, .ref b3, .int (nI kn), .ref b4, .int (nI ik), .ref b5, .int (nI ty), .int ra, .int rb, .int (nI rd), .int (nI iw), .ref b6, .int fl])), (b1, .inl (G.2.1, 618, .inl (arN sg))), (b3, .inl (G.2.1, 2472, .inl (arN (sfF be 0 618 0))))] sS.heap := by rw [← eq0]; exact hP
    have hD : va_D (zIn [(b0, .inr (3, [.ref b1, .ref b2, .ref b3, .int (nI kn), .ref b4, .int (nI ik), .ref b5, .int (nI ty), .int ra, .int rb, .int (nI rd), .int (nI iw), .ref b6, .int fl])), (b1, .inl (G.2.1, 618, .inl (arN sg))), (b3, .inl (G.2.1, 2472, .inl (arN be)))]) [(b0, .inr (3, [.ref b1, .ref b2, .ref b3, .int (nI kn), .ref b4, .int (nI ik), .ref b5, .int (nI ty), .int ra, .int rb, .int (nI rd), .int (nI iw), .ref b6, .int fl])), (b1, .inl (G.2.1, 618, .inl (arN sg))), (b3, .inl (G.2.1, 2472, .inl (arN (sfF be 0 618 0))))] := by rw [← eq0]; exact hD
    exact lp10 _ 0 _ _ _ (Nat.lt_succ_self _) (by omega) hP hD hS (lv_sub hl [1, 0] rfl)
set_option maxRecDepth 100000 in
theorem mwc_shownTo_0 : Cond.fieldLink RX3 7 "ExhibitTextsModel" "s" "[I" ∈ wsX3_shownTo := by decide +kernel
set_option maxRecDepth 100000 in
theorem mic_shownTo_3 : ∀ w ∈ u_ws RX3 TX3 14, w ∈ wsX3_shownTo := by decide +kernel
set_option maxHeartbeats 4000000 in
set_option maxRecDepth 100000 in
/-- X3_shownTo: the text that an age is shown -/
theorem c_shownTo (l : Launch) (G : zG) (b0 : Nat) (b1 : Nat) (b2 : Nat) (b3 : Nat) (b4 : Nat) (b5 : Nat) (b6 : Nat) (kn : Nat) (ik : Nat) (ty : Nat) (ra : Int32) (rb : Int32) (rd : Nat) (iw : Nat) (fl : Int32) (sg : Nat → Nat) (e : Nat) (ag : Nat) (hM : mOK sg) (he : e < 8) (hag : ag ≤ 99) : Met l yX3_shownTo wsX3_shownTo ({ frames := 3, cells := 0, slots := 0, locals := 65 } : Room) (zPc G [.ref b0, .int (nI e), .int (nI ag)] [(b0, .inr (3, [.ref b1, .ref b2, .ref b3, .int (nI kn), .ref b4, .int (nI ik), .ref b5, .int (nI ty), .int ra, .int rb, .int (nI rd), .int (nI iw), .ref b6, .int fl])), (b1, .inl (G.2.1, 618, .inl (arN sg)))]) (vp_Si (fun (rR : Int32) => (shT sg e ag = none ∧ rR = (-5)) ∨ (∃ (tX : Nat), shT sg e ag = some tX ∧ rR = nI tX))) 0 0 (fun _ => False) := by
  refine zR (cc := cX3_shownTo) (maxL := 9) (ret := (some .int)) (by decide) rfl (Nat.le_of_ble_eq_true rfl) ?_
  intro pP eE sS mM below meth cC hx hb hr hts hown hlk hml hK hN hP hD ls hl
  have hl : lv_has ls 9 [(0, .ref b0), (1, .int (nI e)), (2, .int (nI ag))] := hl
  have hz := hM.2.1 e he
  refine lv_bipush (v := (-5)) hx hb dX3_shownTo_0 (by decide) ?_
  refine lv_istore_n (lv' := [(3, .int (-5)), (0, .ref b0), (1, .int (nI e)), (2, .int (nI ag))]) hx hb dX3_shownTo_2 rfl hl (by decide) rfl (fun ls hl => ?_)
  refine lv_bipush (v := (-5)) hx hb dX3_shownTo_3 (by decide) ?_
  refine lv_istore (lv' := [(4, .int (-5)), (3, .int (-5)), (0, .ref b0), (1, .int (nI e)), (2, .int (nI ag))]) hx hb dX3_shownTo_5 hl (by decide) rfl (fun ls hl => ?_)
  refine lv_iconst (v := nI 0) hx hb dX3_shownTo_7 (by decide) ?_
  refine lv_istore (lv' := [(5, .int (nI 0)), (4, .int (-5)), (3, .int (-5)), (0, .ref b0), (1, .int (nI e)), (2, .int (nI ag))]) hx hb dX3_shownTo_8 hl (by decide) rfl (fun ls hl => ?_)
  have lp10 : ∀ (fu10 : Nat), ∀ (kX : Nat) (xf : Int32) (xl : Int32) (ls : Array Slot), (sg (10 + 76 * e) - kX) < fu10 → (kX ≤ sg (10 + 76 * e)) → (xf = enc (ftA (rdg sg e) (wdF sg e) ag kX)) → (xl = enc (lsA (rdg sg e) kX)) → lv_has ls 9 [(0, .ref b0), (1, .int (nI e)), (2, .int (nI ag)), (3, .int xf), (4, .int xl), (5, .int (nI kX))] → W pP l eE (headSpec wsX3_shownTo ({ frames := 3, cells := 0, slots := 0, locals := 65 } : Room)).room sS mM ([.ref b0, .int (nI e), .int (nI ag)] : List Value).toArray below meth cC sS.heap [] 0 0 (MQ below (vp_Si (fun (rR : Int32) => (shT sg e ag = none ∧ rR = (-5)) ∨ (∃ (tX : Nat), shT sg e ag = some tX ∧ rR = nI tX))) ([.ref b0, .int (nI e), .int (nI ag)] : List Value).toArray sS 0 0 (fun _ => False)) (F0 mM 10 ls []) := by
    intro fu10
    induction fu10 with
    | zero => intro kX xf xl ls hfu10; exact absurd hfu10 (Nat.not_lt_zero _)
    | succ fu10 ih10 =>
      intro kX xf xl ls hfu10 hk hf hls hl
      refine lv_iload hx hb dX3_shownTo_10 (lv_at hl 5 rfl) ?_
      refine lv_aload_n hx hb dX3_shownTo_12 rfl (lv_at hl 0 rfl) ?_
      refine va_get (D := G.1) (ci := 3) (v := .ref b1) (C := RX3) (T := TX3) (N := 14) hx hb hts mic_shownTo_3 hown hK hP 0 rfl rfl 0 (by decide) (hts _ mwc_shownTo_0) (fun _ h9 => h9) rfl dX3_shownTo_13 ?_
      refine lv_iload_n hx hb dX3_shownTo_16 rfl (lv_at hl 1 rfl) ?_
      refine zc_S (As := [.int (nI e)]) (rest := [.ref b1, .int (nI kX)]) ⟨hx, hb, hml, hown, hts⟩ (c_manyAt l e ) (va_cwS 1 hts gX3_shownTo_X3_manyAt rfl rfl rfl (by decide +kernel) ⟨Nat.le_of_ble_eq_true rfl, Nat.le_of_ble_eq_true rfl⟩) rfl hl.1 rfl (Nat.le_of_ble_eq_true rfl) dX3_shownTo_17 ⟨Nat.zero_le _, Nat.zero_le _⟩ (fun r17 h17 => ?_)
      subst h17
      refine zk_ald (f := sg) (k := 10 + 76 * e) hx hb hK hP 1 0 rfl rfl (Nat.le_of_ble_eq_true rfl) (by omega) dX3_shownTo_20 ?_
      refine zk_ige (tgt := 155) hx hb dX3_shownTo_21 (by decide) (by omega) (by omega) (fun c21 => ?_) (fun c21 => ?_)
      · refine lv_iload_n hx hb dX3_shownTo_155 rfl (lv_at hl 3 rfl) ?_
        refine lv_bipush (v := (-5)) hx hb dX3_shownTo_156 (by decide) ?_
        refine lv_icmp_ne (tgt := 166) hx hb dX3_shownTo_158 (by decide) (fun c158 => ?_) (fun c158 => ?_)
        · refine lv_iload_n hx hb dX3_shownTo_166 rfl (lv_at hl 3 rfl) ?_
          exact W.iret (v := xf) hx hb hr (fun tT ht hW => ⟨_, rfl, enc_cases (by have hk2 : kX = sg (10 + 76 * e) := (by omega); rw [enc_shA (by omega), ← hk2]; first | (rw [if_pos (by rw [← c158, hf])]; exact hls) | (rw [if_neg (fun q => c158 (by rw [hf]; exact q))]; exact hf)), ht⟩) (fun _ h => absurd h List.not_mem_nil) dX3_shownTo_167
        · refine lv_iload hx hb dX3_shownTo_161 (lv_at hl 4 rfl) ?_
          refine lv_goto (tgt := 167) hx hb dX3_shownTo_163 (by decide) ?_
          exact W.iret (v := xl) hx hb hr (fun tT ht hW => ⟨_, rfl, enc_cases (by have hk2 : kX = sg (10 + 76 * e) := (by omega); rw [enc_shA (by omega), ← hk2]; first | (rw [if_pos (by rw [← c158, hf])]; exact hls) | (rw [if_neg (fun q => c158 (by rw [hf]; exact q))]; exact hf)), ht⟩) (fun _ h => absurd h List.not_mem_nil) dX3_shownTo_167
      · have hTk := hM.2.2 e kX he c21
        have hwk := hTk.1.2
        have hrk := rdg_le hTk
        rcases hq2 : ftA (rdg sg e) (wdF sg e) ag kX with _ | fq
        · have hf : xf = -5 := by rw [hf, hq2]; rfl
          subst hf
          refine lv_aload_n hx hb dX3_shownTo_24 rfl (lv_at hl 0 rfl) ?_
          refine lv_iload_n hx hb dX3_shownTo_25 rfl (lv_at hl 1 rfl) ?_
          refine lv_iload hx hb dX3_shownTo_26 (lv_at hl 5 rfl) ?_
          refine zc_R (As := [.int (nI e), .int (nI kX)]) (rest := []) ⟨hx, hb, hml, hown, hts⟩ (c_readingAge l G b0 b1 b2 b3 b4 b5 b6 kn ik ty ra rb rd iw fl sg e kX (by omega) (by omega) hTk) (cwV 2 hts gX3_shownTo_X3_readingAge rfl rfl rfl (by decide +kernel) ⟨Nat.le_of_ble_eq_true rfl, Nat.le_of_ble_eq_true rfl⟩) hK hN hP hD [0, 1] rfl (by decide) (ci := 3) rfl rfl rfl hl.1 rfl (Nat.le_of_ble_eq_true rfl) dX3_shownTo_28 ⟨Nat.zero_le _, Nat.zero_le _⟩ (fun r28 h28 => ?_)
          subst h28
          refine lv_istore (lv' := [(6, .int (nI (rdg sg e kX))), (0, .ref b0), (1, .int (nI e)), (2, .int (nI ag)), (3, .int (-5)), (4, .int xl), (5, .int (nI kX))]) hx hb dX3_shownTo_31 hl (by decide) rfl (fun ls hl => ?_)
          have jn61 : ∀ (yl : Int32) (ls : Array Slot), (yl = enc (lsA (rdg sg e) (kX + 1))) → lv_has ls 9 [(0, .ref b0), (1, .int (nI e)), (2, .int (nI ag)), (3, .int (-5)), (5, .int (nI kX)), (6, .int (nI (rdg sg e kX))), (4, .int yl)] → W pP l eE (headSpec wsX3_shownTo ({ frames := 3, cells := 0, slots := 0, locals := 65 } : Room)).room sS mM ([.ref b0, .int (nI e), .int (nI ag)] : List Value).toArray below meth cC sS.heap [] 0 0 (MQ below (vp_Si (fun (rR : Int32) => (shT sg e ag = none ∧ rR = (-5)) ∨ (∃ (tX : Nat), shT sg e ag = some tX ∧ rR = nI tX))) ([.ref b0, .int (nI e), .int (nI ag)] : List Value).toArray sS 0 0 (fun _ => False)) (F0 mM 61 ls []) := by
            intro yl ls hyl hl
            refine lv_iload_n hx hb dX3_shownTo_61 rfl (lv_at hl 3 rfl) ?_
            refine lv_bipush (v := (-5)) hx hb dX3_shownTo_62 (by decide) ?_
            refine lv_icmp_ne (tgt := 71) hx hb dX3_shownTo_64 (by decide) (fun q => absurd (by decide) q) (fun _ => ?_)
            refine lv_iconst (v := nI 1) hx hb dX3_shownTo_67 (by decide) ?_
            refine lv_goto (tgt := 80) hx hb dX3_shownTo_68 (by decide) ?_
            refine lv_istore (lv' := [(7, .int (nI 1)), (0, .ref b0), (1, .int (nI e)), (2, .int (nI ag)), (3, .int (-5)), (5, .int (nI kX)), (6, .int (nI (rdg sg e kX))), (4, .int yl)]) hx hb dX3_shownTo_80 hl (by decide) rfl (fun ls hl => ?_)
            refine lv_iload_n hx hb dX3_shownTo_82 rfl (lv_at hl 4 rfl) ?_
            refine lv_bipush (v := (-5)) hx hb dX3_shownTo_83 (by decide) ?_
            refine lv_icmp_eq (tgt := 118) hx hb dX3_shownTo_85 (by decide) (fun _ => ?_) (fun q => absurd (by decide) q)
            refine lv_iconst (v := nI 0) hx hb dX3_shownTo_118 (by decide) ?_
            refine lv_istore (lv' := [(8, .int (nI 0)), (7, .int (nI 1)), (0, .ref b0), (1, .int (nI e)), (2, .int (nI ag)), (3, .int (-5)), (5, .int (nI kX)), (6, .int (nI (rdg sg e kX))), (4, .int yl)]) hx hb dX3_shownTo_119 hl (by decide) rfl (fun ls hl => ?_)
            refine lv_iload hx hb dX3_shownTo_121 (lv_at hl 7 rfl) ?_
            refine lv_iload_n hx hb dX3_shownTo_123 rfl (lv_at hl 4 rfl) ?_
            refine zk_igt (tgt := 147) hx hb dX3_shownTo_124 (by decide) (by omega) (by omega) (fun c124 => ?_) (fun c124 => ?_)
            · refine lv_iload_n hx hb dX3_shownTo_147 rfl (lv_at hl 5 rfl) ?_
              refine lv_istore_n (lv' := [(3, .int (-5)), (8, .int (nI 0)), (7, .int (nI 1)), (0, .ref b0), (1, .int (nI e)), (2, .int (nI ag)), (5, .int (nI kX)), (6, .int (nI (rdg sg e kX))), (4, .int yl)]) hx hb dX3_shownTo_148 rfl hl (by decide) rfl (fun ls hl => ?_)
              refine zk_inc (a := kX) (d := 1) (lv' := [(5, .int (nI (kX + 1))), (3, .int (-5)), (8, .int (nI 0)), (7, .int (nI 1)), (0, .ref b0), (1, .int (nI e)), (2, .int (nI ag)), (6, .int (nI (rdg sg e kX))), (4, .int yl)]) hx hb dX3_shownTo_149 hl (K := 6) rfl (by decide) (by decide) rfl (fun ls hl => ?_)
              refine lv_goto (tgt := 10) hx hb dX3_shownTo_152 (by decide) ?_
              exact ih10 (kX + 1) (-5) yl _ (by omega) (by omega) (by show _ = enc (ftStep (rdg sg e) (wdF sg e) ag kX (ftA (rdg sg e) (wdF sg e) ag kX)); rw [hq2]; unfold ftStep; simp only [wdF]; first | rfl | (rw [if_pos (by omega)] <;> rfl) | (rw [if_neg (by omega)] <;> rfl)) hyl (lv_sub hl [4, 5, 6, 1, 8, 0] rfl)
            · refine lv_iload hx hb dX3_shownTo_127 (lv_at hl 1 rfl) ?_
              refine lv_if_gt (tgt := 142) hx hb dX3_shownTo_129 (by decide) (fun _ => ?_) (fun q => absurd (by decide) q)
              refine lv_iload hx hb dX3_shownTo_142 (lv_at hl 6 rfl) ?_
              refine lv_goto (tgt := 148) hx hb dX3_shownTo_144 (by decide) ?_
              refine lv_istore_n (lv' := [(3, .int (nI kX)), (8, .int (nI 0)), (7, .int (nI 1)), (0, .ref b0), (1, .int (nI e)), (2, .int (nI ag)), (5, .int (nI kX)), (6, .int (nI (rdg sg e kX))), (4, .int yl)]) hx hb dX3_shownTo_148 rfl hl (by decide) rfl (fun ls hl => ?_)
              refine zk_inc (a := kX) (d := 1) (lv' := [(5, .int (nI (kX + 1))), (3, .int (nI kX)), (8, .int (nI 0)), (7, .int (nI 1)), (0, .ref b0), (1, .int (nI e)), (2, .int (nI ag)), (6, .int (nI (rdg sg e kX))), (4, .int yl)]) hx hb dX3_shownTo_149 hl (K := 6) rfl (by decide) (by decide) rfl (fun ls hl => ?_)
              refine lv_goto (tgt := 10) hx hb dX3_shownTo_152 (by decide) ?_
              exact ih10 (kX + 1) (nI kX) yl _ (by omega) (by omega) (by show _ = enc (ftStep (rdg sg e) (wdF sg e) ag kX (ftA (rdg sg e) (wdF sg e) ag kX)); rw [hq2]; unfold ftStep; simp only [wdF]; first | rfl | (rw [if_pos (by omega)] <;> rfl) | (rw [if_neg (by omega)] <;> rfl)) hyl (lv_sub hl [4, 5, 6, 1, 8, 0] rfl)
          rcases hq : lsA (rdg sg e) kX with _ | lq
          · have hls : xl = -5 := by rw [hls, hq]; rfl
            subst hls
            refine lv_iload hx hb dX3_shownTo_33 (lv_at hl 5 rfl) ?_
            refine lv_bipush (v := (-5)) hx hb dX3_shownTo_35 (by decide) ?_
            refine lv_icmp_eq (tgt := 52) hx hb dX3_shownTo_37 (by decide) (fun _ => ?_) (fun q => absurd (by decide) q)
            refine lv_iload hx hb dX3_shownTo_52 (lv_at hl 6 rfl) ?_
            refine lv_goto (tgt := 59) hx hb dX3_shownTo_54 (by decide) ?_
            refine lv_istore (lv' := [(4, .int (nI kX)), (6, .int (nI (rdg sg e kX))), (0, .ref b0), (1, .int (nI e)), (2, .int (nI ag)), (3, .int (-5)), (5, .int (nI kX))]) hx hb dX3_shownTo_59 hl (by decide) rfl (fun ls hl => ?_)
            exact jn61 (nI kX) _ (by show _ = enc (lsStep (rdg sg e) kX (lsA (rdg sg e) kX)); rw [hq]; unfold lsStep; simp only; first | rfl | (rw [if_pos (by omega)] <;> rfl) | (rw [if_neg (by omega)] <;> rfl)) (lv_sub hl [2, 3, 4, 5, 6, 1, 0] rfl)
          · have hls : xl = nI lq := by rw [hls, hq]; rfl
            subst hls
            have hlq := lsA_lt _ hq
            have hTl := hM.2.2 e lq he (by omega)
            have hrl := rdg_le hTl
            refine lv_iload hx hb dX3_shownTo_33 (lv_at hl 5 rfl) ?_
            refine lv_bipush (v := (-5)) hx hb dX3_shownTo_35 (by decide) ?_
            refine lv_icmp_eq (tgt := 52) hx hb dX3_shownTo_37 (by decide) (fun q => absurd q (enc_ne (by omega))) (fun _ => ?_)
            refine lv_iload hx hb dX3_shownTo_40 (lv_at hl 0 rfl) ?_
            refine lv_aload_n hx hb dX3_shownTo_42 rfl (lv_at hl 1 rfl) ?_
            refine lv_iload_n hx hb dX3_shownTo_43 rfl (lv_at hl 2 rfl) ?_
            refine lv_iload hx hb dX3_shownTo_44 (lv_at hl 5 rfl) ?_
            refine zc_R (As := [.int (nI e), .int (nI lq)]) (rest := [.int (nI (rdg sg e kX))]) ⟨hx, hb, hml, hown, hts⟩ (c_readingAge l G b0 b1 b2 b3 b4 b5 b6 kn ik ty ra rb rd iw fl sg e lq (by omega) (by omega) hTl) (cwV 2 hts gX3_shownTo_X3_readingAge rfl rfl rfl (by decide +kernel) ⟨Nat.le_of_ble_eq_true rfl, Nat.le_of_ble_eq_true rfl⟩) hK hN hP hD [0, 1] rfl (by decide) (ci := 3) rfl rfl rfl hl.1 rfl (Nat.le_of_ble_eq_true rfl) dX3_shownTo_46 ⟨Nat.zero_le _, Nat.zero_le _⟩ (fun r46 h46 => ?_)
            subst h46
            refine zk_ige (tgt := 57) hx hb dX3_shownTo_49 (by decide) (by omega) (by omega) (fun c49 => ?_) (fun c49 => ?_)
            · refine lv_iload hx hb dX3_shownTo_57 (lv_at hl 5 rfl) ?_
              refine lv_istore (lv' := [(4, .int (nI lq)), (6, .int (nI (rdg sg e kX))), (0, .ref b0), (1, .int (nI e)), (2, .int (nI ag)), (3, .int (-5)), (5, .int (nI kX))]) hx hb dX3_shownTo_59 hl (by decide) rfl (fun ls hl => ?_)
              exact jn61 (nI lq) _ (by show _ = enc (lsStep (rdg sg e) kX (lsA (rdg sg e) kX)); rw [hq]; unfold lsStep; simp only; first | rfl | (rw [if_pos (by omega)] <;> rfl) | (rw [if_neg (by omega)] <;> rfl)) (lv_sub hl [2, 3, 4, 5, 6, 1, 0] rfl)
            · refine lv_iload hx hb dX3_shownTo_52 (lv_at hl 6 rfl) ?_
              refine lv_goto (tgt := 59) hx hb dX3_shownTo_54 (by decide) ?_
              refine lv_istore (lv' := [(4, .int (nI kX)), (6, .int (nI (rdg sg e kX))), (0, .ref b0), (1, .int (nI e)), (2, .int (nI ag)), (3, .int (-5)), (5, .int (nI kX))]) hx hb dX3_shownTo_59 hl (by decide) rfl (fun ls hl => ?_)
              exact jn61 (nI kX) _ (by show _ = enc (lsStep (rdg sg e) kX (lsA (rdg sg e) kX)); rw [hq]; unfold lsStep; simp only; first | rfl | (rw [if_pos (by omega)] <;> rfl) | (rw [if_neg (by omega)] <;> rfl)) (lv_sub hl [2, 3, 4, 5, 6, 1, 0] rfl)
        · have hf : xf = nI fq := by rw [hf, hq2]; rfl
          subst hf
          have hfq := ftA_lt _ hq2
          have hTf := hM.2.2 e fq he (by omega)
          have hwf := hTf.1.2
          have hrf := rdg_le hTf
          refine lv_aload_n hx hb dX3_shownTo_24 rfl (lv_at hl 0 rfl) ?_
          refine lv_iload_n hx hb dX3_shownTo_25 rfl (lv_at hl 1 rfl) ?_
          refine lv_iload hx hb dX3_shownTo_26 (lv_at hl 5 rfl) ?_
          refine zc_R (As := [.int (nI e), .int (nI kX)]) (rest := []) ⟨hx, hb, hml, hown, hts⟩ (c_readingAge l G b0 b1 b2 b3 b4 b5 b6 kn ik ty ra rb rd iw fl sg e kX (by omega) (by omega) hTk) (cwV 2 hts gX3_shownTo_X3_readingAge rfl rfl rfl (by decide +kernel) ⟨Nat.le_of_ble_eq_true rfl, Nat.le_of_ble_eq_true rfl⟩) hK hN hP hD [0, 1] rfl (by decide) (ci := 3) rfl rfl rfl hl.1 rfl (Nat.le_of_ble_eq_true rfl) dX3_shownTo_28 ⟨Nat.zero_le _, Nat.zero_le _⟩ (fun r28 h28 => ?_)
          subst h28
          refine lv_istore (lv' := [(6, .int (nI (rdg sg e kX))), (0, .ref b0), (1, .int (nI e)), (2, .int (nI ag)), (3, .int (nI fq)), (4, .int xl), (5, .int (nI kX))]) hx hb dX3_shownTo_31 hl (by decide) rfl (fun ls hl => ?_)
          have jn61 : ∀ (yl : Int32) (ls : Array Slot), (yl = enc (lsA (rdg sg e) (kX + 1))) → lv_has ls 9 [(0, .ref b0), (1, .int (nI e)), (2, .int (nI ag)), (3, .int (nI fq)), (5, .int (nI kX)), (6, .int (nI (rdg sg e kX))), (4, .int yl)] → W pP l eE (headSpec wsX3_shownTo ({ frames := 3, cells := 0, slots := 0, locals := 65 } : Room)).room sS mM ([.ref b0, .int (nI e), .int (nI ag)] : List Value).toArray below meth cC sS.heap [] 0 0 (MQ below (vp_Si (fun (rR : Int32) => (shT sg e ag = none ∧ rR = (-5)) ∨ (∃ (tX : Nat), shT sg e ag = some tX ∧ rR = nI tX))) ([.ref b0, .int (nI e), .int (nI ag)] : List Value).toArray sS 0 0 (fun _ => False)) (F0 mM 61 ls []) := by
            intro yl ls hyl hl
            refine lv_iload_n hx hb dX3_shownTo_61 rfl (lv_at hl 3 rfl) ?_
            refine lv_bipush (v := (-5)) hx hb dX3_shownTo_62 (by decide) ?_
            refine lv_icmp_ne (tgt := 71) hx hb dX3_shownTo_64 (by decide) (fun _ => ?_) (fun q => absurd q (enc_ne (by omega)))
            refine lv_iload hx hb dX3_shownTo_71 (lv_at hl 5 rfl) ?_
            refine lv_aload_n hx hb dX3_shownTo_73 rfl (lv_at hl 0 rfl) ?_
            refine lv_iload_n hx hb dX3_shownTo_74 rfl (lv_at hl 1 rfl) ?_
            refine lv_iload_n hx hb dX3_shownTo_75 rfl (lv_at hl 3 rfl) ?_
            refine zc_R (As := [.int (nI e), .int (nI fq)]) (rest := [.int (nI (rdg sg e kX))]) ⟨hx, hb, hml, hown, hts⟩ (c_readingAge l G b0 b1 b2 b3 b4 b5 b6 kn ik ty ra rb rd iw fl sg e fq (by omega) (by omega) hTf) (cwV 2 hts gX3_shownTo_X3_readingAge rfl rfl rfl (by decide +kernel) ⟨Nat.le_of_ble_eq_true rfl, Nat.le_of_ble_eq_true rfl⟩) hK hN hP hD [0, 1] rfl (by decide) (ci := 3) rfl rfl rfl hl.1 rfl (Nat.le_of_ble_eq_true rfl) dX3_shownTo_76 ⟨Nat.zero_le _, Nat.zero_le _⟩ (fun r76 h76 => ?_)
            subst h76
            refine lv_isub hx hb dX3_shownTo_79 ?_
            refine lv_istore (lv' := [(7, .int ((nI (rdg sg e kX)) - (nI (rdg sg e fq)))), (0, .ref b0), (1, .int (nI e)), (2, .int (nI ag)), (3, .int (nI fq)), (5, .int (nI kX)), (6, .int (nI (rdg sg e kX))), (4, .int yl)]) hx hb dX3_shownTo_80 hl (by decide) rfl (fun ls hl => ?_)
            refine lv_iload_n hx hb dX3_shownTo_82 rfl (lv_at hl 4 rfl) ?_
            refine lv_bipush (v := (-5)) hx hb dX3_shownTo_83 (by decide) ?_
            refine lv_icmp_eq (tgt := 118) hx hb dX3_shownTo_85 (by decide) (fun q => absurd q (enc_ne (by omega))) (fun _ => ?_)
            refine lv_aload_n hx hb dX3_shownTo_88 rfl (lv_at hl 1 rfl) ?_
            refine va_get (D := G.1) (ci := 3) (v := .ref b1) (C := RX3) (T := TX3) (N := 14) hx hb hts mic_shownTo_3 hown hK hP 0 rfl rfl 0 (by decide) (hts _ mwc_shownTo_0) (fun _ h9 => h9) rfl dX3_shownTo_89 ?_
            refine lv_iload_n hx hb dX3_shownTo_92 rfl (lv_at hl 2 rfl) ?_
            refine lv_iload hx hb dX3_shownTo_93 (lv_at hl 5 rfl) ?_
            refine lv_iconst (v := nI 0) hx hb dX3_shownTo_95 (by decide) ?_
            refine zc_S (As := [.int (nI e), .int (nI kX), .int (nI 0)]) (rest := [.ref b1]) ⟨hx, hb, hml, hown, hts⟩ (c_of l e kX 0 ) (va_cwS 3 hts gX3_shownTo_X3_of rfl rfl rfl (by decide +kernel) ⟨Nat.le_of_ble_eq_true rfl, Nat.le_of_ble_eq_true rfl⟩) rfl hl.1 rfl (Nat.le_of_ble_eq_true rfl) dX3_shownTo_96 ⟨Nat.zero_le _, Nat.zero_le _⟩ (fun r96 h96 => ?_)
            subst h96
            refine zk_ald (f := sg) (k := 11 + 76 * e + 15 * kX + 0) hx hb hK hP 1 0 rfl rfl (Nat.le_of_ble_eq_true rfl) (by omega) dX3_shownTo_99 ?_
            refine lv_aload_n hx hb dX3_shownTo_100 rfl (lv_at hl 1 rfl) ?_
            refine va_get (D := G.1) (ci := 3) (v := .ref b1) (C := RX3) (T := TX3) (N := 14) hx hb hts mic_shownTo_3 hown hK hP 0 rfl rfl 0 (by decide) (hts _ mwc_shownTo_0) (fun _ h9 => h9) rfl dX3_shownTo_101 ?_
            refine lv_iload_n hx hb dX3_shownTo_104 rfl (lv_at hl 2 rfl) ?_
            refine lv_iload_n hx hb dX3_shownTo_105 rfl (lv_at hl 4 rfl) ?_
            refine lv_iconst (v := nI 0) hx hb dX3_shownTo_106 (by decide) ?_
            refine zc_S (As := [.int (nI e), .int (nI fq), .int (nI 0)]) (rest := [.ref b1, .int (nI (sg (11 + 76 * e + 15 * kX + 0)))]) ⟨hx, hb, hml, hown, hts⟩ (c_of l e fq 0 ) (va_cwS 3 hts gX3_shownTo_X3_of rfl rfl rfl (by decide +kernel) ⟨Nat.le_of_ble_eq_true rfl, Nat.le_of_ble_eq_true rfl⟩) rfl hl.1 rfl (Nat.le_of_ble_eq_true rfl) dX3_shownTo_107 ⟨Nat.zero_le _, Nat.zero_le _⟩ (fun r107 h107 => ?_)
            subst h107
            refine zk_ald (f := sg) (k := 11 + 76 * e + 15 * fq + 0) hx hb hK hP 1 0 rfl rfl (Nat.le_of_ble_eq_true rfl) (by omega) dX3_shownTo_110 ?_
            refine zk_ige (tgt := 118) hx hb dX3_shownTo_111 (by decide) (by omega) (by omega) (fun c111 => ?_) (fun c111 => ?_)
            · refine lv_iconst (v := nI 0) hx hb dX3_shownTo_118 (by decide) ?_
              refine lv_istore (lv' := [(8, .int (nI 0)), (7, .int ((nI (rdg sg e kX)) - (nI (rdg sg e fq)))), (0, .ref b0), (1, .int (nI e)), (2, .int (nI ag)), (3, .int (nI fq)), (5, .int (nI kX)), (6, .int (nI (rdg sg e kX))), (4, .int yl)]) hx hb dX3_shownTo_119 hl (by decide) rfl (fun ls hl => ?_)
              refine lv_iload hx hb dX3_shownTo_121 (lv_at hl 7 rfl) ?_
              refine lv_iload_n hx hb dX3_shownTo_123 rfl (lv_at hl 4 rfl) ?_
              refine zk_igt (tgt := 147) hx hb dX3_shownTo_124 (by decide) (by omega) (by omega) (fun c124 => ?_) (fun c124 => ?_)
              · refine lv_iload_n hx hb dX3_shownTo_147 rfl (lv_at hl 5 rfl) ?_
                refine lv_istore_n (lv' := [(3, .int (nI fq)), (8, .int (nI 0)), (7, .int ((nI (rdg sg e kX)) - (nI (rdg sg e fq)))), (0, .ref b0), (1, .int (nI e)), (2, .int (nI ag)), (5, .int (nI kX)), (6, .int (nI (rdg sg e kX))), (4, .int yl)]) hx hb dX3_shownTo_148 rfl hl (by decide) rfl (fun ls hl => ?_)
                refine zk_inc (a := kX) (d := 1) (lv' := [(5, .int (nI (kX + 1))), (3, .int (nI fq)), (8, .int (nI 0)), (7, .int ((nI (rdg sg e kX)) - (nI (rdg sg e fq)))), (0, .ref b0), (1, .int (nI e)), (2, .int (nI ag)), (6, .int (nI (rdg sg e kX))), (4, .int yl)]) hx hb dX3_shownTo_149 hl (K := 6) rfl (by decide) (by decide) rfl (fun ls hl => ?_)
                refine lv_goto (tgt := 10) hx hb dX3_shownTo_152 (by decide) ?_
                exact ih10 (kX + 1) (nI fq) yl _ (by omega) (by omega) (by show _ = enc (ftStep (rdg sg e) (wdF sg e) ag kX (ftA (rdg sg e) (wdF sg e) ag kX)); rw [hq2]; unfold ftStep; simp only [wdF]; first | rfl | (rw [if_pos (by omega)] <;> rfl) | (rw [if_neg (by omega)] <;> rfl)) hyl (lv_sub hl [4, 5, 6, 1, 8, 0] rfl)
              · refine lv_iload hx hb dX3_shownTo_127 (lv_at hl 1 rfl) ?_
                refine lv_if_gt (tgt := 142) hx hb dX3_shownTo_129 (by decide) (fun c129 => ?_) (fun c129 => ?_)
                · have d129 := (zd_gt (by omega) (by omega)).mp c129
                  refine lv_iload hx hb dX3_shownTo_142 (lv_at hl 6 rfl) ?_
                  refine lv_goto (tgt := 148) hx hb dX3_shownTo_144 (by decide) ?_
                  refine lv_istore_n (lv' := [(3, .int (nI kX)), (8, .int (nI 0)), (7, .int ((nI (rdg sg e kX)) - (nI (rdg sg e fq)))), (0, .ref b0), (1, .int (nI e)), (2, .int (nI ag)), (5, .int (nI kX)), (6, .int (nI (rdg sg e kX))), (4, .int yl)]) hx hb dX3_shownTo_148 rfl hl (by decide) rfl (fun ls hl => ?_)
                  refine zk_inc (a := kX) (d := 1) (lv' := [(5, .int (nI (kX + 1))), (3, .int (nI kX)), (8, .int (nI 0)), (7, .int ((nI (rdg sg e kX)) - (nI (rdg sg e fq)))), (0, .ref b0), (1, .int (nI e)), (2, .int (nI ag)), (6, .int (nI (rdg sg e kX))), (4, .int yl)]) hx hb dX3_shownTo_149 hl (K := 6) rfl (by decide) (by decide) rfl (fun ls hl => ?_)
                  refine lv_goto (tgt := 10) hx hb dX3_shownTo_152 (by decide) ?_
                  exact ih10 (kX + 1) (nI kX) yl _ (by omega) (by omega) (by show _ = enc (ftStep (rdg sg e) (wdF sg e) ag kX (ftA (rdg sg e) (wdF sg e) ag kX)); rw [hq2]; unfold ftStep; simp only [wdF]; first | rfl | (rw [if_pos (by omega)] <;> rfl) | (rw [if_neg (by omega)] <;> rfl)) hyl (lv_sub hl [4, 5, 6, 1, 8, 0] rfl)
                · have d129 : ¬ rdg sg e fq < rdg sg e kX := fun q => c129 ((zd_gt (by omega) (by omega)).mpr q)
                  refine lv_iload hx hb dX3_shownTo_132 (lv_at hl 1 rfl) ?_
                  refine lv_if_ne (tgt := 147) hx hb dX3_shownTo_134 (by decide) (fun c134 => ?_) (fun c134 => ?_)
                  · have d134 : ¬ rdg sg e kX = rdg sg e fq := fun q => c134 ((zd_eq (by omega) (by omega)).mpr q)
                    refine lv_iload_n hx hb dX3_shownTo_147 rfl (lv_at hl 5 rfl) ?_
                    refine lv_istore_n (lv' := [(3, .int (nI fq)), (8, .int (nI 0)), (7, .int ((nI (rdg sg e kX)) - (nI (rdg sg e fq)))), (0, .ref b0), (1, .int (nI e)), (2, .int (nI ag)), (5, .int (nI kX)), (6, .int (nI (rdg sg e kX))), (4, .int yl)]) hx hb dX3_shownTo_148 rfl hl (by decide) rfl (fun ls hl => ?_)
                    refine zk_inc (a := kX) (d := 1) (lv' := [(5, .int (nI (kX + 1))), (3, .int (nI fq)), (8, .int (nI 0)), (7, .int ((nI (rdg sg e kX)) - (nI (rdg sg e fq)))), (0, .ref b0), (1, .int (nI e)), (2, .int (nI ag)), (6, .int (nI (rdg sg e kX))), (4, .int yl)]) hx hb dX3_shownTo_149 hl (K := 6) rfl (by decide) (by decide) rfl (fun ls hl => ?_)
                    refine lv_goto (tgt := 10) hx hb dX3_shownTo_152 (by decide) ?_
                    exact ih10 (kX + 1) (nI fq) yl _ (by omega) (by omega) (by show _ = enc (ftStep (rdg sg e) (wdF sg e) ag kX (ftA (rdg sg e) (wdF sg e) ag kX)); rw [hq2]; unfold ftStep; simp only [wdF]; first | rfl | (rw [if_pos (by omega)] <;> rfl) | (rw [if_neg (by omega)] <;> rfl)) hyl (lv_sub hl [4, 5, 6, 1, 8, 0] rfl)
                  · have d134 := (zd_eq (by omega) (by omega)).mp c134
                    refine lv_iload hx hb dX3_shownTo_137 (lv_at hl 0 rfl) ?_
                    refine lv_if_eq (tgt := 147) hx hb dX3_shownTo_139 (by decide) (fun _ => ?_) (fun q => absurd (by decide) q)
                    refine lv_iload_n hx hb dX3_shownTo_147 rfl (lv_at hl 5 rfl) ?_
                    refine lv_istore_n (lv' := [(3, .int (nI fq)), (8, .int (nI 0)), (7, .int ((nI (rdg sg e kX)) - (nI (rdg sg e fq)))), (0, .ref b0), (1, .int (nI e)), (2, .int (nI ag)), (5, .int (nI kX)), (6, .int (nI (rdg sg e kX))), (4, .int yl)]) hx hb dX3_shownTo_148 rfl hl (by decide) rfl (fun ls hl => ?_)
                    refine zk_inc (a := kX) (d := 1) (lv' := [(5, .int (nI (kX + 1))), (3, .int (nI fq)), (8, .int (nI 0)), (7, .int ((nI (rdg sg e kX)) - (nI (rdg sg e fq)))), (0, .ref b0), (1, .int (nI e)), (2, .int (nI ag)), (6, .int (nI (rdg sg e kX))), (4, .int yl)]) hx hb dX3_shownTo_149 hl (K := 6) rfl (by decide) (by decide) rfl (fun ls hl => ?_)
                    refine lv_goto (tgt := 10) hx hb dX3_shownTo_152 (by decide) ?_
                    exact ih10 (kX + 1) (nI fq) yl _ (by omega) (by omega) (by show _ = enc (ftStep (rdg sg e) (wdF sg e) ag kX (ftA (rdg sg e) (wdF sg e) ag kX)); rw [hq2]; unfold ftStep; simp only [wdF]; first | rfl | (rw [if_pos (by omega)] <;> rfl) | (rw [if_neg (by omega)] <;> rfl)) hyl (lv_sub hl [4, 5, 6, 1, 8, 0] rfl)
            · refine lv_iconst (v := nI 1) hx hb dX3_shownTo_114 (by decide) ?_
              refine lv_goto (tgt := 119) hx hb dX3_shownTo_115 (by decide) ?_
              refine lv_istore (lv' := [(8, .int (nI 1)), (7, .int ((nI (rdg sg e kX)) - (nI (rdg sg e fq)))), (0, .ref b0), (1, .int (nI e)), (2, .int (nI ag)), (3, .int (nI fq)), (5, .int (nI kX)), (6, .int (nI (rdg sg e kX))), (4, .int yl)]) hx hb dX3_shownTo_119 hl (by decide) rfl (fun ls hl => ?_)
              refine lv_iload hx hb dX3_shownTo_121 (lv_at hl 7 rfl) ?_
              refine lv_iload_n hx hb dX3_shownTo_123 rfl (lv_at hl 4 rfl) ?_
              refine zk_igt (tgt := 147) hx hb dX3_shownTo_124 (by decide) (by omega) (by omega) (fun c124 => ?_) (fun c124 => ?_)
              · refine lv_iload_n hx hb dX3_shownTo_147 rfl (lv_at hl 5 rfl) ?_
                refine lv_istore_n (lv' := [(3, .int (nI fq)), (8, .int (nI 1)), (7, .int ((nI (rdg sg e kX)) - (nI (rdg sg e fq)))), (0, .ref b0), (1, .int (nI e)), (2, .int (nI ag)), (5, .int (nI kX)), (6, .int (nI (rdg sg e kX))), (4, .int yl)]) hx hb dX3_shownTo_148 rfl hl (by decide) rfl (fun ls hl => ?_)
                refine zk_inc (a := kX) (d := 1) (lv' := [(5, .int (nI (kX + 1))), (3, .int (nI fq)), (8, .int (nI 1)), (7, .int ((nI (rdg sg e kX)) - (nI (rdg sg e fq)))), (0, .ref b0), (1, .int (nI e)), (2, .int (nI ag)), (6, .int (nI (rdg sg e kX))), (4, .int yl)]) hx hb dX3_shownTo_149 hl (K := 6) rfl (by decide) (by decide) rfl (fun ls hl => ?_)
                refine lv_goto (tgt := 10) hx hb dX3_shownTo_152 (by decide) ?_
                exact ih10 (kX + 1) (nI fq) yl _ (by omega) (by omega) (by show _ = enc (ftStep (rdg sg e) (wdF sg e) ag kX (ftA (rdg sg e) (wdF sg e) ag kX)); rw [hq2]; unfold ftStep; simp only [wdF]; first | rfl | (rw [if_pos (by omega)] <;> rfl) | (rw [if_neg (by omega)] <;> rfl)) hyl (lv_sub hl [4, 5, 6, 1, 8, 0] rfl)
              · refine lv_iload hx hb dX3_shownTo_127 (lv_at hl 1 rfl) ?_
                refine lv_if_gt (tgt := 142) hx hb dX3_shownTo_129 (by decide) (fun c129 => ?_) (fun c129 => ?_)
                · have d129 := (zd_gt (by omega) (by omega)).mp c129
                  refine lv_iload hx hb dX3_shownTo_142 (lv_at hl 6 rfl) ?_
                  refine lv_goto (tgt := 148) hx hb dX3_shownTo_144 (by decide) ?_
                  refine lv_istore_n (lv' := [(3, .int (nI kX)), (8, .int (nI 1)), (7, .int ((nI (rdg sg e kX)) - (nI (rdg sg e fq)))), (0, .ref b0), (1, .int (nI e)), (2, .int (nI ag)), (5, .int (nI kX)), (6, .int (nI (rdg sg e kX))), (4, .int yl)]) hx hb dX3_shownTo_148 rfl hl (by decide) rfl (fun ls hl => ?_)
                  refine zk_inc (a := kX) (d := 1) (lv' := [(5, .int (nI (kX + 1))), (3, .int (nI kX)), (8, .int (nI 1)), (7, .int ((nI (rdg sg e kX)) - (nI (rdg sg e fq)))), (0, .ref b0), (1, .int (nI e)), (2, .int (nI ag)), (6, .int (nI (rdg sg e kX))), (4, .int yl)]) hx hb dX3_shownTo_149 hl (K := 6) rfl (by decide) (by decide) rfl (fun ls hl => ?_)
                  refine lv_goto (tgt := 10) hx hb dX3_shownTo_152 (by decide) ?_
                  exact ih10 (kX + 1) (nI kX) yl _ (by omega) (by omega) (by show _ = enc (ftStep (rdg sg e) (wdF sg e) ag kX (ftA (rdg sg e) (wdF sg e) ag kX)); rw [hq2]; unfold ftStep; simp only [wdF]; first | rfl | (rw [if_pos (by omega)] <;> rfl) | (rw [if_neg (by omega)] <;> rfl)) hyl (lv_sub hl [4, 5, 6, 1, 8, 0] rfl)
                · have d129 : ¬ rdg sg e fq < rdg sg e kX := fun q => c129 ((zd_gt (by omega) (by omega)).mpr q)
                  refine lv_iload hx hb dX3_shownTo_132 (lv_at hl 1 rfl) ?_
                  refine lv_if_ne (tgt := 147) hx hb dX3_shownTo_134 (by decide) (fun c134 => ?_) (fun c134 => ?_)
                  · have d134 : ¬ rdg sg e kX = rdg sg e fq := fun q => c134 ((zd_eq (by omega) (by omega)).mpr q)
                    refine lv_iload_n hx hb dX3_shownTo_147 rfl (lv_at hl 5 rfl) ?_
                    refine lv_istore_n (lv' := [(3, .int (nI fq)), (8, .int (nI 1)), (7, .int ((nI (rdg sg e kX)) - (nI (rdg sg e fq)))), (0, .ref b0), (1, .int (nI e)), (2, .int (nI ag)), (5, .int (nI kX)), (6, .int (nI (rdg sg e kX))), (4, .int yl)]) hx hb dX3_shownTo_148 rfl hl (by decide) rfl (fun ls hl => ?_)
                    refine zk_inc (a := kX) (d := 1) (lv' := [(5, .int (nI (kX + 1))), (3, .int (nI fq)), (8, .int (nI 1)), (7, .int ((nI (rdg sg e kX)) - (nI (rdg sg e fq)))), (0, .ref b0), (1, .int (nI e)), (2, .int (nI ag)), (6, .int (nI (rdg sg e kX))), (4, .int yl)]) hx hb dX3_shownTo_149 hl (K := 6) rfl (by decide) (by decide) rfl (fun ls hl => ?_)
                    refine lv_goto (tgt := 10) hx hb dX3_shownTo_152 (by decide) ?_
                    exact ih10 (kX + 1) (nI fq) yl _ (by omega) (by omega) (by show _ = enc (ftStep (rdg sg e) (wdF sg e) ag kX (ftA (rdg sg e) (wdF sg e) ag kX)); rw [hq2]; unfold ftStep; simp only [wdF]; first | rfl | (rw [if_pos (by omega)] <;> rfl) | (rw [if_neg (by omega)] <;> rfl)) hyl (lv_sub hl [4, 5, 6, 1, 8, 0] rfl)
                  · have d134 := (zd_eq (by omega) (by omega)).mp c134
                    refine lv_iload hx hb dX3_shownTo_137 (lv_at hl 0 rfl) ?_
                    refine lv_if_eq (tgt := 147) hx hb dX3_shownTo_139 (by decide) (fun q => absurd q (by decide)) (fun _ => ?_)
                    refine lv_iload hx hb dX3_shownTo_142 (lv_at hl 6 rfl) ?_
                    refine lv_goto (tgt := 148) hx hb dX3_shownTo_144 (by decide) ?_
                    refine lv_istore_n (lv' := [(3, .int (nI kX)), (8, .int (nI 1)), (7, .int ((nI (rdg sg e kX)) - (nI (rdg sg e fq)))), (0, .ref b0), (1, .int (nI e)), (2, .int (nI ag)), (5, .int (nI kX)), (6, .int (nI (rdg sg e kX))), (4, .int yl)]) hx hb dX3_shownTo_148 rfl hl (by decide) rfl (fun ls hl => ?_)
                    refine zk_inc (a := kX) (d := 1) (lv' := [(5, .int (nI (kX + 1))), (3, .int (nI kX)), (8, .int (nI 1)), (7, .int ((nI (rdg sg e kX)) - (nI (rdg sg e fq)))), (0, .ref b0), (1, .int (nI e)), (2, .int (nI ag)), (6, .int (nI (rdg sg e kX))), (4, .int yl)]) hx hb dX3_shownTo_149 hl (K := 6) rfl (by decide) (by decide) rfl (fun ls hl => ?_)
                    refine lv_goto (tgt := 10) hx hb dX3_shownTo_152 (by decide) ?_
                    exact ih10 (kX + 1) (nI kX) yl _ (by omega) (by omega) (by show _ = enc (ftStep (rdg sg e) (wdF sg e) ag kX (ftA (rdg sg e) (wdF sg e) ag kX)); rw [hq2]; unfold ftStep; simp only [wdF]; first | rfl | (rw [if_pos (by omega)] <;> rfl) | (rw [if_neg (by omega)] <;> rfl)) hyl (lv_sub hl [4, 5, 6, 1, 8, 0] rfl)
          rcases hq : lsA (rdg sg e) kX with _ | lq
          · have hls : xl = -5 := by rw [hls, hq]; rfl
            subst hls
            refine lv_iload hx hb dX3_shownTo_33 (lv_at hl 5 rfl) ?_
            refine lv_bipush (v := (-5)) hx hb dX3_shownTo_35 (by decide) ?_
            refine lv_icmp_eq (tgt := 52) hx hb dX3_shownTo_37 (by decide) (fun _ => ?_) (fun q => absurd (by decide) q)
            refine lv_iload hx hb dX3_shownTo_52 (lv_at hl 6 rfl) ?_
            refine lv_goto (tgt := 59) hx hb dX3_shownTo_54 (by decide) ?_
            refine lv_istore (lv' := [(4, .int (nI kX)), (6, .int (nI (rdg sg e kX))), (0, .ref b0), (1, .int (nI e)), (2, .int (nI ag)), (3, .int (nI fq)), (5, .int (nI kX))]) hx hb dX3_shownTo_59 hl (by decide) rfl (fun ls hl => ?_)
            exact jn61 (nI kX) _ (by show _ = enc (lsStep (rdg sg e) kX (lsA (rdg sg e) kX)); rw [hq]; unfold lsStep; simp only; first | rfl | (rw [if_pos (by omega)] <;> rfl) | (rw [if_neg (by omega)] <;> rfl)) (lv_sub hl [2, 3, 4, 5, 6, 1, 0] rfl)
          · have hls : xl = nI lq := by rw [hls, hq]; rfl
            subst hls
            have hlq := lsA_lt _ hq
            have hTl := hM.2.2 e lq he (by omega)
            have hrl := rdg_le hTl
            refine lv_iload hx hb dX3_shownTo_33 (lv_at hl 5 rfl) ?_
            refine lv_bipush (v := (-5)) hx hb dX3_shownTo_35 (by decide) ?_
            refine lv_icmp_eq (tgt := 52) hx hb dX3_shownTo_37 (by decide) (fun q => absurd q (enc_ne (by omega))) (fun _ => ?_)
            refine lv_iload hx hb dX3_shownTo_40 (lv_at hl 0 rfl) ?_
            refine lv_aload_n hx hb dX3_shownTo_42 rfl (lv_at hl 1 rfl) ?_
            refine lv_iload_n hx hb dX3_shownTo_43 rfl (lv_at hl 2 rfl) ?_
            refine lv_iload hx hb dX3_shownTo_44 (lv_at hl 5 rfl) ?_
            refine zc_R (As := [.int (nI e), .int (nI lq)]) (rest := [.int (nI (rdg sg e kX))]) ⟨hx, hb, hml, hown, hts⟩ (c_readingAge l G b0 b1 b2 b3 b4 b5 b6 kn ik ty ra rb rd iw fl sg e lq (by omega) (by omega) hTl) (cwV 2 hts gX3_shownTo_X3_readingAge rfl rfl rfl (by decide +kernel) ⟨Nat.le_of_ble_eq_true rfl, Nat.le_of_ble_eq_true rfl⟩) hK hN hP hD [0, 1] rfl (by decide) (ci := 3) rfl rfl rfl hl.1 rfl (Nat.le_of_ble_eq_true rfl) dX3_shownTo_46 ⟨Nat.zero_le _, Nat.zero_le _⟩ (fun r46 h46 => ?_)
            subst h46
            refine zk_ige (tgt := 57) hx hb dX3_shownTo_49 (by decide) (by omega) (by omega) (fun c49 => ?_) (fun c49 => ?_)
            · refine lv_iload hx hb dX3_shownTo_57 (lv_at hl 5 rfl) ?_
              refine lv_istore (lv' := [(4, .int (nI lq)), (6, .int (nI (rdg sg e kX))), (0, .ref b0), (1, .int (nI e)), (2, .int (nI ag)), (3, .int (nI fq)), (5, .int (nI kX))]) hx hb dX3_shownTo_59 hl (by decide) rfl (fun ls hl => ?_)
              exact jn61 (nI lq) _ (by show _ = enc (lsStep (rdg sg e) kX (lsA (rdg sg e) kX)); rw [hq]; unfold lsStep; simp only; first | rfl | (rw [if_pos (by omega)] <;> rfl) | (rw [if_neg (by omega)] <;> rfl)) (lv_sub hl [2, 3, 4, 5, 6, 1, 0] rfl)
            · refine lv_iload hx hb dX3_shownTo_52 (lv_at hl 6 rfl) ?_
              refine lv_goto (tgt := 59) hx hb dX3_shownTo_54 (by decide) ?_
              refine lv_istore (lv' := [(4, .int (nI kX)), (6, .int (nI (rdg sg e kX))), (0, .ref b0), (1, .int (nI e)), (2, .int (nI ag)), (3, .int (nI fq)), (5, .int (nI kX))]) hx hb dX3_shownTo_59 hl (by decide) rfl (fun ls hl => ?_)
              exact jn61 (nI kX) _ (by show _ = enc (lsStep (rdg sg e) kX (lsA (rdg sg e) kX)); rw [hq]; unfold lsStep; simp only; first | rfl | (rw [if_pos (by omega)] <;> rfl) | (rw [if_neg (by omega)] <;> rfl)) (lv_sub hl [2, 3, 4, 5, 6, 1, 0] rfl)
  exact lp10 _ 0 (-5) (-5) _ (Nat.lt_succ_self _) (by omega) rfl rfl (lv_sub hl [3, 4, 5, 2, 1, 0] rfl)
set_option maxRecDepth 100000 in
theorem mwc_textFault_0 : Cond.constant RX3 62 (65535) ∈ wsX3_textFault := by decide +kernel
set_option maxRecDepth 100000 in
theorem mwc_textFault_1 : Cond.fieldLink RX3 7 "ExhibitTextsModel" "s" "[I" ∈ wsX3_textFault := by decide +kernel
set_option maxRecDepth 100000 in
theorem mic_textFault_3 : ∀ w ∈ u_ws RX3 TX3 14, w ∈ wsX3_textFault := by decide +kernel
set_option maxHeartbeats 4000000 in
set_option maxRecDepth 100000 in
/-- X3_textFault: why a text is refused -/
theorem c_textFault (l : Launch) (G : zG) (b0 : Nat) (b1 : Nat) (b2 : Nat) (b3 : Nat) (b4 : Nat) (b5 : Nat) (b6 : Nat) (kn : Nat) (ik : Nat) (ty : Nat) (ra : Int32) (rb : Int32) (rd : Nat) (iw : Nat) (fl : Int32) (sg : Nat → Nat) (x : Int32) (aw : Int32) (as : Int32) (az : Int32) (af : Int32) (hM : mOK sg) : Met l yX3_textFault wsX3_textFault ({ frames := 2, cells := 0, slots := 0, locals := 42 } : Room) (zPc G [.ref b0, .int x, .int aw, .int as, .int az, .int af] [(b0, .inr (3, [.ref b1, .ref b2, .ref b3, .int (nI kn), .ref b4, .int (nI ik), .ref b5, .int (nI ty), .int ra, .int rb, .int (nI rd), .int (nI iw), .ref b6, .int fl])), (b1, .inl (G.2.1, 618, .inl (arN sg)))]) (vp_Si (fun (rR : Int32) => (¬ pE x ∧ rR = (-1)) ∨ (∃ (eX : Nat), eX < 8 ∧ x = nI eX ∧ ¬ pTx aw as az af ∧ rR = (-2)) ∨ (∃ (eX : Nat) (wX : Nat) (sX : Nat) (zX : Nat) (fX : Nat), eX < 8 ∧ x = nI eX ∧ 1 ≤ wX ∧ wX ≤ 300 ∧ 1 ≤ sX ∧ sX ≤ 50 ∧ sX ≤ wX ∧ zX ≤ wX ∧ 1 ≤ fX ∧ fX ≤ 65535 ∧ aw = nI wX ∧ as = nI sX ∧ az = nI zX ∧ af = nI fX ∧ sg (10 + 76 * eX) = 5 ∧ rR = (-3)) ∨ (∃ (eX : Nat) (wX : Nat) (sX : Nat) (zX : Nat) (fX : Nat), eX < 8 ∧ x = nI eX ∧ 1 ≤ wX ∧ wX ≤ 300 ∧ 1 ≤ sX ∧ sX ≤ 50 ∧ sX ≤ wX ∧ zX ≤ wX ∧ 1 ≤ fX ∧ fX ≤ 65535 ∧ aw = nI wX ∧ as = nI sX ∧ az = nI zX ∧ af = nI fX ∧ sg (10 + 76 * eX) < 5 ∧ rR = nI 0))) 0 0 (fun _ => False) := by
  refine zR (cc := cX3_textFault) (maxL := 6) (ret := (some .int)) (by decide) rfl (Nat.le_of_ble_eq_true rfl) ?_
  intro pP eE sS mM below meth cC hx hb hr hts hown hlk hml hK hN hP hD ls hl
  have hl : lv_has ls 6 [(0, .ref b0), (1, .int x), (2, .int aw), (3, .int as), (4, .int az), (5, .int af)] := hl
  refine lv_iload_n hx hb dX3_textFault_0 rfl (lv_at hl 1 rfl) ?_
  refine zc_S (As := [.int x]) (rest := []) ⟨hx, hb, hml, hown, hts⟩ (c_isExhibit l x ) (va_cwS 1 hts gX3_textFault_X3_isExhibit rfl rfl rfl (by decide +kernel) ⟨Nat.le_of_ble_eq_true rfl, Nat.le_of_ble_eq_true rfl⟩) rfl hl.1 rfl (Nat.le_of_ble_eq_true rfl) dX3_textFault_1 ⟨Nat.zero_le _, Nat.zero_le _⟩ (fun r1 h1 => ?_)
  rcases h1 with ⟨eX_1, h1_0, rfl, rfl⟩ | ⟨h1_0, rfl⟩
  · refine lv_if_ne (tgt := 9) hx hb dX3_textFault_4 (by decide) (fun _ => ?_) (fun q => absurd q (by decide))
    refine lv_iload_n hx hb dX3_textFault_9 rfl (lv_at hl 2 rfl) ?_
    refine lv_iconst (v := nI 1) hx hb dX3_textFault_10 (by decide) ?_
    refine lv_sipush (v := nI 300) hx hb dX3_textFault_11 (by decide) ?_
    refine zc_S (As := [.int aw, .int (nI 1), .int (nI 300)]) (rest := []) ⟨hx, hb, hml, hown, hts⟩ (c_in_c l aw 1 300 (by omega) (by omega)) (va_cwS 3 hts gX3_textFault_X3_in rfl rfl rfl (by decide +kernel) ⟨Nat.le_of_ble_eq_true rfl, Nat.le_of_ble_eq_true rfl⟩) rfl hl.1 rfl (Nat.le_of_ble_eq_true rfl) dX3_textFault_14 ⟨Nat.zero_le _, Nat.zero_le _⟩ (fun r14 h14 => ?_)
    rcases h14 with ⟨nX_14, h14_0, h14_1, rfl, rfl⟩ | ⟨h14_0, rfl⟩
    · refine lv_if_eq (tgt := 61) hx hb dX3_textFault_17 (by decide) (fun q => absurd q (by decide)) (fun _ => ?_)
      refine lv_iload_n hx hb dX3_textFault_20 rfl (lv_at hl 3 rfl) ?_
      refine lv_iconst (v := nI 1) hx hb dX3_textFault_21 (by decide) ?_
      refine lv_iload_n hx hb dX3_textFault_22 rfl (lv_at hl 2 rfl) ?_
      refine lv_bipush (v := nI 50) hx hb dX3_textFault_23 (by decide) ?_
      refine zk_ige (tgt := 32) hx hb dX3_textFault_25 (by decide) (by omega) (by omega) (fun c25 => ?_) (fun c25 => ?_)
      · refine lv_bipush (v := nI 50) hx hb dX3_textFault_32 (by decide) ?_
        refine zc_S (As := [.int as, .int (nI 1), .int (nI 50)]) (rest := []) ⟨hx, hb, hml, hown, hts⟩ (c_in_c l as 1 50 (by omega) (by omega)) (va_cwS 3 hts gX3_textFault_X3_in rfl rfl rfl (by decide +kernel) ⟨Nat.le_of_ble_eq_true rfl, Nat.le_of_ble_eq_true rfl⟩) rfl hl.1 rfl (Nat.le_of_ble_eq_true rfl) dX3_textFault_34 ⟨Nat.zero_le _, Nat.zero_le _⟩ (fun r34 h34 => ?_)
        rcases h34 with ⟨nX_34, h34_0, h34_1, rfl, rfl⟩ | ⟨h34_0, rfl⟩
        · refine lv_if_eq (tgt := 61) hx hb dX3_textFault_37 (by decide) (fun q => absurd q (by decide)) (fun _ => ?_)
          refine lv_iload hx hb dX3_textFault_40 (lv_at hl 4 rfl) ?_
          refine lv_iconst (v := nI 0) hx hb dX3_textFault_42 (by decide) ?_
          refine lv_iload_n hx hb dX3_textFault_43 rfl (lv_at hl 2 rfl) ?_
          refine zc_S (As := [.int az, .int (nI 0), .int (nI nX_14)]) (rest := []) ⟨hx, hb, hml, hown, hts⟩ (c_in_c l az 0 nX_14 (by omega) (by omega)) (va_cwS 3 hts gX3_textFault_X3_in rfl rfl rfl (by decide +kernel) ⟨Nat.le_of_ble_eq_true rfl, Nat.le_of_ble_eq_true rfl⟩) rfl hl.1 rfl (Nat.le_of_ble_eq_true rfl) dX3_textFault_44 ⟨Nat.zero_le _, Nat.zero_le _⟩ (fun r44 h44 => ?_)
          rcases h44 with ⟨nX_44, h44_0, h44_1, rfl, rfl⟩ | ⟨h44_0, rfl⟩
          · refine lv_if_eq (tgt := 61) hx hb dX3_textFault_47 (by decide) (fun q => absurd q (by decide)) (fun _ => ?_)
            refine lv_iload hx hb dX3_textFault_50 (lv_at hl 5 rfl) ?_
            refine lv_iconst (v := nI 1) hx hb dX3_textFault_52 (by decide) ?_
            refine lv_ldc (v := (65535 : Int32)) hx hb hown (hts _ mwc_textFault_0) dX3_textFault_53 ?_
            refine zk_top (y := nI 65535) rfl ?_
            refine zc_S (As := [.int af, .int (nI 1), .int (nI 65535)]) (rest := []) ⟨hx, hb, hml, hown, hts⟩ (c_in_c l af 1 65535 (by omega) (by omega)) (va_cwS 3 hts gX3_textFault_X3_in rfl rfl rfl (by decide +kernel) ⟨Nat.le_of_ble_eq_true rfl, Nat.le_of_ble_eq_true rfl⟩) rfl hl.1 rfl (Nat.le_of_ble_eq_true rfl) dX3_textFault_55 ⟨Nat.zero_le _, Nat.zero_le _⟩ (fun r55 h55 => ?_)
            rcases h55 with ⟨nX_55, h55_0, h55_1, rfl, rfl⟩ | ⟨h55_0, rfl⟩
            · refine lv_if_ne (tgt := 64) hx hb dX3_textFault_58 (by decide) (fun _ => ?_) (fun q => absurd q (by decide))
              refine lv_aload_n hx hb dX3_textFault_64 rfl (lv_at hl 0 rfl) ?_
              refine va_get (D := G.1) (ci := 3) (v := .ref b1) (C := RX3) (T := TX3) (N := 14) hx hb hts mic_textFault_3 hown hK hP 0 rfl rfl 0 (by decide) (hts _ mwc_textFault_1) (fun _ h9 => h9) rfl dX3_textFault_65 ?_
              refine lv_iload_n hx hb dX3_textFault_68 rfl (lv_at hl 1 rfl) ?_
              refine zc_S (As := [.int (nI eX_1)]) (rest := [.ref b1]) ⟨hx, hb, hml, hown, hts⟩ (c_manyAt l eX_1 ) (va_cwS 1 hts gX3_textFault_X3_manyAt rfl rfl rfl (by decide +kernel) ⟨Nat.le_of_ble_eq_true rfl, Nat.le_of_ble_eq_true rfl⟩) rfl hl.1 rfl (Nat.le_of_ble_eq_true rfl) dX3_textFault_69 ⟨Nat.zero_le _, Nat.zero_le _⟩ (fun r69 h69 => ?_)
              subst h69
              have hz := hM.2.1 eX_1 h1_0
              refine zk_ald (f := sg) (k := 10 + 76 * eX_1) hx hb hK hP 1 0 rfl rfl (Nat.le_of_ble_eq_true rfl) (by omega) dX3_textFault_72 ?_
              refine lv_iconst (v := nI 5) hx hb dX3_textFault_73 (by decide) ?_
              refine zk_ine (tgt := 82) hx hb dX3_textFault_74 (by decide) (by omega) (by omega) (fun c74 => ?_) (fun c74 => ?_)
              · refine lv_iconst (v := nI 0) hx hb dX3_textFault_82 (by decide) ?_
                exact W.iret (v := nI 0) hx hb hr (fun tT ht hW => ⟨_, rfl, Or.inr (Or.inr (Or.inr ⟨eX_1, nX_14, nX_34, nX_44, nX_55, h1_0, rfl, h14_0, h14_1, h34_0, by omega, by omega, h44_1, h55_0, h55_1, rfl, rfl, rfl, rfl, by omega, rfl⟩)), ht⟩) (fun _ h => absurd h List.not_mem_nil) dX3_textFault_83
              · refine lv_bipush (v := (-3)) hx hb dX3_textFault_77 (by decide) ?_
                refine lv_goto (tgt := 83) hx hb dX3_textFault_79 (by decide) ?_
                exact W.iret (v := (-3)) hx hb hr (fun tT ht hW => ⟨_, rfl, Or.inr (Or.inr (Or.inl ⟨eX_1, nX_14, nX_34, nX_44, nX_55, h1_0, rfl, h14_0, h14_1, h34_0, by omega, by omega, h44_1, h55_0, h55_1, rfl, rfl, rfl, rfl, c74, rfl⟩)), ht⟩) (fun _ h => absurd h List.not_mem_nil) dX3_textFault_83
            · refine lv_if_ne (tgt := 64) hx hb dX3_textFault_58 (by decide) (fun q => absurd (by decide) q) (fun _ => ?_)
              refine lv_bipush (v := (-2)) hx hb dX3_textFault_61 (by decide) ?_
              exact W.iret (v := (-2)) hx hb hr (fun tT ht hW => ⟨_, rfl, Or.inr (Or.inl ⟨eX_1, h1_0, rfl, pTx_f h55_0, rfl⟩), ht⟩) (fun _ h => absurd h List.not_mem_nil) dX3_textFault_63
          · refine lv_if_eq (tgt := 61) hx hb dX3_textFault_47 (by decide) (fun _ => ?_) (fun q => absurd (by decide) q)
            refine lv_bipush (v := (-2)) hx hb dX3_textFault_61 (by decide) ?_
            exact W.iret (v := (-2)) hx hb hr (fun tT ht hW => ⟨_, rfl, Or.inr (Or.inl ⟨eX_1, h1_0, rfl, pTx_z (by omega) h44_0, rfl⟩), ht⟩) (fun _ h => absurd h List.not_mem_nil) dX3_textFault_63
        · refine lv_if_eq (tgt := 61) hx hb dX3_textFault_37 (by decide) (fun _ => ?_) (fun q => absurd (by decide) q)
          refine lv_bipush (v := (-2)) hx hb dX3_textFault_61 (by decide) ?_
          exact W.iret (v := (-2)) hx hb hr (fun tT ht hW => ⟨_, rfl, Or.inr (Or.inl ⟨eX_1, h1_0, rfl, pTx_s (by omega) (by rw [if_neg (by omega)]) h34_0, rfl⟩), ht⟩) (fun _ h => absurd h List.not_mem_nil) dX3_textFault_63
      · refine lv_iload_n hx hb dX3_textFault_28 rfl (lv_at hl 2 rfl) ?_
        refine lv_goto (tgt := 34) hx hb dX3_textFault_29 (by decide) ?_
        refine zc_S (As := [.int as, .int (nI 1), .int (nI nX_14)]) (rest := []) ⟨hx, hb, hml, hown, hts⟩ (c_in_c l as 1 nX_14 (by omega) (by omega)) (va_cwS 3 hts gX3_textFault_X3_in rfl rfl rfl (by decide +kernel) ⟨Nat.le_of_ble_eq_true rfl, Nat.le_of_ble_eq_true rfl⟩) rfl hl.1 rfl (Nat.le_of_ble_eq_true rfl) dX3_textFault_34 ⟨Nat.zero_le _, Nat.zero_le _⟩ (fun r34 h34 => ?_)
        rcases h34 with ⟨nX_34, h34_0, h34_1, rfl, rfl⟩ | ⟨h34_0, rfl⟩
        · refine lv_if_eq (tgt := 61) hx hb dX3_textFault_37 (by decide) (fun q => absurd q (by decide)) (fun _ => ?_)
          refine lv_iload hx hb dX3_textFault_40 (lv_at hl 4 rfl) ?_
          refine lv_iconst (v := nI 0) hx hb dX3_textFault_42 (by decide) ?_
          refine lv_iload_n hx hb dX3_textFault_43 rfl (lv_at hl 2 rfl) ?_
          refine zc_S (As := [.int az, .int (nI 0), .int (nI nX_14)]) (rest := []) ⟨hx, hb, hml, hown, hts⟩ (c_in_c l az 0 nX_14 (by omega) (by omega)) (va_cwS 3 hts gX3_textFault_X3_in rfl rfl rfl (by decide +kernel) ⟨Nat.le_of_ble_eq_true rfl, Nat.le_of_ble_eq_true rfl⟩) rfl hl.1 rfl (Nat.le_of_ble_eq_true rfl) dX3_textFault_44 ⟨Nat.zero_le _, Nat.zero_le _⟩ (fun r44 h44 => ?_)
          rcases h44 with ⟨nX_44, h44_0, h44_1, rfl, rfl⟩ | ⟨h44_0, rfl⟩
          · refine lv_if_eq (tgt := 61) hx hb dX3_textFault_47 (by decide) (fun q => absurd q (by decide)) (fun _ => ?_)
            refine lv_iload hx hb dX3_textFault_50 (lv_at hl 5 rfl) ?_
            refine lv_iconst (v := nI 1) hx hb dX3_textFault_52 (by decide) ?_
            refine lv_ldc (v := (65535 : Int32)) hx hb hown (hts _ mwc_textFault_0) dX3_textFault_53 ?_
            refine zk_top (y := nI 65535) rfl ?_
            refine zc_S (As := [.int af, .int (nI 1), .int (nI 65535)]) (rest := []) ⟨hx, hb, hml, hown, hts⟩ (c_in_c l af 1 65535 (by omega) (by omega)) (va_cwS 3 hts gX3_textFault_X3_in rfl rfl rfl (by decide +kernel) ⟨Nat.le_of_ble_eq_true rfl, Nat.le_of_ble_eq_true rfl⟩) rfl hl.1 rfl (Nat.le_of_ble_eq_true rfl) dX3_textFault_55 ⟨Nat.zero_le _, Nat.zero_le _⟩ (fun r55 h55 => ?_)
            rcases h55 with ⟨nX_55, h55_0, h55_1, rfl, rfl⟩ | ⟨h55_0, rfl⟩
            · refine lv_if_ne (tgt := 64) hx hb dX3_textFault_58 (by decide) (fun _ => ?_) (fun q => absurd q (by decide))
              refine lv_aload_n hx hb dX3_textFault_64 rfl (lv_at hl 0 rfl) ?_
              refine va_get (D := G.1) (ci := 3) (v := .ref b1) (C := RX3) (T := TX3) (N := 14) hx hb hts mic_textFault_3 hown hK hP 0 rfl rfl 0 (by decide) (hts _ mwc_textFault_1) (fun _ h9 => h9) rfl dX3_textFault_65 ?_
              refine lv_iload_n hx hb dX3_textFault_68 rfl (lv_at hl 1 rfl) ?_
              refine zc_S (As := [.int (nI eX_1)]) (rest := [.ref b1]) ⟨hx, hb, hml, hown, hts⟩ (c_manyAt l eX_1 ) (va_cwS 1 hts gX3_textFault_X3_manyAt rfl rfl rfl (by decide +kernel) ⟨Nat.le_of_ble_eq_true rfl, Nat.le_of_ble_eq_true rfl⟩) rfl hl.1 rfl (Nat.le_of_ble_eq_true rfl) dX3_textFault_69 ⟨Nat.zero_le _, Nat.zero_le _⟩ (fun r69 h69 => ?_)
              subst h69
              have hz := hM.2.1 eX_1 h1_0
              refine zk_ald (f := sg) (k := 10 + 76 * eX_1) hx hb hK hP 1 0 rfl rfl (Nat.le_of_ble_eq_true rfl) (by omega) dX3_textFault_72 ?_
              refine lv_iconst (v := nI 5) hx hb dX3_textFault_73 (by decide) ?_
              refine zk_ine (tgt := 82) hx hb dX3_textFault_74 (by decide) (by omega) (by omega) (fun c74 => ?_) (fun c74 => ?_)
              · refine lv_iconst (v := nI 0) hx hb dX3_textFault_82 (by decide) ?_
                exact W.iret (v := nI 0) hx hb hr (fun tT ht hW => ⟨_, rfl, Or.inr (Or.inr (Or.inr ⟨eX_1, nX_14, nX_34, nX_44, nX_55, h1_0, rfl, h14_0, h14_1, h34_0, by omega, by omega, h44_1, h55_0, h55_1, rfl, rfl, rfl, rfl, by omega, rfl⟩)), ht⟩) (fun _ h => absurd h List.not_mem_nil) dX3_textFault_83
              · refine lv_bipush (v := (-3)) hx hb dX3_textFault_77 (by decide) ?_
                refine lv_goto (tgt := 83) hx hb dX3_textFault_79 (by decide) ?_
                exact W.iret (v := (-3)) hx hb hr (fun tT ht hW => ⟨_, rfl, Or.inr (Or.inr (Or.inl ⟨eX_1, nX_14, nX_34, nX_44, nX_55, h1_0, rfl, h14_0, h14_1, h34_0, by omega, by omega, h44_1, h55_0, h55_1, rfl, rfl, rfl, rfl, c74, rfl⟩)), ht⟩) (fun _ h => absurd h List.not_mem_nil) dX3_textFault_83
            · refine lv_if_ne (tgt := 64) hx hb dX3_textFault_58 (by decide) (fun q => absurd (by decide) q) (fun _ => ?_)
              refine lv_bipush (v := (-2)) hx hb dX3_textFault_61 (by decide) ?_
              exact W.iret (v := (-2)) hx hb hr (fun tT ht hW => ⟨_, rfl, Or.inr (Or.inl ⟨eX_1, h1_0, rfl, pTx_f h55_0, rfl⟩), ht⟩) (fun _ h => absurd h List.not_mem_nil) dX3_textFault_63
          · refine lv_if_eq (tgt := 61) hx hb dX3_textFault_47 (by decide) (fun _ => ?_) (fun q => absurd (by decide) q)
            refine lv_bipush (v := (-2)) hx hb dX3_textFault_61 (by decide) ?_
            exact W.iret (v := (-2)) hx hb hr (fun tT ht hW => ⟨_, rfl, Or.inr (Or.inl ⟨eX_1, h1_0, rfl, pTx_z (by omega) h44_0, rfl⟩), ht⟩) (fun _ h => absurd h List.not_mem_nil) dX3_textFault_63
        · refine lv_if_eq (tgt := 61) hx hb dX3_textFault_37 (by decide) (fun _ => ?_) (fun q => absurd (by decide) q)
          refine lv_bipush (v := (-2)) hx hb dX3_textFault_61 (by decide) ?_
          exact W.iret (v := (-2)) hx hb hr (fun tT ht hW => ⟨_, rfl, Or.inr (Or.inl ⟨eX_1, h1_0, rfl, pTx_s (by omega) (by rw [if_pos (by omega)]) h34_0, rfl⟩), ht⟩) (fun _ h => absurd h List.not_mem_nil) dX3_textFault_63
    · refine lv_if_eq (tgt := 61) hx hb dX3_textFault_17 (by decide) (fun _ => ?_) (fun q => absurd (by decide) q)
      refine lv_bipush (v := (-2)) hx hb dX3_textFault_61 (by decide) ?_
      exact W.iret (v := (-2)) hx hb hr (fun tT ht hW => ⟨_, rfl, Or.inr (Or.inl ⟨eX_1, h1_0, rfl, pTx_w h14_0, rfl⟩), ht⟩) (fun _ h => absurd h List.not_mem_nil) dX3_textFault_63
  · refine lv_if_ne (tgt := 9) hx hb dX3_textFault_4 (by decide) (fun q => absurd (by decide) q) (fun _ => ?_)
    refine lv_iconst (v := (-1)) hx hb dX3_textFault_7 (by decide) ?_
    exact W.iret (v := (-1)) hx hb hr (fun tT ht hW => ⟨_, rfl, Or.inl ⟨h1_0, rfl⟩, ht⟩) (fun _ h => absurd h List.not_mem_nil) dX3_textFault_8
set_option maxRecDepth 100000 in
theorem mwc_addsText_0 : Cond.fieldLink RX3 7 "ExhibitTextsModel" "s" "[I" ∈ wsX3_addsText := by decide +kernel
set_option maxRecDepth 100000 in
theorem mic_addsText_3 : ∀ w ∈ u_ws RX3 TX3 14, w ∈ wsX3_addsText := by decide +kernel
set_option maxHeartbeats 4000000 in
set_option maxRecDepth 100000 in
/-- X3_addsText: a text is added -/
theorem c_addsText (l : Launch) (G : zG) (b0 : Nat) (b1 : Nat) (b2 : Nat) (b3 : Nat) (b4 : Nat) (b5 : Nat) (b6 : Nat) (kn : Nat) (ik : Nat) (ty : Nat) (ra : Int32) (rb : Int32) (rd : Nat) (iw : Nat) (fl : Int32) (sg : Nat → Nat) (e : Nat) (w : Nat) (s : Nat) (z : Nat) (f : Nat) (he : e < 8) (hn : sg (10 + 76 * e) < 5) : Met l yX3_addsText wsX3_addsText ({ frames := 2, cells := 0, slots := 0, locals := 42 } : Room) (zPc G [.ref b0, .int (nI e), .int (nI w), .int (nI s), .int (nI z), .int (nI f)] [(b0, .inr (3, [.ref b1, .ref b2, .ref b3, .int (nI kn), .ref b4, .int (nI ik), .ref b5, .int (nI ty), .int ra, .int rb, .int (nI rd), .int (nI iw), .ref b6, .int fl])), (b1, .inl (G.2.1, 618, .inl (arN sg)))]) (va_Qi (fun (rR : Int32) (uU : (Nat → Nat)) => rR = nI (sg (10 + 76 * e)) ∧ uU = addT sg e w s z f) (fun uU tT => va_P G.1 vwCl ((fun (uU : (Nat → Nat)) => ([(b0, .inr (3, [.ref b1, .ref b2, .ref b3, .int (nI kn), .ref b4, .int (nI ik), .ref b5, .int (nI ty), .int ra, .int rb, .int (nI rd), .int (nI iw), .ref b6, .int fl])), (b1, .inl (G.2.1, 618, .inl (arN uU)))] : va_W)) uU) tT.heap) (zIn [(b0, .inr (3, [.ref b1, .ref b2, .ref b3, .int (nI kn), .ref b4, .int (nI ik), .ref b5, .int (nI ty), .int ra, .int rb, .int (nI rd), .int (nI iw), .ref b6, .int fl])), (b1, .inl (G.2.1, 618, .inl (arN sg)))])) 0 0 (zIn [(b0, .inr (3, [.ref b1, .ref b2, .ref b3, .int (nI kn), .ref b4, .int (nI ik), .ref b5, .int (nI ty), .int ra, .int rb, .int (nI rd), .int (nI iw), .ref b6, .int fl])), (b1, .inl (G.2.1, 618, .inl (arN sg)))]) := by
  refine zM (cc := cX3_addsText) (maxL := 8) (ret := (some .int)) (by decide) rfl (Nat.le_of_ble_eq_true rfl) ?_
  intro pP eE sS mM below meth cC hx hb hr hts hown hlk hml hnm hK hN hP hD hS ls hl
  have hl : lv_has ls 8 [(0, .ref b0), (1, .int (nI e)), (2, .int (nI w)), (3, .int (nI s)), (4, .int (nI z)), (5, .int (nI f))] := hl
  refine lv_aload_n hx hb dX3_addsText_0 rfl (lv_at hl 0 rfl) ?_
  refine va_get (D := G.1) (ci := 3) (v := .ref b1) (C := RX3) (T := TX3) (N := 14) hx hb hts mic_addsText_3 hown hK hP 0 rfl rfl 0 (by decide) (hts _ mwc_addsText_0) (fun _ h9 => h9) rfl dX3_addsText_1 ?_
  refine lv_iload_n hx hb dX3_addsText_4 rfl (lv_at hl 1 rfl) ?_
  refine zc_S (As := [.int (nI e)]) (rest := [.ref b1]) ⟨hx, hb, hml, hown, hts⟩ (c_manyAt l e ) (va_cwS 1 hts gX3_addsText_X3_manyAt rfl rfl rfl (by decide +kernel) ⟨Nat.le_of_ble_eq_true rfl, Nat.le_of_ble_eq_true rfl⟩) rfl hl.1 rfl (Nat.le_of_ble_eq_true rfl) dX3_addsText_5 ⟨Nat.zero_le _, Nat.zero_le _⟩ (fun r5 h5 => ?_)
  subst h5
  refine zk_ald (f := sg) (k := 10 + 76 * e) hx hb hK hP 1 0 rfl rfl (Nat.le_of_ble_eq_true rfl) (by omega) dX3_addsText_8 ?_
  refine lv_istore (lv' := [(6, .int (nI (sg (10 + 76 * e)))), (0, .ref b0), (1, .int (nI e)), (2, .int (nI w)), (3, .int (nI s)), (4, .int (nI z)), (5, .int (nI f))]) hx hb dX3_addsText_9 hl (by decide) rfl (fun ls hl => ?_)
  refine lv_iconst (v := nI 0) hx hb dX3_addsText_11 (by decide) ?_
  refine lv_istore (lv' := [(7, .int (nI 0)), (6, .int (nI (sg (10 + 76 * e)))), (0, .ref b0), (1, .int (nI e)), (2, .int (nI w)), (3, .int (nI s)), (4, .int (nI z)), (5, .int (nI f))]) hx hb dX3_addsText_12 hl (by decide) rfl (fun ls hl => ?_)
  have lp14 : ∀ (fu14 : Nat), ∀ (kX : Nat) (H : Heap) (locs : List Loc) (ls : Array Slot), (15 - kX) < fu14 → (kX ≤ 15) → va_P G.1 vwCl [(b0, .inr (3, [.ref b1, .ref b2, .ref b3, .int (nI kn), .ref b4, .int (nI ik), .ref b5, .int (nI ty), .int ra, .int rb, .int (nI rd), .int (nI iw), .ref b6, .int fl])), (b1, .inl (G.2.1, 618, .inl (arN (zrF sg (11 + 76 * e + 15 * sg (10 + 76 * e)) kX))))] H → va_D (zIn [(b0, .inr (3, [.ref b1, .ref b2, .ref b3, .int (nI kn), .ref b4, .int (nI ik), .ref b5, .int (nI ty), .int ra, .int rb, .int (nI rd), .int (nI iw), .ref b6, .int fl])), (b1, .inl (G.2.1, 618, .inl (arN sg)))]) [(b0, .inr (3, [.ref b1, .ref b2, .ref b3, .int (nI kn), .ref b4, .int (nI ik), .ref b5, .int (nI ty), .int ra, .int rb, .int (nI rd), .int (nI iw), .ref b6, .int fl])), (b1, .inl (G.2.1, 618, .inl (arN (zrF sg (11 + 76 * e + 15 * sg (10 + 76 * e)) kX))))] → va_S (zIn [(b0, .inr (3, [.ref b1, .ref b2, .ref b3, .int (nI kn), .ref b4, .int (nI ik), .ref b5, .int (nI ty), .int ra, .int rb, .int (nI rd), .int (nI iw), .ref b6, .int fl])), (b1, .inl (G.2.1, 618, .inl (arN sg)))]) sS.heap H locs → lv_has ls 8 [(0, .ref b0), (1, .int (nI e)), (2, .int (nI w)), (3, .int (nI s)), (4, .int (nI z)), (5, .int (nI f)), (6, .int (nI (sg (10 + 76 * e)))), (7, .int (nI kX))] → W pP l eE (headSpec wsX3_addsText ({ frames := 2, cells := 0, slots := 0, locals := 42 } : Room)).room sS mM ([.ref b0, .int (nI e), .int (nI w), .int (nI s), .int (nI z), .int (nI f)] : List Value).toArray below meth cC H locs 0 0 (MQ below (va_Qi (fun (rR : Int32) (uU : (Nat → Nat)) => rR = nI (sg (10 + 76 * e)) ∧ uU = addT sg e w s z f) (fun uU tT => va_P G.1 vwCl ((fun (uU : (Nat → Nat)) => ([(b0, .inr (3, [.ref b1, .ref b2, .ref b3, .int (nI kn), .ref b4, .int (nI ik), .ref b5, .int (nI ty), .int ra, .int rb, .int (nI rd), .int (nI iw), .ref b6, .int fl])), (b1, .inl (G.2.1, 618, .inl (arN uU)))] : va_W)) uU) tT.heap) (zIn [(b0, .inr (3, [.ref b1, .ref b2, .ref b3, .int (nI kn), .ref b4, .int (nI ik), .ref b5, .int (nI ty), .int ra, .int rb, .int (nI rd), .int (nI iw), .ref b6, .int fl])), (b1, .inl (G.2.1, 618, .inl (arN sg)))])) ([.ref b0, .int (nI e), .int (nI w), .int (nI s), .int (nI z), .int (nI f)] : List Value).toArray sS 0 0 (zIn [(b0, .inr (3, [.ref b1, .ref b2, .ref b3, .int (nI kn), .ref b4, .int (nI ik), .ref b5, .int (nI ty), .int ra, .int rb, .int (nI rd), .int (nI iw), .ref b6, .int fl])), (b1, .inl (G.2.1, 618, .inl (arN sg)))])) (F0 mM 14 ls []) := by
    intro fu14
    induction fu14 with
    | zero => intro kX H locs ls hfu14; exact absurd hfu14 (Nat.not_lt_zero _)
    | succ fu14 ih14 =>
      intro kX H locs ls hfu14 hk hP hD hS hl
      refine lv_iload hx hb dX3_addsText_14 (lv_at hl 7 rfl) ?_
      refine lv_bipush (v := nI 15) hx hb dX3_addsText_16 (by decide) ?_
      refine zk_ige (tgt := 41) hx hb dX3_addsText_18 (by decide) (by omega) (by omega) (fun c18 => ?_) (fun c18 => ?_)
      · have hk9 : kX = 15 := by omega
        subst hk9
        refine lv_aload_n hx hb dX3_addsText_41 rfl (lv_at hl 0 rfl) ?_
        refine va_get (D := G.1) (ci := 3) (v := .ref b1) (C := RX3) (T := TX3) (N := 14) hx hb hts mic_addsText_3 hown hK hP 0 rfl rfl 0 (by decide) (hts _ mwc_addsText_0) (fun _ h9 => h9) rfl dX3_addsText_42 ?_
        refine lv_iload_n hx hb dX3_addsText_45 rfl (lv_at hl 1 rfl) ?_
        refine lv_iload hx hb dX3_addsText_46 (lv_at hl 6 rfl) ?_
        refine lv_iconst (v := nI 0) hx hb dX3_addsText_48 (by decide) ?_
        refine zc_S (As := [.int (nI e), .int (nI (sg (10 + 76 * e))), .int (nI 0)]) (rest := [.ref b1]) ⟨hx, hb, hml, hown, hts⟩ (c_of l e (sg (10 + 76 * e)) 0 ) (va_cwS 3 hts gX3_addsText_X3_of rfl rfl rfl (by decide +kernel) ⟨Nat.le_of_ble_eq_true rfl, Nat.le_of_ble_eq_true rfl⟩) rfl hl.1 rfl (Nat.le_of_ble_eq_true rfl) dX3_addsText_49 ⟨Nat.zero_le _, Nat.zero_le _⟩ (fun r49 h49 => ?_)
        subst h49
        refine lv_iload_n hx hb dX3_addsText_52 rfl (lv_at hl 2 rfl) ?_
        refine zk_ast (f := zrF sg (11 + 76 * e + 15 * sg (10 + 76 * e)) 15) (k := 11 + 76 * e + 15 * (sg (10 + 76 * e)) + 0) (v := w) (ws2 := [(b0, .inr (3, [.ref b1, .ref b2, .ref b3, .int (nI kn), .ref b4, .int (nI ik), .ref b5, .int (nI ty), .int ra, .int rb, .int (nI rd), .int (nI iw), .ref b6, .int fl])), (b1, .inl (G.2.1, 618, .inl (arN (arU (zrF sg (11 + 76 * e + 15 * sg (10 + 76 * e)) 15) (11 + 76 * e + 15 * (sg (10 + 76 * e)) + 0) w))))]) hx hb hK hP hD hS 1 0 rfl rfl (Nat.le_of_ble_eq_true rfl) (by omega) rfl dX3_addsText_53 (fun H locs hP hD hS => ?_)
        refine lv_aload_n hx hb dX3_addsText_54 rfl (lv_at hl 0 rfl) ?_
        refine va_get (D := G.1) (ci := 3) (v := .ref b1) (C := RX3) (T := TX3) (N := 14) hx hb hts mic_addsText_3 hown hK hP 0 rfl rfl 0 (by decide) (hts _ mwc_addsText_0) (fun _ h9 => h9) rfl dX3_addsText_55 ?_
        refine lv_iload_n hx hb dX3_addsText_58 rfl (lv_at hl 1 rfl) ?_
        refine lv_iload hx hb dX3_addsText_59 (lv_at hl 6 rfl) ?_
        refine lv_iconst (v := nI 1) hx hb dX3_addsText_61 (by decide) ?_
        refine zc_S (As := [.int (nI e), .int (nI (sg (10 + 76 * e))), .int (nI 1)]) (rest := [.ref b1]) ⟨hx, hb, hml, hown, hts⟩ (c_of l e (sg (10 + 76 * e)) 1 ) (va_cwS 3 hts gX3_addsText_X3_of rfl rfl rfl (by decide +kernel) ⟨Nat.le_of_ble_eq_true rfl, Nat.le_of_ble_eq_true rfl⟩) rfl hl.1 rfl (Nat.le_of_ble_eq_true rfl) dX3_addsText_62 ⟨Nat.zero_le _, Nat.zero_le _⟩ (fun r62 h62 => ?_)
        subst h62
        refine lv_iload_n hx hb dX3_addsText_65 rfl (lv_at hl 3 rfl) ?_
        refine zk_ast (f := arU (zrF sg (11 + 76 * e + 15 * sg (10 + 76 * e)) 15) (11 + 76 * e + 15 * (sg (10 + 76 * e)) + 0) w) (k := 11 + 76 * e + 15 * (sg (10 + 76 * e)) + 1) (v := s) (ws2 := [(b0, .inr (3, [.ref b1, .ref b2, .ref b3, .int (nI kn), .ref b4, .int (nI ik), .ref b5, .int (nI ty), .int ra, .int rb, .int (nI rd), .int (nI iw), .ref b6, .int fl])), (b1, .inl (G.2.1, 618, .inl (arN (arU (arU (zrF sg (11 + 76 * e + 15 * sg (10 + 76 * e)) 15) (11 + 76 * e + 15 * (sg (10 + 76 * e)) + 0) w) (11 + 76 * e + 15 * (sg (10 + 76 * e)) + 1) s))))]) hx hb hK hP hD hS 1 0 rfl rfl (Nat.le_of_ble_eq_true rfl) (by omega) rfl dX3_addsText_66 (fun H locs hP hD hS => ?_)
        refine lv_aload_n hx hb dX3_addsText_67 rfl (lv_at hl 0 rfl) ?_
        refine va_get (D := G.1) (ci := 3) (v := .ref b1) (C := RX3) (T := TX3) (N := 14) hx hb hts mic_addsText_3 hown hK hP 0 rfl rfl 0 (by decide) (hts _ mwc_addsText_0) (fun _ h9 => h9) rfl dX3_addsText_68 ?_
        refine lv_iload_n hx hb dX3_addsText_71 rfl (lv_at hl 1 rfl) ?_
        refine lv_iload hx hb dX3_addsText_72 (lv_at hl 6 rfl) ?_
        refine lv_iconst (v := nI 2) hx hb dX3_addsText_74 (by decide) ?_
        refine zc_S (As := [.int (nI e), .int (nI (sg (10 + 76 * e))), .int (nI 2)]) (rest := [.ref b1]) ⟨hx, hb, hml, hown, hts⟩ (c_of l e (sg (10 + 76 * e)) 2 ) (va_cwS 3 hts gX3_addsText_X3_of rfl rfl rfl (by decide +kernel) ⟨Nat.le_of_ble_eq_true rfl, Nat.le_of_ble_eq_true rfl⟩) rfl hl.1 rfl (Nat.le_of_ble_eq_true rfl) dX3_addsText_75 ⟨Nat.zero_le _, Nat.zero_le _⟩ (fun r75 h75 => ?_)
        subst h75
        refine lv_iload hx hb dX3_addsText_78 (lv_at hl 4 rfl) ?_
        refine zk_ast (f := arU (arU (zrF sg (11 + 76 * e + 15 * sg (10 + 76 * e)) 15) (11 + 76 * e + 15 * (sg (10 + 76 * e)) + 0) w) (11 + 76 * e + 15 * (sg (10 + 76 * e)) + 1) s) (k := 11 + 76 * e + 15 * (sg (10 + 76 * e)) + 2) (v := z) (ws2 := [(b0, .inr (3, [.ref b1, .ref b2, .ref b3, .int (nI kn), .ref b4, .int (nI ik), .ref b5, .int (nI ty), .int ra, .int rb, .int (nI rd), .int (nI iw), .ref b6, .int fl])), (b1, .inl (G.2.1, 618, .inl (arN (arU (arU (arU (zrF sg (11 + 76 * e + 15 * sg (10 + 76 * e)) 15) (11 + 76 * e + 15 * (sg (10 + 76 * e)) + 0) w) (11 + 76 * e + 15 * (sg (10 + 76 * e)) + 1) s) (11 + 76 * e + 15 * (sg (10 + 76 * e)) + 2) z))))]) hx hb hK hP hD hS 1 0 rfl rfl (Nat.le_of_ble_eq_true rfl) (by omega) rfl dX3_addsText_80 (fun H locs hP hD hS => ?_)
        refine lv_aload_n hx hb dX3_addsText_81 rfl (lv_at hl 0 rfl) ?_
        refine va_get (D := G.1) (ci := 3) (v := .ref b1) (C := RX3) (T := TX3) (N := 14) hx hb hts mic_addsText_3 hown hK hP 0 rfl rfl 0 (by decide) (hts _ mwc_addsText_0) (fun _ h9 => h9) rfl dX3_addsText_82 ?_
        refine lv_iload_n hx hb dX3_addsText_85 rfl (lv_at hl 1 rfl) ?_
        refine lv_iload hx hb dX3_addsText_86 (lv_at hl 6 rfl) ?_
        refine lv_iconst (v := nI 3) hx hb dX3_addsText_88 (by decide) ?_
        refine zc_S (As := [.int (nI e), .int (nI (sg (10 + 76 * e))), .int (nI 3)]) (rest := [.ref b1]) ⟨hx, hb, hml, hown, hts⟩ (c_of l e (sg (10 + 76 * e)) 3 ) (va_cwS 3 hts gX3_addsText_X3_of rfl rfl rfl (by decide +kernel) ⟨Nat.le_of_ble_eq_true rfl, Nat.le_of_ble_eq_true rfl⟩) rfl hl.1 rfl (Nat.le_of_ble_eq_true rfl) dX3_addsText_89 ⟨Nat.zero_le _, Nat.zero_le _⟩ (fun r89 h89 => ?_)
        subst h89
        refine lv_iload hx hb dX3_addsText_92 (lv_at hl 5 rfl) ?_
        refine zk_ast (f := arU (arU (arU (zrF sg (11 + 76 * e + 15 * sg (10 + 76 * e)) 15) (11 + 76 * e + 15 * (sg (10 + 76 * e)) + 0) w) (11 + 76 * e + 15 * (sg (10 + 76 * e)) + 1) s) (11 + 76 * e + 15 * (sg (10 + 76 * e)) + 2) z) (k := 11 + 76 * e + 15 * (sg (10 + 76 * e)) + 3) (v := f) (ws2 := [(b0, .inr (3, [.ref b1, .ref b2, .ref b3, .int (nI kn), .ref b4, .int (nI ik), .ref b5, .int (nI ty), .int ra, .int rb, .int (nI rd), .int (nI iw), .ref b6, .int fl])), (b1, .inl (G.2.1, 618, .inl (arN (arU (arU (arU (arU (zrF sg (11 + 76 * e + 15 * sg (10 + 76 * e)) 15) (11 + 76 * e + 15 * (sg (10 + 76 * e)) + 0) w) (11 + 76 * e + 15 * (sg (10 + 76 * e)) + 1) s) (11 + 76 * e + 15 * (sg (10 + 76 * e)) + 2) z) (11 + 76 * e + 15 * (sg (10 + 76 * e)) + 3) f))))]) hx hb hK hP hD hS 1 0 rfl rfl (Nat.le_of_ble_eq_true rfl) (by omega) rfl dX3_addsText_94 (fun H locs hP hD hS => ?_)
        refine lv_aload_n hx hb dX3_addsText_95 rfl (lv_at hl 0 rfl) ?_
        refine va_get (D := G.1) (ci := 3) (v := .ref b1) (C := RX3) (T := TX3) (N := 14) hx hb hts mic_addsText_3 hown hK hP 0 rfl rfl 0 (by decide) (hts _ mwc_addsText_0) (fun _ h9 => h9) rfl dX3_addsText_96 ?_
        refine lv_iload_n hx hb dX3_addsText_99 rfl (lv_at hl 1 rfl) ?_
        refine zc_S (As := [.int (nI e)]) (rest := [.ref b1]) ⟨hx, hb, hml, hown, hts⟩ (c_manyAt l e ) (va_cwS 1 hts gX3_addsText_X3_manyAt rfl rfl rfl (by decide +kernel) ⟨Nat.le_of_ble_eq_true rfl, Nat.le_of_ble_eq_true rfl⟩) rfl hl.1 rfl (Nat.le_of_ble_eq_true rfl) dX3_addsText_100 ⟨Nat.zero_le _, Nat.zero_le _⟩ (fun r100 h100 => ?_)
        subst h100
        refine lv_dup2_11 hx hb dX3_addsText_103 rfl rfl ?_
        refine zk_ald (f := arU (arU (arU (arU (zrF sg (11 + 76 * e + 15 * sg (10 + 76 * e)) 15) (11 + 76 * e + 15 * (sg (10 + 76 * e)) + 0) w) (11 + 76 * e + 15 * (sg (10 + 76 * e)) + 1) s) (11 + 76 * e + 15 * (sg (10 + 76 * e)) + 2) z) (11 + 76 * e + 15 * (sg (10 + 76 * e)) + 3) f) (k := 10 + 76 * e) hx hb hK hP 1 0 rfl rfl (Nat.le_of_ble_eq_true rfl) (by omega) dX3_addsText_104 ?_
        refine zk_top (y := nI (sg (10 + 76 * e))) (congrArg nI ((arU_n (by omega)).trans ((arU_n (by omega)).trans ((arU_n (by omega)).trans ((arU_n (by omega)).trans (zrF_out (by omega))))))) ?_
        refine lv_iconst (v := nI 1) hx hb dX3_addsText_105 (by decide) ?_
        refine zk_add hx hb dX3_addsText_106 ?_
        refine zk_ast (f := arU (arU (arU (arU (zrF sg (11 + 76 * e + 15 * sg (10 + 76 * e)) 15) (11 + 76 * e + 15 * (sg (10 + 76 * e)) + 0) w) (11 + 76 * e + 15 * (sg (10 + 76 * e)) + 1) s) (11 + 76 * e + 15 * (sg (10 + 76 * e)) + 2) z) (11 + 76 * e + 15 * (sg (10 + 76 * e)) + 3) f) (k := 10 + 76 * e) (v := (sg (10 + 76 * e)) + 1) (ws2 := [(b0, .inr (3, [.ref b1, .ref b2, .ref b3, .int (nI kn), .ref b4, .int (nI ik), .ref b5, .int (nI ty), .int ra, .int rb, .int (nI rd), .int (nI iw), .ref b6, .int fl])), (b1, .inl (G.2.1, 618, .inl (arN (arU (arU (arU (arU (arU (zrF sg (11 + 76 * e + 15 * sg (10 + 76 * e)) 15) (11 + 76 * e + 15 * (sg (10 + 76 * e)) + 0) w) (11 + 76 * e + 15 * (sg (10 + 76 * e)) + 1) s) (11 + 76 * e + 15 * (sg (10 + 76 * e)) + 2) z) (11 + 76 * e + 15 * (sg (10 + 76 * e)) + 3) f) (10 + 76 * e) ((sg (10 + 76 * e)) + 1)))))]) hx hb hK hP hD hS 1 0 rfl rfl (Nat.le_of_ble_eq_true rfl) (by omega) rfl dX3_addsText_107 (fun H locs hP hD hS => ?_)
        refine lv_iload hx hb dX3_addsText_108 (lv_at hl 6 rfl) ?_
        exact W.iret (v := nI (sg (10 + 76 * e))) hx hb hr (fun tT ht hW => ⟨⟨_, arU (arU (arU (arU (arU (zrF sg (11 + 76 * e + 15 * sg (10 + 76 * e)) 15) (11 + 76 * e + 15 * (sg (10 + 76 * e)) + 0) w) (11 + 76 * e + 15 * (sg (10 + 76 * e)) + 1) s) (11 + 76 * e + 15 * (sg (10 + 76 * e)) + 2) z) (11 + 76 * e + 15 * (sg (10 + 76 * e)) + 3) f) (10 + 76 * e) ((sg (10 + 76 * e)) + 1), rfl, ⟨rfl, rfl⟩, by show va_P G.1 vwCl _ tT.heap; rw [ht]; exact hP⟩, hS.F ht⟩) hS.2.2 dX3_addsText_110
      · refine lv_aload_n hx hb dX3_addsText_21 rfl (lv_at hl 0 rfl) ?_
        refine va_get (D := G.1) (ci := 3) (v := .ref b1) (C := RX3) (T := TX3) (N := 14) hx hb hts mic_addsText_3 hown hK hP 0 rfl rfl 0 (by decide) (hts _ mwc_addsText_0) (fun _ h9 => h9) rfl dX3_addsText_22 ?_
        refine lv_iload_n hx hb dX3_addsText_25 rfl (lv_at hl 1 rfl) ?_
        refine lv_iload hx hb dX3_addsText_26 (lv_at hl 6 rfl) ?_
        refine lv_iload hx hb dX3_addsText_28 (lv_at hl 7 rfl) ?_
        refine zc_S (As := [.int (nI e), .int (nI (sg (10 + 76 * e))), .int (nI kX)]) (rest := [.ref b1]) ⟨hx, hb, hml, hown, hts⟩ (c_of l e (sg (10 + 76 * e)) kX ) (va_cwS 3 hts gX3_addsText_X3_of rfl rfl rfl (by decide +kernel) ⟨Nat.le_of_ble_eq_true rfl, Nat.le_of_ble_eq_true rfl⟩) rfl hl.1 rfl (Nat.le_of_ble_eq_true rfl) dX3_addsText_30 ⟨Nat.zero_le _, Nat.zero_le _⟩ (fun r30 h30 => ?_)
        subst h30
        refine lv_iconst (v := nI 0) hx hb dX3_addsText_33 (by decide) ?_
        refine zk_ast (f := zrF sg (11 + 76 * e + 15 * sg (10 + 76 * e)) kX) (k := 11 + 76 * e + 15 * (sg (10 + 76 * e)) + kX) (v := 0) (ws2 := [(b0, .inr (3, [.ref b1, .ref b2, .ref b3, .int (nI kn), .ref b4, .int (nI ik), .ref b5, .int (nI ty), .int ra, .int rb, .int (nI rd), .int (nI iw), .ref b6, .int fl])), (b1, .inl (G.2.1, 618, .inl (arN (arU (zrF sg (11 + 76 * e + 15 * sg (10 + 76 * e)) kX) (11 + 76 * e + 15 * (sg (10 + 76 * e)) + kX) 0))))]) hx hb hK hP hD hS 1 0 rfl rfl (Nat.le_of_ble_eq_true rfl) (by omega) rfl dX3_addsText_34 (fun H locs hP hD hS => ?_)
        have en : arU (zrF sg (11 + 76 * e + 15 * sg (10 + 76 * e)) kX) (11 + 76 * e + 15 * (sg (10 + 76 * e)) + kX) 0 = zrF sg (11 + 76 * e + 15 * sg (10 + 76 * e)) (kX + 1) := zrF_s rfl
        rw [en] at hP hD
        refine zk_inc (a := kX) (d := 1) (lv' := [(7, .int (nI (kX + 1))), (0, .ref b0), (1, .int (nI e)), (2, .int (nI w)), (3, .int (nI s)), (4, .int (nI z)), (5, .int (nI f)), (6, .int (nI (sg (10 + 76 * e))))]) hx hb dX3_addsText_35 hl (K := 7) rfl (by decide) (by decide) rfl (fun ls hl => ?_)
        refine lv_goto (tgt := 14) hx hb dX3_addsText_38 (by decide) ?_
        exact ih14 (kX + 1) _ _ _ (by omega) (by omega) hP hD hS (lv_sub hl [1, 2, 3, 4, 5, 6, 7, 0] rfl)
  have eq0 : sg = zrF sg (11 + 76 * e + 15 * sg (10 + 76 * e)) 0 := zrF_0 _ _
  have hP : va_P G.1 vwCl [(b0, .inr (3, [.ref b1, .ref b2, .ref b3, .int (nI kn), .ref b4, .int (nI ik), .ref b5, .int (nI ty), .int ra, .int rb, .int (nI rd), .int (nI iw), .ref b6, .int fl])), (b1, .inl (G.2.1, 618, .inl (arN (zrF sg (11 + 76 * e + 15 * sg (10 + 76 * e)) 0))))] sS.heap := by rw [← eq0]; exact hP
  have hD : va_D (zIn [(b0, .inr (3, [.ref b1, .ref b2, .ref b3, .int (nI kn), .ref b4, .int (nI ik), .ref b5, .int (nI ty), .int ra, .int rb, .int (nI rd), .int (nI iw), .ref b6, .int fl])), (b1, .inl (G.2.1, 618, .inl (arN sg)))]) [(b0, .inr (3, [.ref b1, .ref b2, .ref b3, .int (nI kn), .ref b4, .int (nI ik), .ref b5, .int (nI ty), .int ra, .int rb, .int (nI rd), .int (nI iw), .ref b6, .int fl])), (b1, .inl (G.2.1, 618, .inl (arN (zrF sg (11 + 76 * e + 15 * sg (10 + 76 * e)) 0))))] := by rw [← eq0]; exact hD
  exact lp14 _ 0 _ _ _ (Nat.lt_succ_self _) (by omega) hP hD hS (lv_sub hl [2, 3, 4, 5, 6, 7, 1, 0] rfl)
set_option maxRecDepth 100000 in
theorem mwc_captionFault_0 : Cond.constant RX3 62 (65535) ∈ wsX3_captionFault := by decide +kernel
set_option maxRecDepth 100000 in
theorem mwc_captionFault_1 : Cond.fieldLink RX3 7 "ExhibitTextsModel" "s" "[I" ∈ wsX3_captionFault := by decide +kernel
set_option maxRecDepth 100000 in
theorem mic_captionFault_3 : ∀ w ∈ u_ws RX3 TX3 14, w ∈ wsX3_captionFault := by decide +kernel
set_option maxHeartbeats 4000000 in
set_option maxRecDepth 100000 in
/-- X3_captionFault: why a caption is refused -/
theorem c_captionFault (l : Launch) (G : zG) (b0 : Nat) (b1 : Nat) (b2 : Nat) (b3 : Nat) (b4 : Nat) (b5 : Nat) (b6 : Nat) (kn : Nat) (ik : Nat) (ty : Nat) (ra : Int32) (rb : Int32) (rd : Nat) (iw : Nat) (fl : Int32) (sg : Nat → Nat) (x : Int32) (y : Int32) (aw : Int32) (af : Int32) (hM : mOK sg) : Met l yX3_captionFault wsX3_captionFault ({ frames := 3, cells := 0, slots := 0, locals := 64 } : Room) (zPc G [.ref b0, .int x, .int y, .int aw, .int af] [(b0, .inr (3, [.ref b1, .ref b2, .ref b3, .int (nI kn), .ref b4, .int (nI ik), .ref b5, .int (nI ty), .int ra, .int rb, .int (nI rd), .int (nI iw), .ref b6, .int fl])), (b1, .inl (G.2.1, 618, .inl (arN sg)))]) (vp_Si (fun (rR : Int32) => (¬ pTn (fun e => sg (10 + 76 * e)) x y ∧ rR = (-1)) ∨ (∃ (eX : Nat) (tX : Nat), eX < 8 ∧ tX < sg (10 + 76 * eX) ∧ x = nI eX ∧ y = nI tX ∧ ¬ pCx aw af ∧ rR = (-2)) ∨ (∃ (eX : Nat) (tX : Nat) (wX : Nat) (fX : Nat), eX < 8 ∧ tX < sg (10 + 76 * eX) ∧ x = nI eX ∧ y = nI tX ∧ 1 ≤ wX ∧ wX ≤ 30 ∧ fX ≤ 65535 ∧ aw = nI wX ∧ af = nI fX ∧ ¬ andN fX (sg (11 + 76 * eX + 15 * tX + 3)) = 0 ∧ rR = (-4)) ∨ (∃ (eX : Nat) (tX : Nat) (wX : Nat) (fX : Nat), eX < 8 ∧ tX < sg (10 + 76 * eX) ∧ x = nI eX ∧ y = nI tX ∧ 1 ≤ wX ∧ wX ≤ 30 ∧ fX ≤ 65535 ∧ aw = nI wX ∧ af = nI fX ∧ andN fX (sg (11 + 76 * eX + 15 * tX + 3)) = 0 ∧ sg (11 + 76 * eX + 15 * tX + 5) = 3 ∧ rR = (-3)) ∨ (∃ (eX : Nat) (tX : Nat) (wX : Nat) (fX : Nat), eX < 8 ∧ tX < sg (10 + 76 * eX) ∧ x = nI eX ∧ y = nI tX ∧ 1 ≤ wX ∧ wX ≤ 30 ∧ fX ≤ 65535 ∧ aw = nI wX ∧ af = nI fX ∧ andN fX (sg (11 + 76 * eX + 15 * tX + 3)) = 0 ∧ sg (11 + 76 * eX + 15 * tX + 5) < 3 ∧ rR = nI 0))) 0 0 (fun _ => False) := by
  refine zR (cc := cX3_captionFault) (maxL := 5) (ret := (some .int)) (by decide) rfl (Nat.le_of_ble_eq_true rfl) ?_
  intro pP eE sS mM below meth cC hx hb hr hts hown hlk hml hK hN hP hD ls hl
  have hl : lv_has ls 5 [(0, .ref b0), (1, .int x), (2, .int y), (3, .int aw), (4, .int af)] := hl
  refine lv_aload_n hx hb dX3_captionFault_0 rfl (lv_at hl 0 rfl) ?_
  refine lv_iload_n hx hb dX3_captionFault_1 rfl (lv_at hl 1 rfl) ?_
  refine lv_iload_n hx hb dX3_captionFault_2 rfl (lv_at hl 2 rfl) ?_
  refine zc_R (As := [.int x, .int y]) (rest := []) ⟨hx, hb, hml, hown, hts⟩ (c_isText l G b0 b1 b2 b3 b4 b5 b6 kn ik ty ra rb rd iw fl sg x y (by omega)) (cwV 2 hts gX3_captionFault_X3_isText rfl rfl rfl (by decide +kernel) ⟨Nat.le_of_ble_eq_true rfl, Nat.le_of_ble_eq_true rfl⟩) hK hN hP hD [0, 1] rfl (by decide) (ci := 3) rfl rfl rfl hl.1 rfl (Nat.le_of_ble_eq_true rfl) dX3_captionFault_3 ⟨Nat.zero_le _, Nat.zero_le _⟩ (fun r3 h3 => ?_)
  rcases h3 with ⟨eX_3, tX_3, h3_0, h3_1, rfl, rfl, rfl⟩ | ⟨h3_0, rfl⟩
  · have hz := hM.2.1 eX_3 h3_0
    have hTX := hM.2.2 eX_3 tX_3 h3_0 h3_1
    have hc3 := hTX.2.2.2.2.1
    refine lv_if_ne (tgt := 11) hx hb dX3_captionFault_6 (by decide) (fun _ => ?_) (fun q => absurd q (by decide))
    refine lv_iload_n hx hb dX3_captionFault_11 rfl (lv_at hl 3 rfl) ?_
    refine lv_iconst (v := nI 1) hx hb dX3_captionFault_12 (by decide) ?_
    refine lv_bipush (v := nI 30) hx hb dX3_captionFault_13 (by decide) ?_
    refine zc_S (As := [.int aw, .int (nI 1), .int (nI 30)]) (rest := []) ⟨hx, hb, hml, hown, hts⟩ (c_in_c l aw 1 30 (by omega) (by omega)) (va_cwS 3 hts gX3_captionFault_X3_in rfl rfl rfl (by decide +kernel) ⟨Nat.le_of_ble_eq_true rfl, Nat.le_of_ble_eq_true rfl⟩) rfl hl.1 rfl (Nat.le_of_ble_eq_true rfl) dX3_captionFault_15 ⟨Nat.zero_le _, Nat.zero_le _⟩ (fun r15 h15 => ?_)
    rcases h15 with ⟨nX_15, h15_0, h15_1, rfl, rfl⟩ | ⟨h15_0, rfl⟩
    · refine lv_if_eq (tgt := 32) hx hb dX3_captionFault_18 (by decide) (fun q => absurd q (by decide)) (fun _ => ?_)
      refine lv_iload hx hb dX3_captionFault_21 (lv_at hl 4 rfl) ?_
      refine lv_iconst (v := nI 0) hx hb dX3_captionFault_23 (by decide) ?_
      refine lv_ldc (v := (65535 : Int32)) hx hb hown (hts _ mwc_captionFault_0) dX3_captionFault_24 ?_
      refine zk_top (y := nI 65535) rfl ?_
      refine zc_S (As := [.int af, .int (nI 0), .int (nI 65535)]) (rest := []) ⟨hx, hb, hml, hown, hts⟩ (c_in_c l af 0 65535 (by omega) (by omega)) (va_cwS 3 hts gX3_captionFault_X3_in rfl rfl rfl (by decide +kernel) ⟨Nat.le_of_ble_eq_true rfl, Nat.le_of_ble_eq_true rfl⟩) rfl hl.1 rfl (Nat.le_of_ble_eq_true rfl) dX3_captionFault_26 ⟨Nat.zero_le _, Nat.zero_le _⟩ (fun r26 h26 => ?_)
      rcases h26 with ⟨nX_26, h26_0, h26_1, rfl, rfl⟩ | ⟨h26_0, rfl⟩
      · refine lv_if_ne (tgt := 35) hx hb dX3_captionFault_29 (by decide) (fun _ => ?_) (fun q => absurd q (by decide))
        refine lv_iload hx hb dX3_captionFault_35 (lv_at hl 4 rfl) ?_
        refine lv_aload_n hx hb dX3_captionFault_37 rfl (lv_at hl 0 rfl) ?_
        refine va_get (D := G.1) (ci := 3) (v := .ref b1) (C := RX3) (T := TX3) (N := 14) hx hb hts mic_captionFault_3 hown hK hP 0 rfl rfl 0 (by decide) (hts _ mwc_captionFault_1) (fun _ h9 => h9) rfl dX3_captionFault_38 ?_
        refine lv_iload_n hx hb dX3_captionFault_41 rfl (lv_at hl 1 rfl) ?_
        refine lv_iload_n hx hb dX3_captionFault_42 rfl (lv_at hl 2 rfl) ?_
        refine lv_iconst (v := nI 3) hx hb dX3_captionFault_43 (by decide) ?_
        refine zc_S (As := [.int (nI eX_3), .int (nI tX_3), .int (nI 3)]) (rest := [.ref b1, .int (nI nX_26)]) ⟨hx, hb, hml, hown, hts⟩ (c_of l eX_3 tX_3 3 ) (va_cwS 3 hts gX3_captionFault_X3_of rfl rfl rfl (by decide +kernel) ⟨Nat.le_of_ble_eq_true rfl, Nat.le_of_ble_eq_true rfl⟩) rfl hl.1 rfl (Nat.le_of_ble_eq_true rfl) dX3_captionFault_44 ⟨Nat.zero_le _, Nat.zero_le _⟩ (fun r44 h44 => ?_)
        subst h44
        refine zk_ald (f := sg) (k := 11 + 76 * eX_3 + 15 * tX_3 + 3) hx hb hK hP 1 0 rfl rfl (Nat.le_of_ble_eq_true rfl) (by omega) dX3_captionFault_47 ?_
        refine lv_iconst (v := (-1)) hx hb dX3_captionFault_48 (by decide) ?_
        refine lv_ixor hx hb dX3_captionFault_49 ?_
        refine lv_iand hx hb dX3_captionFault_50 ?_
        refine lv_if_eq (tgt := 57) hx hb dX3_captionFault_51 (by decide) (fun c51 => ?_) (fun c51 => ?_)
        · refine lv_aload_n hx hb dX3_captionFault_57 rfl (lv_at hl 0 rfl) ?_
          refine va_get (D := G.1) (ci := 3) (v := .ref b1) (C := RX3) (T := TX3) (N := 14) hx hb hts mic_captionFault_3 hown hK hP 0 rfl rfl 0 (by decide) (hts _ mwc_captionFault_1) (fun _ h9 => h9) rfl dX3_captionFault_58 ?_
          refine lv_iload_n hx hb dX3_captionFault_61 rfl (lv_at hl 1 rfl) ?_
          refine lv_iload_n hx hb dX3_captionFault_62 rfl (lv_at hl 2 rfl) ?_
          refine lv_iconst (v := nI 5) hx hb dX3_captionFault_63 (by decide) ?_
          refine zc_S (As := [.int (nI eX_3), .int (nI tX_3), .int (nI 5)]) (rest := [.ref b1]) ⟨hx, hb, hml, hown, hts⟩ (c_of l eX_3 tX_3 5 ) (va_cwS 3 hts gX3_captionFault_X3_of rfl rfl rfl (by decide +kernel) ⟨Nat.le_of_ble_eq_true rfl, Nat.le_of_ble_eq_true rfl⟩) rfl hl.1 rfl (Nat.le_of_ble_eq_true rfl) dX3_captionFault_64 ⟨Nat.zero_le _, Nat.zero_le _⟩ (fun r64 h64 => ?_)
          subst h64
          refine zk_ald (f := sg) (k := 11 + 76 * eX_3 + 15 * tX_3 + 5) hx hb hK hP 1 0 rfl rfl (Nat.le_of_ble_eq_true rfl) (by omega) dX3_captionFault_67 ?_
          refine lv_iconst (v := nI 3) hx hb dX3_captionFault_68 (by decide) ?_
          refine zk_ine (tgt := 77) hx hb dX3_captionFault_69 (by decide) (by omega) (by omega) (fun c69 => ?_) (fun c69 => ?_)
          · refine lv_iconst (v := nI 0) hx hb dX3_captionFault_77 (by decide) ?_
            exact W.iret (v := nI 0) hx hb hr (fun tT ht hW => ⟨_, rfl, Or.inr (Or.inr (Or.inr (Or.inr ⟨eX_3, tX_3, nX_15, nX_26, h3_0, h3_1, rfl, rfl, h15_0, h15_1, h26_1, rfl, rfl, c51, by omega, rfl⟩))), ht⟩) (fun _ h => absurd h List.not_mem_nil) dX3_captionFault_78
          · refine lv_bipush (v := (-3)) hx hb dX3_captionFault_72 (by decide) ?_
            refine lv_goto (tgt := 78) hx hb dX3_captionFault_74 (by decide) ?_
            exact W.iret (v := (-3)) hx hb hr (fun tT ht hW => ⟨_, rfl, Or.inr (Or.inr (Or.inr (Or.inl ⟨eX_3, tX_3, nX_15, nX_26, h3_0, h3_1, rfl, rfl, h15_0, h15_1, h26_1, rfl, rfl, c51, c69, rfl⟩))), ht⟩) (fun _ h => absurd h List.not_mem_nil) dX3_captionFault_78
        · refine lv_bipush (v := (-4)) hx hb dX3_captionFault_54 (by decide) ?_
          exact W.iret (v := (-4)) hx hb hr (fun tT ht hW => ⟨_, rfl, Or.inr (Or.inr (Or.inl ⟨eX_3, tX_3, nX_15, nX_26, h3_0, h3_1, rfl, rfl, h15_0, h15_1, h26_1, rfl, rfl, c51, rfl⟩)), ht⟩) (fun _ h => absurd h List.not_mem_nil) dX3_captionFault_56
      · refine lv_if_ne (tgt := 35) hx hb dX3_captionFault_29 (by decide) (fun q => absurd (by decide) q) (fun _ => ?_)
        refine lv_bipush (v := (-2)) hx hb dX3_captionFault_32 (by decide) ?_
        exact W.iret (v := (-2)) hx hb hr (fun tT ht hW => ⟨_, rfl, Or.inr (Or.inl ⟨eX_3, tX_3, h3_0, h3_1, rfl, rfl, fun ⟨w1, f1, q1, q2, q3, q4⟩ => h26_0 ⟨f1, Nat.zero_le _, q2, q4⟩, rfl⟩), ht⟩) (fun _ h => absurd h List.not_mem_nil) dX3_captionFault_34
    · refine lv_if_eq (tgt := 32) hx hb dX3_captionFault_18 (by decide) (fun _ => ?_) (fun q => absurd (by decide) q)
      refine lv_bipush (v := (-2)) hx hb dX3_captionFault_32 (by decide) ?_
      exact W.iret (v := (-2)) hx hb hr (fun tT ht hW => ⟨_, rfl, Or.inr (Or.inl ⟨eX_3, tX_3, h3_0, h3_1, rfl, rfl, fun ⟨w1, f1, q1, q2, q3, q4⟩ => h15_0 ⟨w1, q1.1, q1.2, q3⟩, rfl⟩), ht⟩) (fun _ h => absurd h List.not_mem_nil) dX3_captionFault_34
  · refine lv_if_ne (tgt := 11) hx hb dX3_captionFault_6 (by decide) (fun q => absurd (by decide) q) (fun _ => ?_)
    refine lv_iconst (v := (-1)) hx hb dX3_captionFault_9 (by decide) ?_
    exact W.iret (v := (-1)) hx hb hr (fun tT ht hW => ⟨_, rfl, Or.inl ⟨h3_0, rfl⟩, ht⟩) (fun _ h => absurd h List.not_mem_nil) dX3_captionFault_10
set_option maxRecDepth 100000 in
theorem mwc_addsCaption_0 : Cond.fieldLink RX3 7 "ExhibitTextsModel" "s" "[I" ∈ wsX3_addsCaption := by decide +kernel
set_option maxRecDepth 100000 in
theorem mic_addsCaption_3 : ∀ w ∈ u_ws RX3 TX3 14, w ∈ wsX3_addsCaption := by decide +kernel
set_option maxHeartbeats 4000000 in
set_option maxRecDepth 100000 in
/-- X3_addsCaption: a caption is added -/
theorem c_addsCaption (l : Launch) (G : zG) (b0 : Nat) (b1 : Nat) (b2 : Nat) (b3 : Nat) (b4 : Nat) (b5 : Nat) (b6 : Nat) (kn : Nat) (ik : Nat) (ty : Nat) (ra : Int32) (rb : Int32) (rd : Nat) (iw : Nat) (fl : Int32) (sg : Nat → Nat) (e : Nat) (t : Nat) (w : Nat) (f : Nat) (he : e < 8) (ht : t < 5) (hc : sg (11 + 76 * e + 15 * t + 5) < 3) : Met l yX3_addsCaption wsX3_addsCaption ({ frames := 3, cells := 0, slots := 0, locals := 65 } : Room) (zPc G [.ref b0, .int (nI e), .int (nI t), .int (nI w), .int (nI f)] [(b0, .inr (3, [.ref b1, .ref b2, .ref b3, .int (nI kn), .ref b4, .int (nI ik), .ref b5, .int (nI ty), .int ra, .int rb, .int (nI rd), .int (nI iw), .ref b6, .int fl])), (b1, .inl (G.2.1, 618, .inl (arN sg)))]) (va_Qi (fun (rR : Int32) (uU : (Nat → Nat)) => rR = nI (sg (11 + 76 * e + 15 * t + 5)) ∧ uU = addC sg e t w f) (fun uU tT => va_P G.1 vwCl ((fun (uU : (Nat → Nat)) => ([(b0, .inr (3, [.ref b1, .ref b2, .ref b3, .int (nI kn), .ref b4, .int (nI ik), .ref b5, .int (nI ty), .int ra, .int rb, .int (nI rd), .int (nI iw), .ref b6, .int fl])), (b1, .inl (G.2.1, 618, .inl (arN uU)))] : va_W)) uU) tT.heap) (zIn [(b0, .inr (3, [.ref b1, .ref b2, .ref b3, .int (nI kn), .ref b4, .int (nI ik), .ref b5, .int (nI ty), .int ra, .int rb, .int (nI rd), .int (nI iw), .ref b6, .int fl])), (b1, .inl (G.2.1, 618, .inl (arN sg)))])) 0 0 (zIn [(b0, .inr (3, [.ref b1, .ref b2, .ref b3, .int (nI kn), .ref b4, .int (nI ik), .ref b5, .int (nI ty), .int ra, .int rb, .int (nI rd), .int (nI iw), .ref b6, .int fl])), (b1, .inl (G.2.1, 618, .inl (arN sg)))]) := by
  refine zM (cc := cX3_addsCaption) (maxL := 6) (ret := (some .int)) (by decide) rfl (Nat.le_of_ble_eq_true rfl) ?_
  intro pP eE sS mM below meth cC hx hb hr hts hown hlk hml hnm hK hN hP hD hS ls hl
  have hl : lv_has ls 6 [(0, .ref b0), (1, .int (nI e)), (2, .int (nI t)), (3, .int (nI w)), (4, .int (nI f))] := hl
  refine lv_aload_n hx hb dX3_addsCaption_0 rfl (lv_at hl 0 rfl) ?_
  refine va_get (D := G.1) (ci := 3) (v := .ref b1) (C := RX3) (T := TX3) (N := 14) hx hb hts mic_addsCaption_3 hown hK hP 0 rfl rfl 0 (by decide) (hts _ mwc_addsCaption_0) (fun _ h9 => h9) rfl dX3_addsCaption_1 ?_
  refine lv_iload_n hx hb dX3_addsCaption_4 rfl (lv_at hl 1 rfl) ?_
  refine lv_iload_n hx hb dX3_addsCaption_5 rfl (lv_at hl 2 rfl) ?_
  refine lv_iconst (v := nI 5) hx hb dX3_addsCaption_6 (by decide) ?_
  refine zc_S (As := [.int (nI e), .int (nI t), .int (nI 5)]) (rest := [.ref b1]) ⟨hx, hb, hml, hown, hts⟩ (c_of l e t 5 ) (va_cwS 3 hts gX3_addsCaption_X3_of rfl rfl rfl (by decide +kernel) ⟨Nat.le_of_ble_eq_true rfl, Nat.le_of_ble_eq_true rfl⟩) rfl hl.1 rfl (Nat.le_of_ble_eq_true rfl) dX3_addsCaption_7 ⟨Nat.zero_le _, Nat.zero_le _⟩ (fun r7 h7 => ?_)
  subst h7
  refine zk_ald (f := sg) (k := 11 + 76 * e + 15 * t + 5) hx hb hK hP 1 0 rfl rfl (Nat.le_of_ble_eq_true rfl) (by omega) dX3_addsCaption_10 ?_
  refine lv_istore (lv' := [(5, .int (nI (sg (11 + 76 * e + 15 * t + 5)))), (0, .ref b0), (1, .int (nI e)), (2, .int (nI t)), (3, .int (nI w)), (4, .int (nI f))]) hx hb dX3_addsCaption_11 hl (by decide) rfl (fun ls hl => ?_)
  refine lv_aload_n hx hb dX3_addsCaption_13 rfl (lv_at hl 1 rfl) ?_
  refine va_get (D := G.1) (ci := 3) (v := .ref b1) (C := RX3) (T := TX3) (N := 14) hx hb hts mic_addsCaption_3 hown hK hP 0 rfl rfl 0 (by decide) (hts _ mwc_addsCaption_0) (fun _ h9 => h9) rfl dX3_addsCaption_14 ?_
  refine lv_iload_n hx hb dX3_addsCaption_17 rfl (lv_at hl 2 rfl) ?_
  refine lv_iload_n hx hb dX3_addsCaption_18 rfl (lv_at hl 3 rfl) ?_
  refine lv_iload hx hb dX3_addsCaption_19 (lv_at hl 0 rfl) ?_
  refine lv_iconst (v := nI 0) hx hb dX3_addsCaption_21 (by decide) ?_
  refine zc_S (As := [.int (nI e), .int (nI t), .int (nI (sg (11 + 76 * e + 15 * t + 5))), .int (nI 0)]) (rest := [.ref b1]) ⟨hx, hb, hml, hown, hts⟩ (c_ofCaption l e t (sg (11 + 76 * e + 15 * t + 5)) 0 ) (va_cwS 4 hts gX3_addsCaption_X3_ofCaption rfl rfl rfl (by decide +kernel) ⟨Nat.le_of_ble_eq_true rfl, Nat.le_of_ble_eq_true rfl⟩) rfl hl.1 rfl (Nat.le_of_ble_eq_true rfl) dX3_addsCaption_22 ⟨Nat.zero_le _, Nat.zero_le _⟩ (fun r22 h22 => ?_)
  subst h22
  refine lv_iload_n hx hb dX3_addsCaption_25 rfl (lv_at hl 4 rfl) ?_
  refine zk_ast (f := sg) (k := 11 + 76 * e + 15 * t + (6 + 3 * (sg (11 + 76 * e + 15 * t + 5)) + 0)) (v := w) (ws2 := [(b0, .inr (3, [.ref b1, .ref b2, .ref b3, .int (nI kn), .ref b4, .int (nI ik), .ref b5, .int (nI ty), .int ra, .int rb, .int (nI rd), .int (nI iw), .ref b6, .int fl])), (b1, .inl (G.2.1, 618, .inl (arN (arU sg (11 + 76 * e + 15 * t + (6 + 3 * (sg (11 + 76 * e + 15 * t + 5)) + 0)) w))))]) hx hb hK hP hD hS 1 0 rfl rfl (Nat.le_of_ble_eq_true rfl) (by omega) rfl dX3_addsCaption_26 (fun H locs hP hD hS => ?_)
  refine lv_aload_n hx hb dX3_addsCaption_27 rfl (lv_at hl 1 rfl) ?_
  refine va_get (D := G.1) (ci := 3) (v := .ref b1) (C := RX3) (T := TX3) (N := 14) hx hb hts mic_addsCaption_3 hown hK hP 0 rfl rfl 0 (by decide) (hts _ mwc_addsCaption_0) (fun _ h9 => h9) rfl dX3_addsCaption_28 ?_
  refine lv_iload_n hx hb dX3_addsCaption_31 rfl (lv_at hl 2 rfl) ?_
  refine lv_iload_n hx hb dX3_addsCaption_32 rfl (lv_at hl 3 rfl) ?_
  refine lv_iload hx hb dX3_addsCaption_33 (lv_at hl 0 rfl) ?_
  refine lv_iconst (v := nI 1) hx hb dX3_addsCaption_35 (by decide) ?_
  refine zc_S (As := [.int (nI e), .int (nI t), .int (nI (sg (11 + 76 * e + 15 * t + 5))), .int (nI 1)]) (rest := [.ref b1]) ⟨hx, hb, hml, hown, hts⟩ (c_ofCaption l e t (sg (11 + 76 * e + 15 * t + 5)) 1 ) (va_cwS 4 hts gX3_addsCaption_X3_ofCaption rfl rfl rfl (by decide +kernel) ⟨Nat.le_of_ble_eq_true rfl, Nat.le_of_ble_eq_true rfl⟩) rfl hl.1 rfl (Nat.le_of_ble_eq_true rfl) dX3_addsCaption_36 ⟨Nat.zero_le _, Nat.zero_le _⟩ (fun r36 h36 => ?_)
  subst h36
  refine lv_iload hx hb dX3_addsCaption_39 (lv_at hl 5 rfl) ?_
  refine zk_ast (f := arU sg (11 + 76 * e + 15 * t + (6 + 3 * (sg (11 + 76 * e + 15 * t + 5)) + 0)) w) (k := 11 + 76 * e + 15 * t + (6 + 3 * (sg (11 + 76 * e + 15 * t + 5)) + 1)) (v := f) (ws2 := [(b0, .inr (3, [.ref b1, .ref b2, .ref b3, .int (nI kn), .ref b4, .int (nI ik), .ref b5, .int (nI ty), .int ra, .int rb, .int (nI rd), .int (nI iw), .ref b6, .int fl])), (b1, .inl (G.2.1, 618, .inl (arN (arU (arU sg (11 + 76 * e + 15 * t + (6 + 3 * (sg (11 + 76 * e + 15 * t + 5)) + 0)) w) (11 + 76 * e + 15 * t + (6 + 3 * (sg (11 + 76 * e + 15 * t + 5)) + 1)) f))))]) hx hb hK hP hD hS 1 0 rfl rfl (Nat.le_of_ble_eq_true rfl) (by omega) rfl dX3_addsCaption_41 (fun H locs hP hD hS => ?_)
  refine lv_aload_n hx hb dX3_addsCaption_42 rfl (lv_at hl 1 rfl) ?_
  refine va_get (D := G.1) (ci := 3) (v := .ref b1) (C := RX3) (T := TX3) (N := 14) hx hb hts mic_addsCaption_3 hown hK hP 0 rfl rfl 0 (by decide) (hts _ mwc_addsCaption_0) (fun _ h9 => h9) rfl dX3_addsCaption_43 ?_
  refine lv_iload_n hx hb dX3_addsCaption_46 rfl (lv_at hl 2 rfl) ?_
  refine lv_iload_n hx hb dX3_addsCaption_47 rfl (lv_at hl 3 rfl) ?_
  refine lv_iload hx hb dX3_addsCaption_48 (lv_at hl 0 rfl) ?_
  refine lv_iconst (v := nI 2) hx hb dX3_addsCaption_50 (by decide) ?_
  refine zc_S (As := [.int (nI e), .int (nI t), .int (nI (sg (11 + 76 * e + 15 * t + 5))), .int (nI 2)]) (rest := [.ref b1]) ⟨hx, hb, hml, hown, hts⟩ (c_ofCaption l e t (sg (11 + 76 * e + 15 * t + 5)) 2 ) (va_cwS 4 hts gX3_addsCaption_X3_ofCaption rfl rfl rfl (by decide +kernel) ⟨Nat.le_of_ble_eq_true rfl, Nat.le_of_ble_eq_true rfl⟩) rfl hl.1 rfl (Nat.le_of_ble_eq_true rfl) dX3_addsCaption_51 ⟨Nat.zero_le _, Nat.zero_le _⟩ (fun r51 h51 => ?_)
  subst h51
  refine lv_iconst (v := nI 0) hx hb dX3_addsCaption_54 (by decide) ?_
  refine zk_ast (f := arU (arU sg (11 + 76 * e + 15 * t + (6 + 3 * (sg (11 + 76 * e + 15 * t + 5)) + 0)) w) (11 + 76 * e + 15 * t + (6 + 3 * (sg (11 + 76 * e + 15 * t + 5)) + 1)) f) (k := 11 + 76 * e + 15 * t + (6 + 3 * (sg (11 + 76 * e + 15 * t + 5)) + 2)) (v := 0) (ws2 := [(b0, .inr (3, [.ref b1, .ref b2, .ref b3, .int (nI kn), .ref b4, .int (nI ik), .ref b5, .int (nI ty), .int ra, .int rb, .int (nI rd), .int (nI iw), .ref b6, .int fl])), (b1, .inl (G.2.1, 618, .inl (arN (arU (arU (arU sg (11 + 76 * e + 15 * t + (6 + 3 * (sg (11 + 76 * e + 15 * t + 5)) + 0)) w) (11 + 76 * e + 15 * t + (6 + 3 * (sg (11 + 76 * e + 15 * t + 5)) + 1)) f) (11 + 76 * e + 15 * t + (6 + 3 * (sg (11 + 76 * e + 15 * t + 5)) + 2)) 0))))]) hx hb hK hP hD hS 1 0 rfl rfl (Nat.le_of_ble_eq_true rfl) (by omega) rfl dX3_addsCaption_55 (fun H locs hP hD hS => ?_)
  refine lv_aload_n hx hb dX3_addsCaption_56 rfl (lv_at hl 1 rfl) ?_
  refine va_get (D := G.1) (ci := 3) (v := .ref b1) (C := RX3) (T := TX3) (N := 14) hx hb hts mic_addsCaption_3 hown hK hP 0 rfl rfl 0 (by decide) (hts _ mwc_addsCaption_0) (fun _ h9 => h9) rfl dX3_addsCaption_57 ?_
  refine lv_iload_n hx hb dX3_addsCaption_60 rfl (lv_at hl 2 rfl) ?_
  refine lv_iload_n hx hb dX3_addsCaption_61 rfl (lv_at hl 3 rfl) ?_
  refine lv_iconst (v := nI 5) hx hb dX3_addsCaption_62 (by decide) ?_
  refine zc_S (As := [.int (nI e), .int (nI t), .int (nI 5)]) (rest := [.ref b1]) ⟨hx, hb, hml, hown, hts⟩ (c_of l e t 5 ) (va_cwS 3 hts gX3_addsCaption_X3_of rfl rfl rfl (by decide +kernel) ⟨Nat.le_of_ble_eq_true rfl, Nat.le_of_ble_eq_true rfl⟩) rfl hl.1 rfl (Nat.le_of_ble_eq_true rfl) dX3_addsCaption_63 ⟨Nat.zero_le _, Nat.zero_le _⟩ (fun r63 h63 => ?_)
  subst h63
  refine lv_dup2_11 hx hb dX3_addsCaption_66 rfl rfl ?_
  refine zk_ald (f := arU (arU (arU sg (11 + 76 * e + 15 * t + (6 + 3 * (sg (11 + 76 * e + 15 * t + 5)) + 0)) w) (11 + 76 * e + 15 * t + (6 + 3 * (sg (11 + 76 * e + 15 * t + 5)) + 1)) f) (11 + 76 * e + 15 * t + (6 + 3 * (sg (11 + 76 * e + 15 * t + 5)) + 2)) 0) (k := 11 + 76 * e + 15 * t + 5) hx hb hK hP 1 0 rfl rfl (Nat.le_of_ble_eq_true rfl) (by omega) dX3_addsCaption_67 ?_
  refine zk_top (y := nI (sg (11 + 76 * e + 15 * t + 5))) (congrArg nI ((arU_n (by omega)).trans ((arU_n (by omega)).trans (arU_n (by omega))))) ?_
  refine lv_iconst (v := nI 1) hx hb dX3_addsCaption_68 (by decide) ?_
  refine zk_add hx hb dX3_addsCaption_69 ?_
  refine zk_ast (f := arU (arU (arU sg (11 + 76 * e + 15 * t + (6 + 3 * (sg (11 + 76 * e + 15 * t + 5)) + 0)) w) (11 + 76 * e + 15 * t + (6 + 3 * (sg (11 + 76 * e + 15 * t + 5)) + 1)) f) (11 + 76 * e + 15 * t + (6 + 3 * (sg (11 + 76 * e + 15 * t + 5)) + 2)) 0) (k := 11 + 76 * e + 15 * t + 5) (v := (sg (11 + 76 * e + 15 * t + 5)) + 1) (ws2 := [(b0, .inr (3, [.ref b1, .ref b2, .ref b3, .int (nI kn), .ref b4, .int (nI ik), .ref b5, .int (nI ty), .int ra, .int rb, .int (nI rd), .int (nI iw), .ref b6, .int fl])), (b1, .inl (G.2.1, 618, .inl (arN (arU (arU (arU (arU sg (11 + 76 * e + 15 * t + (6 + 3 * (sg (11 + 76 * e + 15 * t + 5)) + 0)) w) (11 + 76 * e + 15 * t + (6 + 3 * (sg (11 + 76 * e + 15 * t + 5)) + 1)) f) (11 + 76 * e + 15 * t + (6 + 3 * (sg (11 + 76 * e + 15 * t + 5)) + 2)) 0) (11 + 76 * e + 15 * t + 5) ((sg (11 + 76 * e + 15 * t + 5)) + 1)))))]) hx hb hK hP hD hS 1 0 rfl rfl (Nat.le_of_ble_eq_true rfl) (by omega) rfl dX3_addsCaption_70 (fun H locs hP hD hS => ?_)
  refine lv_iload hx hb dX3_addsCaption_71 (lv_at hl 0 rfl) ?_
  exact W.iret (v := nI (sg (11 + 76 * e + 15 * t + 5))) hx hb hr (fun tT ht hW => ⟨⟨_, arU (arU (arU (arU sg (11 + 76 * e + 15 * t + (6 + 3 * (sg (11 + 76 * e + 15 * t + 5)) + 0)) w) (11 + 76 * e + 15 * t + (6 + 3 * (sg (11 + 76 * e + 15 * t + 5)) + 1)) f) (11 + 76 * e + 15 * t + (6 + 3 * (sg (11 + 76 * e + 15 * t + 5)) + 2)) 0) (11 + 76 * e + 15 * t + 5) ((sg (11 + 76 * e + 15 * t + 5)) + 1), rfl, ⟨rfl, rfl⟩, by show va_P G.1 vwCl _ tT.heap; rw [ht]; exact hP⟩, hS.F ht⟩) hS.2.2 dX3_addsCaption_73
set_option maxHeartbeats 4000000 in
set_option maxRecDepth 100000 in
/-- X3_addText: addText -/
theorem c_addText (l : Launch) (G : zG) (b0 : Nat) (b1 : Nat) (b2 : Nat) (b3 : Nat) (b4 : Nat) (b5 : Nat) (b6 : Nat) (kn : Nat) (ik : Nat) (ty : Nat) (ra : Int32) (rb : Int32) (rd : Nat) (iw : Nat) (fl : Int32) (sg : Nat → Nat) (be : Nat → Nat) (x : Int32) (aw : Int32) (as : Int32) (az : Int32) (af : Int32) (hM : mOK sg) (hkn : kn ≤ 4) : Met l yX3_addText wsX3_addText ({ frames := 3, cells := 0, slots := 0, locals := 69 } : Room) (zPc G [.ref b0, .int x, .int aw, .int as, .int az, .int af] [(b0, .inr (3, [.ref b1, .ref b2, .ref b3, .int (nI kn), .ref b4, .int (nI ik), .ref b5, .int (nI ty), .int ra, .int rb, .int (nI rd), .int (nI iw), .ref b6, .int fl])), (b1, .inl (G.2.1, 618, .inl (arN sg))), (b3, .inl (G.2.1, 2472, .inl (arN be)))]) (va_Qi (fun (rR : Int32) (uU : Nat × (Nat → Nat) × (Nat → Nat)) => (¬ pE x ∧ rR = (-1) ∧ uU = (kn, sg, be)) ∨ (∃ (eX : Nat), eX < 8 ∧ x = nI eX ∧ ¬ pTx aw as az af ∧ rR = (-2) ∧ uU = (kn, sg, be)) ∨ (∃ (eX : Nat) (wX : Nat) (sX : Nat) (zX : Nat) (fX : Nat), eX < 8 ∧ x = nI eX ∧ 1 ≤ wX ∧ wX ≤ 300 ∧ 1 ≤ sX ∧ sX ≤ 50 ∧ sX ≤ wX ∧ zX ≤ wX ∧ 1 ≤ fX ∧ fX ≤ 65535 ∧ aw = nI wX ∧ as = nI sX ∧ az = nI zX ∧ af = nI fX ∧ sg (10 + 76 * eX) = 5 ∧ rR = (-3) ∧ uU = (kn, sg, be)) ∨ (∃ (eX : Nat) (wX : Nat) (sX : Nat) (zX : Nat) (fX : Nat), eX < 8 ∧ x = nI eX ∧ 1 ≤ wX ∧ wX ≤ 300 ∧ 1 ≤ sX ∧ sX ≤ 50 ∧ sX ≤ wX ∧ zX ≤ wX ∧ 1 ≤ fX ∧ fX ≤ 65535 ∧ aw = nI wX ∧ as = nI sX ∧ az = nI zX ∧ af = nI fX ∧ sg (10 + 76 * eX) < 5 ∧ rR = nI (sg (10 + 76 * eX)) ∧ uU = (knK kn, addT sg eX wX sX zX fX, knB kn be sg))) (fun uU tT => va_P G.1 vwCl ((fun (uU : Nat × (Nat → Nat) × (Nat → Nat)) => ([(b0, .inr (3, [.ref b1, .ref b2, .ref b3, .int (nI uU.1), .ref b4, .int (nI ik), .ref b5, .int (nI ty), .int ra, .int rb, .int (nI rd), .int (nI iw), .ref b6, .int fl])), (b1, .inl (G.2.1, 618, .inl (arN uU.2.1))), (b3, .inl (G.2.1, 2472, .inl (arN uU.2.2)))] : va_W)) uU) tT.heap) (zIn [(b0, .inr (3, [.ref b1, .ref b2, .ref b3, .int (nI kn), .ref b4, .int (nI ik), .ref b5, .int (nI ty), .int ra, .int rb, .int (nI rd), .int (nI iw), .ref b6, .int fl])), (b1, .inl (G.2.1, 618, .inl (arN sg))), (b3, .inl (G.2.1, 2472, .inl (arN be)))])) 0 0 (zIn [(b0, .inr (3, [.ref b1, .ref b2, .ref b3, .int (nI kn), .ref b4, .int (nI ik), .ref b5, .int (nI ty), .int ra, .int rb, .int (nI rd), .int (nI iw), .ref b6, .int fl])), (b1, .inl (G.2.1, 618, .inl (arN sg))), (b3, .inl (G.2.1, 2472, .inl (arN be)))]) := by
  refine zM (cc := cX3_addText) (maxL := 7) (ret := (some .int)) (by decide) rfl (Nat.le_of_ble_eq_true rfl) ?_
  intro pP eE sS mM below meth cC hx hb hr hts hown hlk hml hnm hK hN hP hD hS ls hl
  have hl : lv_has ls 7 [(0, .ref b0), (1, .int x), (2, .int aw), (3, .int as), (4, .int az), (5, .int af)] := hl
  refine lv_aload_n hx hb dX3_addText_0 rfl (lv_at hl 0 rfl) ?_
  refine lv_iload_n hx hb dX3_addText_1 rfl (lv_at hl 1 rfl) ?_
  refine lv_iload_n hx hb dX3_addText_2 rfl (lv_at hl 2 rfl) ?_
  refine lv_iload_n hx hb dX3_addText_3 rfl (lv_at hl 3 rfl) ?_
  refine lv_iload hx hb dX3_addText_4 (lv_at hl 4 rfl) ?_
  refine lv_iload hx hb dX3_addText_6 (lv_at hl 5 rfl) ?_
  refine zc_R (As := [.int x, .int aw, .int as, .int az, .int af]) (rest := []) ⟨hx, hb, hml, hown, hts⟩ (c_textFault l G b0 b1 b2 b3 b4 b5 b6 kn ik ty ra rb rd iw fl sg x aw as az af (by omega)) (cwV 5 hts gX3_addText_X3_textFault rfl rfl rfl (by decide +kernel) ⟨Nat.le_of_ble_eq_true rfl, Nat.le_of_ble_eq_true rfl⟩) hK hN hP hD [0, 1] rfl (by decide) (ci := 3) rfl rfl rfl hl.1 rfl (Nat.le_of_ble_eq_true rfl) dX3_addText_8 ⟨Nat.zero_le _, Nat.zero_le _⟩ (fun r8 h8 => ?_)
  rcases h8 with ⟨h8_0, rfl⟩ | ⟨eX_8, h8_0, rfl, h8_2, rfl⟩ | ⟨eX_8, wX_8, sX_8, zX_8, fX_8, h8_0, rfl, h8_2, h8_3, h8_4, h8_5, h8_6, h8_7, h8_8, h8_9, rfl, rfl, rfl, rfl, h8_14, rfl⟩ | ⟨eX_8, wX_8, sX_8, zX_8, fX_8, h8_0, rfl, h8_2, h8_3, h8_4, h8_5, h8_6, h8_7, h8_8, h8_9, rfl, rfl, rfl, rfl, h8_14, rfl⟩
  · refine lv_istore (lv' := [(6, .int (-1)), (0, .ref b0), (1, .int x), (2, .int aw), (3, .int as), (4, .int az), (5, .int af)]) hx hb dX3_addText_11 hl (by decide) rfl (fun ls hl => ?_)
    refine lv_iload hx hb dX3_addText_13 (lv_at hl 0 rfl) ?_
    refine lv_if_ge (tgt := 21) hx hb dX3_addText_15 (by decide) (fun q => absurd q (by decide)) (fun _ => ?_)
    refine lv_iload hx hb dX3_addText_18 (lv_at hl 0 rfl) ?_
    exact W.iret (v := (-1)) hx hb hr (fun tT ht hW => ⟨⟨_, (kn, sg, be), rfl, Or.inl ⟨h8_0, rfl, rfl⟩, by show va_P G.1 vwCl _ tT.heap; rw [ht]; exact hP⟩, hS.F ht⟩) hS.2.2 dX3_addText_20
  · refine lv_istore (lv' := [(6, .int (-2)), (0, .ref b0), (1, .int (nI eX_8)), (2, .int aw), (3, .int as), (4, .int az), (5, .int af)]) hx hb dX3_addText_11 hl (by decide) rfl (fun ls hl => ?_)
    refine lv_iload hx hb dX3_addText_13 (lv_at hl 0 rfl) ?_
    refine lv_if_ge (tgt := 21) hx hb dX3_addText_15 (by decide) (fun q => absurd q (by decide)) (fun _ => ?_)
    refine lv_iload hx hb dX3_addText_18 (lv_at hl 0 rfl) ?_
    exact W.iret (v := (-2)) hx hb hr (fun tT ht hW => ⟨⟨_, (kn, sg, be), rfl, Or.inr (Or.inl ⟨eX_8, h8_0, rfl, h8_2, rfl, rfl⟩), by show va_P G.1 vwCl _ tT.heap; rw [ht]; exact hP⟩, hS.F ht⟩) hS.2.2 dX3_addText_20
  · refine lv_istore (lv' := [(6, .int (-3)), (0, .ref b0), (1, .int (nI eX_8)), (2, .int (nI wX_8)), (3, .int (nI sX_8)), (4, .int (nI zX_8)), (5, .int (nI fX_8))]) hx hb dX3_addText_11 hl (by decide) rfl (fun ls hl => ?_)
    refine lv_iload hx hb dX3_addText_13 (lv_at hl 0 rfl) ?_
    refine lv_if_ge (tgt := 21) hx hb dX3_addText_15 (by decide) (fun q => absurd q (by decide)) (fun _ => ?_)
    refine lv_iload hx hb dX3_addText_18 (lv_at hl 0 rfl) ?_
    exact W.iret (v := (-3)) hx hb hr (fun tT ht hW => ⟨⟨_, (kn, sg, be), rfl, Or.inr (Or.inr (Or.inl ⟨eX_8, wX_8, sX_8, zX_8, fX_8, h8_0, rfl, h8_2, h8_3, h8_4, h8_5, h8_6, h8_7, h8_8, h8_9, rfl, rfl, rfl, rfl, h8_14, rfl, rfl⟩)), by show va_P G.1 vwCl _ tT.heap; rw [ht]; exact hP⟩, hS.F ht⟩) hS.2.2 dX3_addText_20
  · refine lv_istore (lv' := [(6, .int (nI 0)), (0, .ref b0), (1, .int (nI eX_8)), (2, .int (nI wX_8)), (3, .int (nI sX_8)), (4, .int (nI zX_8)), (5, .int (nI fX_8))]) hx hb dX3_addText_11 hl (by decide) rfl (fun ls hl => ?_)
    refine lv_iload hx hb dX3_addText_13 (lv_at hl 0 rfl) ?_
    refine lv_if_ge (tgt := 21) hx hb dX3_addText_15 (by decide) (fun _ => ?_) (fun q => absurd (by decide) q)
    refine lv_aload_n hx hb dX3_addText_21 rfl (lv_at hl 1 rfl) ?_
    refine zc_U (As := []) (rest := []) (ws2 := (fun (uU : Nat × (Nat → Nat)) => ([(b0, .inr (3, [.ref b1, .ref b2, .ref b3, .int (nI uU.1), .ref b4, .int (nI ik), .ref b5, .int (nI ty), .int ra, .int rb, .int (nI rd), .int (nI iw), .ref b6, .int fl])), (b1, .inl (G.2.1, 618, .inl (arN sg))), (b3, .inl (G.2.1, 2472, .inl (arN uU.2)))] : va_W))) ⟨hx, hb, hml, hown, hts⟩ (c_know l G b0 b1 b2 b3 b4 b5 b6 kn ik ty ra rb rd iw fl sg be (by omega)) (cwV 0 hts gX3_addText_X3_know rfl rfl rfl (by decide +kernel) ⟨Nat.le_of_ble_eq_true rfl, Nat.le_of_ble_eq_true rfl⟩) hK hN hP hD hS [0, 1, 2] rfl (by decide) (ci := 3) rfl rfl (fun _ => rfl) (fun _ => rfl) rfl hl.1 rfl (Nat.le_of_ble_eq_true rfl) dX3_addText_22 ⟨Nat.zero_le _, Nat.zero_le _⟩ (fun u22 H locs h22 hP hD hS => ?_)
    subst h22
    have hP : va_P G.1 vwCl [(b0, .inr (3, [.ref b1, .ref b2, .ref b3, .int (nI (knK kn)), .ref b4, .int (nI ik), .ref b5, .int (nI ty), .int ra, .int rb, .int (nI rd), .int (nI iw), .ref b6, .int fl])), (b1, .inl (G.2.1, 618, .inl (arN sg))), (b3, .inl (G.2.1, 2472, .inl (arN (knB kn be sg))))] H := hP
    have hD : va_D (zIn [(b0, .inr (3, [.ref b1, .ref b2, .ref b3, .int (nI kn), .ref b4, .int (nI ik), .ref b5, .int (nI ty), .int ra, .int rb, .int (nI rd), .int (nI iw), .ref b6, .int fl])), (b1, .inl (G.2.1, 618, .inl (arN sg))), (b3, .inl (G.2.1, 2472, .inl (arN be)))]) [(b0, .inr (3, [.ref b1, .ref b2, .ref b3, .int (nI (knK kn)), .ref b4, .int (nI ik), .ref b5, .int (nI ty), .int ra, .int rb, .int (nI rd), .int (nI iw), .ref b6, .int fl])), (b1, .inl (G.2.1, 618, .inl (arN sg))), (b3, .inl (G.2.1, 2472, .inl (arN (knB kn be sg))))] := hD
    refine lv_aload_n hx hb dX3_addText_25 rfl (lv_at hl 1 rfl) ?_
    refine lv_iload_n hx hb dX3_addText_26 rfl (lv_at hl 2 rfl) ?_
    refine lv_iload_n hx hb dX3_addText_27 rfl (lv_at hl 3 rfl) ?_
    refine lv_iload_n hx hb dX3_addText_28 rfl (lv_at hl 4 rfl) ?_
    refine lv_iload hx hb dX3_addText_29 (lv_at hl 5 rfl) ?_
    refine lv_iload hx hb dX3_addText_31 (lv_at hl 6 rfl) ?_
    refine zc_V (As := [.int (nI eX_8), .int (nI wX_8), .int (nI sX_8), .int (nI zX_8), .int (nI fX_8)]) (rest := []) (ws2 := (fun (uU : (Nat → Nat)) => ([(b0, .inr (3, [.ref b1, .ref b2, .ref b3, .int (nI (knK kn)), .ref b4, .int (nI ik), .ref b5, .int (nI ty), .int ra, .int rb, .int (nI rd), .int (nI iw), .ref b6, .int fl])), (b1, .inl (G.2.1, 618, .inl (arN uU))), (b3, .inl (G.2.1, 2472, .inl (arN (knB kn be sg))))] : va_W))) ⟨hx, hb, hml, hown, hts⟩ (c_addsText l G b0 b1 b2 b3 b4 b5 b6 (knK kn) ik ty ra rb rd iw fl sg eX_8 wX_8 sX_8 zX_8 fX_8 (by omega) (by omega)) (cwV 5 hts gX3_addText_X3_addsText rfl rfl rfl (by decide +kernel) ⟨Nat.le_of_ble_eq_true rfl, Nat.le_of_ble_eq_true rfl⟩) hK hN hP hD hS [0, 1] rfl (by decide) (ci := 3) rfl rfl (fun _ => rfl) (fun _ => rfl) rfl hl.1 rfl (Nat.le_of_ble_eq_true rfl) dX3_addText_33 ⟨Nat.zero_le _, Nat.zero_le _⟩ (fun r33 u33 H locs h33 hP hD hS => ?_)
    obtain ⟨rfl, rfl⟩ := h33
    have hP : va_P G.1 vwCl [(b0, .inr (3, [.ref b1, .ref b2, .ref b3, .int (nI (knK kn)), .ref b4, .int (nI ik), .ref b5, .int (nI ty), .int ra, .int rb, .int (nI rd), .int (nI iw), .ref b6, .int fl])), (b1, .inl (G.2.1, 618, .inl (arN (addT sg eX_8 wX_8 sX_8 zX_8 fX_8)))), (b3, .inl (G.2.1, 2472, .inl (arN (knB kn be sg))))] H := hP
    have hD : va_D (zIn [(b0, .inr (3, [.ref b1, .ref b2, .ref b3, .int (nI kn), .ref b4, .int (nI ik), .ref b5, .int (nI ty), .int ra, .int rb, .int (nI rd), .int (nI iw), .ref b6, .int fl])), (b1, .inl (G.2.1, 618, .inl (arN sg))), (b3, .inl (G.2.1, 2472, .inl (arN be)))]) [(b0, .inr (3, [.ref b1, .ref b2, .ref b3, .int (nI (knK kn)), .ref b4, .int (nI ik), .ref b5, .int (nI ty), .int ra, .int rb, .int (nI rd), .int (nI iw), .ref b6, .int fl])), (b1, .inl (G.2.1, 618, .inl (arN (addT sg eX_8 wX_8 sX_8 zX_8 fX_8)))), (b3, .inl (G.2.1, 2472, .inl (arN (knB kn be sg))))] := hD
    exact W.iret (v := nI (sg (10 + 76 * eX_8))) hx hb hr (fun tT ht hW => ⟨⟨_, (knK kn, addT sg eX_8 wX_8 sX_8 zX_8 fX_8, knB kn be sg), rfl, Or.inr (Or.inr (Or.inr ⟨eX_8, wX_8, sX_8, zX_8, fX_8, h8_0, rfl, h8_2, h8_3, h8_4, h8_5, h8_6, h8_7, h8_8, h8_9, rfl, rfl, rfl, rfl, h8_14, rfl, rfl⟩)), by show va_P G.1 vwCl _ tT.heap; rw [ht]; exact hP⟩, hS.F ht⟩) hS.2.2 dX3_addText_36
set_option maxHeartbeats 4000000 in
set_option maxRecDepth 100000 in
/-- X3_addCaption: addCaption -/
theorem c_addCaption (l : Launch) (G : zG) (b0 : Nat) (b1 : Nat) (b2 : Nat) (b3 : Nat) (b4 : Nat) (b5 : Nat) (b6 : Nat) (kn : Nat) (ik : Nat) (ty : Nat) (ra : Int32) (rb : Int32) (rd : Nat) (iw : Nat) (fl : Int32) (sg : Nat → Nat) (be : Nat → Nat) (x : Int32) (y : Int32) (aw : Int32) (af : Int32) (hM : mOK sg) (hkn : kn ≤ 4) : Met l yX3_addCaption wsX3_addCaption ({ frames := 4, cells := 0, slots := 0, locals := 90 } : Room) (zPc G [.ref b0, .int x, .int y, .int aw, .int af] [(b0, .inr (3, [.ref b1, .ref b2, .ref b3, .int (nI kn), .ref b4, .int (nI ik), .ref b5, .int (nI ty), .int ra, .int rb, .int (nI rd), .int (nI iw), .ref b6, .int fl])), (b1, .inl (G.2.1, 618, .inl (arN sg))), (b3, .inl (G.2.1, 2472, .inl (arN be)))]) (va_Qi (fun (rR : Int32) (uU : Nat × (Nat → Nat) × (Nat → Nat)) => (¬ pTn (fun e => sg (10 + 76 * e)) x y ∧ rR = (-1) ∧ uU = (kn, sg, be)) ∨ (∃ (eX : Nat) (tX : Nat), eX < 8 ∧ tX < sg (10 + 76 * eX) ∧ x = nI eX ∧ y = nI tX ∧ ¬ pCx aw af ∧ rR = (-2) ∧ uU = (kn, sg, be)) ∨ (∃ (eX : Nat) (tX : Nat) (wX : Nat) (fX : Nat), eX < 8 ∧ tX < sg (10 + 76 * eX) ∧ x = nI eX ∧ y = nI tX ∧ 1 ≤ wX ∧ wX ≤ 30 ∧ fX ≤ 65535 ∧ aw = nI wX ∧ af = nI fX ∧ ¬ andN fX (sg (11 + 76 * eX + 15 * tX + 3)) = 0 ∧ rR = (-4) ∧ uU = (kn, sg, be)) ∨ (∃ (eX : Nat) (tX : Nat) (wX : Nat) (fX : Nat), eX < 8 ∧ tX < sg (10 + 76 * eX) ∧ x = nI eX ∧ y = nI tX ∧ 1 ≤ wX ∧ wX ≤ 30 ∧ fX ≤ 65535 ∧ aw = nI wX ∧ af = nI fX ∧ andN fX (sg (11 + 76 * eX + 15 * tX + 3)) = 0 ∧ sg (11 + 76 * eX + 15 * tX + 5) = 3 ∧ rR = (-3) ∧ uU = (kn, sg, be)) ∨ (∃ (eX : Nat) (tX : Nat) (wX : Nat) (fX : Nat), eX < 8 ∧ tX < sg (10 + 76 * eX) ∧ x = nI eX ∧ y = nI tX ∧ 1 ≤ wX ∧ wX ≤ 30 ∧ fX ≤ 65535 ∧ aw = nI wX ∧ af = nI fX ∧ andN fX (sg (11 + 76 * eX + 15 * tX + 3)) = 0 ∧ sg (11 + 76 * eX + 15 * tX + 5) < 3 ∧ rR = nI (sg (11 + 76 * eX + 15 * tX + 5)) ∧ uU = (knK kn, addC sg eX tX wX fX, knB kn be sg))) (fun uU tT => va_P G.1 vwCl ((fun (uU : Nat × (Nat → Nat) × (Nat → Nat)) => ([(b0, .inr (3, [.ref b1, .ref b2, .ref b3, .int (nI uU.1), .ref b4, .int (nI ik), .ref b5, .int (nI ty), .int ra, .int rb, .int (nI rd), .int (nI iw), .ref b6, .int fl])), (b1, .inl (G.2.1, 618, .inl (arN uU.2.1))), (b3, .inl (G.2.1, 2472, .inl (arN uU.2.2)))] : va_W)) uU) tT.heap) (zIn [(b0, .inr (3, [.ref b1, .ref b2, .ref b3, .int (nI kn), .ref b4, .int (nI ik), .ref b5, .int (nI ty), .int ra, .int rb, .int (nI rd), .int (nI iw), .ref b6, .int fl])), (b1, .inl (G.2.1, 618, .inl (arN sg))), (b3, .inl (G.2.1, 2472, .inl (arN be)))])) 0 0 (zIn [(b0, .inr (3, [.ref b1, .ref b2, .ref b3, .int (nI kn), .ref b4, .int (nI ik), .ref b5, .int (nI ty), .int ra, .int rb, .int (nI rd), .int (nI iw), .ref b6, .int fl])), (b1, .inl (G.2.1, 618, .inl (arN sg))), (b3, .inl (G.2.1, 2472, .inl (arN be)))]) := by
  refine zM (cc := cX3_addCaption) (maxL := 6) (ret := (some .int)) (by decide) rfl (Nat.le_of_ble_eq_true rfl) ?_
  intro pP eE sS mM below meth cC hx hb hr hts hown hlk hml hnm hK hN hP hD hS ls hl
  have hl : lv_has ls 6 [(0, .ref b0), (1, .int x), (2, .int y), (3, .int aw), (4, .int af)] := hl
  refine lv_aload_n hx hb dX3_addCaption_0 rfl (lv_at hl 0 rfl) ?_
  refine lv_iload_n hx hb dX3_addCaption_1 rfl (lv_at hl 1 rfl) ?_
  refine lv_iload_n hx hb dX3_addCaption_2 rfl (lv_at hl 2 rfl) ?_
  refine lv_iload_n hx hb dX3_addCaption_3 rfl (lv_at hl 3 rfl) ?_
  refine lv_iload hx hb dX3_addCaption_4 (lv_at hl 4 rfl) ?_
  refine zc_R (As := [.int x, .int y, .int aw, .int af]) (rest := []) ⟨hx, hb, hml, hown, hts⟩ (c_captionFault l G b0 b1 b2 b3 b4 b5 b6 kn ik ty ra rb rd iw fl sg x y aw af (by omega)) (cwV 4 hts gX3_addCaption_X3_captionFault rfl rfl rfl (by decide +kernel) ⟨Nat.le_of_ble_eq_true rfl, Nat.le_of_ble_eq_true rfl⟩) hK hN hP hD [0, 1] rfl (by decide) (ci := 3) rfl rfl rfl hl.1 rfl (Nat.le_of_ble_eq_true rfl) dX3_addCaption_6 ⟨Nat.zero_le _, Nat.zero_le _⟩ (fun r6 h6 => ?_)
  rcases h6 with ⟨h6_0, rfl⟩ | ⟨eX_6, tX_6, h6_0, h6_1, rfl, rfl, h6_4, rfl⟩ | ⟨eX_6, tX_6, wX_6, fX_6, h6_0, h6_1, rfl, rfl, h6_4, h6_5, h6_6, rfl, rfl, h6_9, rfl⟩ | ⟨eX_6, tX_6, wX_6, fX_6, h6_0, h6_1, rfl, rfl, h6_4, h6_5, h6_6, rfl, rfl, h6_9, h6_10, rfl⟩ | ⟨eX_6, tX_6, wX_6, fX_6, h6_0, h6_1, rfl, rfl, h6_4, h6_5, h6_6, rfl, rfl, h6_9, h6_10, rfl⟩
  · refine lv_istore (lv' := [(5, .int (-1)), (0, .ref b0), (1, .int x), (2, .int y), (3, .int aw), (4, .int af)]) hx hb dX3_addCaption_9 hl (by decide) rfl (fun ls hl => ?_)
    refine lv_iload hx hb dX3_addCaption_11 (lv_at hl 0 rfl) ?_
    refine lv_if_ge (tgt := 19) hx hb dX3_addCaption_13 (by decide) (fun q => absurd q (by decide)) (fun _ => ?_)
    refine lv_iload hx hb dX3_addCaption_16 (lv_at hl 0 rfl) ?_
    exact W.iret (v := (-1)) hx hb hr (fun tT ht hW => ⟨⟨_, (kn, sg, be), rfl, Or.inl ⟨h6_0, rfl, rfl⟩, by show va_P G.1 vwCl _ tT.heap; rw [ht]; exact hP⟩, hS.F ht⟩) hS.2.2 dX3_addCaption_18
  · refine lv_istore (lv' := [(5, .int (-2)), (0, .ref b0), (1, .int (nI eX_6)), (2, .int (nI tX_6)), (3, .int aw), (4, .int af)]) hx hb dX3_addCaption_9 hl (by decide) rfl (fun ls hl => ?_)
    refine lv_iload hx hb dX3_addCaption_11 (lv_at hl 0 rfl) ?_
    refine lv_if_ge (tgt := 19) hx hb dX3_addCaption_13 (by decide) (fun q => absurd q (by decide)) (fun _ => ?_)
    refine lv_iload hx hb dX3_addCaption_16 (lv_at hl 0 rfl) ?_
    exact W.iret (v := (-2)) hx hb hr (fun tT ht hW => ⟨⟨_, (kn, sg, be), rfl, Or.inr (Or.inl ⟨eX_6, tX_6, h6_0, h6_1, rfl, rfl, h6_4, rfl, rfl⟩), by show va_P G.1 vwCl _ tT.heap; rw [ht]; exact hP⟩, hS.F ht⟩) hS.2.2 dX3_addCaption_18
  · refine lv_istore (lv' := [(5, .int (-4)), (0, .ref b0), (1, .int (nI eX_6)), (2, .int (nI tX_6)), (3, .int (nI wX_6)), (4, .int (nI fX_6))]) hx hb dX3_addCaption_9 hl (by decide) rfl (fun ls hl => ?_)
    refine lv_iload hx hb dX3_addCaption_11 (lv_at hl 0 rfl) ?_
    refine lv_if_ge (tgt := 19) hx hb dX3_addCaption_13 (by decide) (fun q => absurd q (by decide)) (fun _ => ?_)
    refine lv_iload hx hb dX3_addCaption_16 (lv_at hl 0 rfl) ?_
    exact W.iret (v := (-4)) hx hb hr (fun tT ht hW => ⟨⟨_, (kn, sg, be), rfl, Or.inr (Or.inr (Or.inl ⟨eX_6, tX_6, wX_6, fX_6, h6_0, h6_1, rfl, rfl, h6_4, h6_5, h6_6, rfl, rfl, h6_9, rfl, rfl⟩)), by show va_P G.1 vwCl _ tT.heap; rw [ht]; exact hP⟩, hS.F ht⟩) hS.2.2 dX3_addCaption_18
  · refine lv_istore (lv' := [(5, .int (-3)), (0, .ref b0), (1, .int (nI eX_6)), (2, .int (nI tX_6)), (3, .int (nI wX_6)), (4, .int (nI fX_6))]) hx hb dX3_addCaption_9 hl (by decide) rfl (fun ls hl => ?_)
    refine lv_iload hx hb dX3_addCaption_11 (lv_at hl 0 rfl) ?_
    refine lv_if_ge (tgt := 19) hx hb dX3_addCaption_13 (by decide) (fun q => absurd q (by decide)) (fun _ => ?_)
    refine lv_iload hx hb dX3_addCaption_16 (lv_at hl 0 rfl) ?_
    exact W.iret (v := (-3)) hx hb hr (fun tT ht hW => ⟨⟨_, (kn, sg, be), rfl, Or.inr (Or.inr (Or.inr (Or.inl ⟨eX_6, tX_6, wX_6, fX_6, h6_0, h6_1, rfl, rfl, h6_4, h6_5, h6_6, rfl, rfl, h6_9, h6_10, rfl, rfl⟩))), by show va_P G.1 vwCl _ tT.heap; rw [ht]; exact hP⟩, hS.F ht⟩) hS.2.2 dX3_addCaption_18
  · refine lv_istore (lv' := [(5, .int (nI 0)), (0, .ref b0), (1, .int (nI eX_6)), (2, .int (nI tX_6)), (3, .int (nI wX_6)), (4, .int (nI fX_6))]) hx hb dX3_addCaption_9 hl (by decide) rfl (fun ls hl => ?_)
    refine lv_iload hx hb dX3_addCaption_11 (lv_at hl 0 rfl) ?_
    refine lv_if_ge (tgt := 19) hx hb dX3_addCaption_13 (by decide) (fun _ => ?_) (fun q => absurd (by decide) q)
    refine lv_aload_n hx hb dX3_addCaption_19 rfl (lv_at hl 1 rfl) ?_
    refine zc_U (As := []) (rest := []) (ws2 := (fun (uU : Nat × (Nat → Nat)) => ([(b0, .inr (3, [.ref b1, .ref b2, .ref b3, .int (nI uU.1), .ref b4, .int (nI ik), .ref b5, .int (nI ty), .int ra, .int rb, .int (nI rd), .int (nI iw), .ref b6, .int fl])), (b1, .inl (G.2.1, 618, .inl (arN sg))), (b3, .inl (G.2.1, 2472, .inl (arN uU.2)))] : va_W))) ⟨hx, hb, hml, hown, hts⟩ (c_know l G b0 b1 b2 b3 b4 b5 b6 kn ik ty ra rb rd iw fl sg be (by omega)) (cwV 0 hts gX3_addCaption_X3_know rfl rfl rfl (by decide +kernel) ⟨Nat.le_of_ble_eq_true rfl, Nat.le_of_ble_eq_true rfl⟩) hK hN hP hD hS [0, 1, 2] rfl (by decide) (ci := 3) rfl rfl (fun _ => rfl) (fun _ => rfl) rfl hl.1 rfl (Nat.le_of_ble_eq_true rfl) dX3_addCaption_20 ⟨Nat.zero_le _, Nat.zero_le _⟩ (fun u20 H locs h20 hP hD hS => ?_)
    subst h20
    have hP : va_P G.1 vwCl [(b0, .inr (3, [.ref b1, .ref b2, .ref b3, .int (nI (knK kn)), .ref b4, .int (nI ik), .ref b5, .int (nI ty), .int ra, .int rb, .int (nI rd), .int (nI iw), .ref b6, .int fl])), (b1, .inl (G.2.1, 618, .inl (arN sg))), (b3, .inl (G.2.1, 2472, .inl (arN (knB kn be sg))))] H := hP
    have hD : va_D (zIn [(b0, .inr (3, [.ref b1, .ref b2, .ref b3, .int (nI kn), .ref b4, .int (nI ik), .ref b5, .int (nI ty), .int ra, .int rb, .int (nI rd), .int (nI iw), .ref b6, .int fl])), (b1, .inl (G.2.1, 618, .inl (arN sg))), (b3, .inl (G.2.1, 2472, .inl (arN be)))]) [(b0, .inr (3, [.ref b1, .ref b2, .ref b3, .int (nI (knK kn)), .ref b4, .int (nI ik), .ref b5, .int (nI ty), .int ra, .int rb, .int (nI rd), .int (nI iw), .ref b6, .int fl])), (b1, .inl (G.2.1, 618, .inl (arN sg))), (b3, .inl (G.2.1, 2472, .inl (arN (knB kn be sg))))] := hD
    refine lv_aload_n hx hb dX3_addCaption_23 rfl (lv_at hl 1 rfl) ?_
    refine lv_iload_n hx hb dX3_addCaption_24 rfl (lv_at hl 2 rfl) ?_
    refine lv_iload_n hx hb dX3_addCaption_25 rfl (lv_at hl 3 rfl) ?_
    refine lv_iload_n hx hb dX3_addCaption_26 rfl (lv_at hl 4 rfl) ?_
    refine lv_iload hx hb dX3_addCaption_27 (lv_at hl 5 rfl) ?_
    have hz := hM.2.1 eX_6 h6_0
    refine zc_V (As := [.int (nI eX_6), .int (nI tX_6), .int (nI wX_6), .int (nI fX_6)]) (rest := []) (ws2 := (fun (uU : (Nat → Nat)) => ([(b0, .inr (3, [.ref b1, .ref b2, .ref b3, .int (nI (knK kn)), .ref b4, .int (nI ik), .ref b5, .int (nI ty), .int ra, .int rb, .int (nI rd), .int (nI iw), .ref b6, .int fl])), (b1, .inl (G.2.1, 618, .inl (arN uU))), (b3, .inl (G.2.1, 2472, .inl (arN (knB kn be sg))))] : va_W))) ⟨hx, hb, hml, hown, hts⟩ (c_addsCaption l G b0 b1 b2 b3 b4 b5 b6 (knK kn) ik ty ra rb rd iw fl sg eX_6 tX_6 wX_6 fX_6 (by omega) (by omega) (by omega)) (cwV 4 hts gX3_addCaption_X3_addsCaption rfl rfl rfl (by decide +kernel) ⟨Nat.le_of_ble_eq_true rfl, Nat.le_of_ble_eq_true rfl⟩) hK hN hP hD hS [0, 1] rfl (by decide) (ci := 3) rfl rfl (fun _ => rfl) (fun _ => rfl) rfl hl.1 rfl (Nat.le_of_ble_eq_true rfl) dX3_addCaption_29 ⟨Nat.zero_le _, Nat.zero_le _⟩ (fun r29 u29 H locs h29 hP hD hS => ?_)
    obtain ⟨rfl, rfl⟩ := h29
    have hP : va_P G.1 vwCl [(b0, .inr (3, [.ref b1, .ref b2, .ref b3, .int (nI (knK kn)), .ref b4, .int (nI ik), .ref b5, .int (nI ty), .int ra, .int rb, .int (nI rd), .int (nI iw), .ref b6, .int fl])), (b1, .inl (G.2.1, 618, .inl (arN (addC sg eX_6 tX_6 wX_6 fX_6)))), (b3, .inl (G.2.1, 2472, .inl (arN (knB kn be sg))))] H := hP
    have hD : va_D (zIn [(b0, .inr (3, [.ref b1, .ref b2, .ref b3, .int (nI kn), .ref b4, .int (nI ik), .ref b5, .int (nI ty), .int ra, .int rb, .int (nI rd), .int (nI iw), .ref b6, .int fl])), (b1, .inl (G.2.1, 618, .inl (arN sg))), (b3, .inl (G.2.1, 2472, .inl (arN be)))]) [(b0, .inr (3, [.ref b1, .ref b2, .ref b3, .int (nI (knK kn)), .ref b4, .int (nI ik), .ref b5, .int (nI ty), .int ra, .int rb, .int (nI rd), .int (nI iw), .ref b6, .int fl])), (b1, .inl (G.2.1, 618, .inl (arN (addC sg eX_6 tX_6 wX_6 fX_6)))), (b3, .inl (G.2.1, 2472, .inl (arN (knB kn be sg))))] := hD
    exact W.iret (v := nI (sg (11 + 76 * eX_6 + 15 * tX_6 + 5))) hx hb hr (fun tT ht hW => ⟨⟨_, (knK kn, addC sg eX_6 tX_6 wX_6 fX_6, knB kn be sg), rfl, Or.inr (Or.inr (Or.inr (Or.inr ⟨eX_6, tX_6, wX_6, fX_6, h6_0, h6_1, rfl, rfl, h6_4, h6_5, h6_6, rfl, rfl, h6_9, h6_10, rfl, rfl⟩))), by show va_P G.1 vwCl _ tT.heap; rw [ht]; exact hP⟩, hS.F ht⟩) hS.2.2 dX3_addCaption_32
set_option maxRecDepth 100000 in
theorem mwc_removeText_0 : Cond.fieldLink RX3 7 "ExhibitTextsModel" "s" "[I" ∈ wsX3_removeText := by decide +kernel
set_option maxRecDepth 100000 in
theorem mic_removeText_3 : ∀ w ∈ u_ws RX3 TX3 14, w ∈ wsX3_removeText := by decide +kernel
set_option maxHeartbeats 4000000 in
set_option maxRecDepth 100000 in
/-- X3_removeText: removeText -/
theorem c_removeText (l : Launch) (G : zG) (b0 : Nat) (b1 : Nat) (b2 : Nat) (b3 : Nat) (b4 : Nat) (b5 : Nat) (b6 : Nat) (kn : Nat) (ik : Nat) (ty : Nat) (ra : Int32) (rb : Int32) (rd : Nat) (iw : Nat) (fl : Int32) (sg : Nat → Nat) (be : Nat → Nat) (x : Int32) (y : Int32) (hM : mOK sg) (hkn : kn ≤ 4) : Met l yX3_removeText wsX3_removeText ({ frames := 3, cells := 0, slots := 0, locals := 64 } : Room) (zPc G [.ref b0, .int x, .int y] [(b0, .inr (3, [.ref b1, .ref b2, .ref b3, .int (nI kn), .ref b4, .int (nI ik), .ref b5, .int (nI ty), .int ra, .int rb, .int (nI rd), .int (nI iw), .ref b6, .int fl])), (b1, .inl (G.2.1, 618, .inl (arN sg))), (b3, .inl (G.2.1, 2472, .inl (arN be)))]) (va_Qi (fun (rR : Int32) (uU : Nat × (Nat → Nat) × (Nat → Nat)) => (¬ pTn (fun e => sg (10 + 76 * e)) x y ∧ rR = (-1) ∧ uU = (kn, sg, be)) ∨ (∃ (eX : Nat) (tX : Nat), eX < 8 ∧ tX < sg (10 + 76 * eX) ∧ x = nI eX ∧ y = nI tX ∧ rR = nI (sg (10 + 76 * eX) - 1) ∧ uU = (knK kn, rmT sg eX tX, knB kn be sg))) (fun uU tT => va_P G.1 vwCl ((fun (uU : Nat × (Nat → Nat) × (Nat → Nat)) => ([(b0, .inr (3, [.ref b1, .ref b2, .ref b3, .int (nI uU.1), .ref b4, .int (nI ik), .ref b5, .int (nI ty), .int ra, .int rb, .int (nI rd), .int (nI iw), .ref b6, .int fl])), (b1, .inl (G.2.1, 618, .inl (arN uU.2.1))), (b3, .inl (G.2.1, 2472, .inl (arN uU.2.2)))] : va_W)) uU) tT.heap) (zIn [(b0, .inr (3, [.ref b1, .ref b2, .ref b3, .int (nI kn), .ref b4, .int (nI ik), .ref b5, .int (nI ty), .int ra, .int rb, .int (nI rd), .int (nI iw), .ref b6, .int fl])), (b1, .inl (G.2.1, 618, .inl (arN sg))), (b3, .inl (G.2.1, 2472, .inl (arN be)))])) 0 0 (zIn [(b0, .inr (3, [.ref b1, .ref b2, .ref b3, .int (nI kn), .ref b4, .int (nI ik), .ref b5, .int (nI ty), .int ra, .int rb, .int (nI rd), .int (nI iw), .ref b6, .int fl])), (b1, .inl (G.2.1, 618, .inl (arN sg))), (b3, .inl (G.2.1, 2472, .inl (arN be)))]) := by
  refine zM (cc := cX3_removeText) (maxL := 4) (ret := (some .int)) (by decide) rfl (Nat.le_of_ble_eq_true rfl) ?_
  intro pP eE sS mM below meth cC hx hb hr hts hown hlk hml hnm hK hN hP hD hS ls hl
  have hl : lv_has ls 4 [(0, .ref b0), (1, .int x), (2, .int y)] := hl
  refine lv_aload_n hx hb dX3_removeText_0 rfl (lv_at hl 0 rfl) ?_
  refine lv_iload_n hx hb dX3_removeText_1 rfl (lv_at hl 1 rfl) ?_
  refine lv_iload_n hx hb dX3_removeText_2 rfl (lv_at hl 2 rfl) ?_
  refine zc_R (As := [.int x, .int y]) (rest := []) ⟨hx, hb, hml, hown, hts⟩ (c_isText l G b0 b1 b2 b3 b4 b5 b6 kn ik ty ra rb rd iw fl sg x y (by omega)) (cwV 2 hts gX3_removeText_X3_isText rfl rfl rfl (by decide +kernel) ⟨Nat.le_of_ble_eq_true rfl, Nat.le_of_ble_eq_true rfl⟩) hK hN hP hD [0, 1] rfl (by decide) (ci := 3) rfl rfl rfl hl.1 rfl (Nat.le_of_ble_eq_true rfl) dX3_removeText_3 ⟨Nat.zero_le _, Nat.zero_le _⟩ (fun r3 h3 => ?_)
  rcases h3 with ⟨eX_3, tX_3, h3_0, h3_1, rfl, rfl, rfl⟩ | ⟨h3_0, rfl⟩
  · have hz := hM.2.1 eX_3 h3_0
    refine lv_if_ne (tgt := 11) hx hb dX3_removeText_6 (by decide) (fun _ => ?_) (fun q => absurd q (by decide))
    refine lv_aload_n hx hb dX3_removeText_11 rfl (lv_at hl 0 rfl) ?_
    refine zc_U (As := []) (rest := []) (ws2 := (fun (uU : Nat × (Nat → Nat)) => ([(b0, .inr (3, [.ref b1, .ref b2, .ref b3, .int (nI uU.1), .ref b4, .int (nI ik), .ref b5, .int (nI ty), .int ra, .int rb, .int (nI rd), .int (nI iw), .ref b6, .int fl])), (b1, .inl (G.2.1, 618, .inl (arN sg))), (b3, .inl (G.2.1, 2472, .inl (arN uU.2)))] : va_W))) ⟨hx, hb, hml, hown, hts⟩ (c_know l G b0 b1 b2 b3 b4 b5 b6 kn ik ty ra rb rd iw fl sg be (by omega)) (cwV 0 hts gX3_removeText_X3_know rfl rfl rfl (by decide +kernel) ⟨Nat.le_of_ble_eq_true rfl, Nat.le_of_ble_eq_true rfl⟩) hK hN hP hD hS [0, 1, 2] rfl (by decide) (ci := 3) rfl rfl (fun _ => rfl) (fun _ => rfl) rfl hl.1 rfl (Nat.le_of_ble_eq_true rfl) dX3_removeText_12 ⟨Nat.zero_le _, Nat.zero_le _⟩ (fun u12 H locs h12 hP hD hS => ?_)
    subst h12
    have hP : va_P G.1 vwCl [(b0, .inr (3, [.ref b1, .ref b2, .ref b3, .int (nI (knK kn)), .ref b4, .int (nI ik), .ref b5, .int (nI ty), .int ra, .int rb, .int (nI rd), .int (nI iw), .ref b6, .int fl])), (b1, .inl (G.2.1, 618, .inl (arN sg))), (b3, .inl (G.2.1, 2472, .inl (arN (knB kn be sg))))] H := hP
    have hD : va_D (zIn [(b0, .inr (3, [.ref b1, .ref b2, .ref b3, .int (nI kn), .ref b4, .int (nI ik), .ref b5, .int (nI ty), .int ra, .int rb, .int (nI rd), .int (nI iw), .ref b6, .int fl])), (b1, .inl (G.2.1, 618, .inl (arN sg))), (b3, .inl (G.2.1, 2472, .inl (arN be)))]) [(b0, .inr (3, [.ref b1, .ref b2, .ref b3, .int (nI (knK kn)), .ref b4, .int (nI ik), .ref b5, .int (nI ty), .int ra, .int rb, .int (nI rd), .int (nI iw), .ref b6, .int fl])), (b1, .inl (G.2.1, 618, .inl (arN sg))), (b3, .inl (G.2.1, 2472, .inl (arN (knB kn be sg))))] := hD
    refine lv_iload_n hx hb dX3_removeText_15 rfl (lv_at hl 1 rfl) ?_
    refine lv_iload_n hx hb dX3_removeText_16 rfl (lv_at hl 2 rfl) ?_
    refine lv_iconst (v := nI 0) hx hb dX3_removeText_17 (by decide) ?_
    refine zc_S (As := [.int (nI eX_3), .int (nI tX_3), .int (nI 0)]) (rest := []) ⟨hx, hb, hml, hown, hts⟩ (c_of l eX_3 tX_3 0 ) (va_cwS 3 hts gX3_removeText_X3_of rfl rfl rfl (by decide +kernel) ⟨Nat.le_of_ble_eq_true rfl, Nat.le_of_ble_eq_true rfl⟩) rfl hl.1 rfl (Nat.le_of_ble_eq_true rfl) dX3_removeText_18 ⟨Nat.zero_le _, Nat.zero_le _⟩ (fun r18 h18 => ?_)
    subst h18
    refine lv_istore_n (lv' := [(3, .int (nI (11 + 76 * eX_3 + 15 * tX_3 + 0))), (0, .ref b0), (1, .int (nI eX_3)), (2, .int (nI tX_3))]) hx hb dX3_removeText_21 rfl hl (by decide) rfl (fun ls hl => ?_)
    have lp22 : ∀ (fu22 : Nat), ∀ (kX : Nat) (H : Heap) (locs : List Loc) (ls : Array Slot), (15 * (sg (10 + 76 * eX_3) - 1 - tX_3) - kX) < fu22 → (kX ≤ 15 * (sg (10 + 76 * eX_3) - 1 - tX_3)) → va_P G.1 vwCl [(b0, .inr (3, [.ref b1, .ref b2, .ref b3, .int (nI (knK kn)), .ref b4, .int (nI ik), .ref b5, .int (nI ty), .int ra, .int rb, .int (nI rd), .int (nI iw), .ref b6, .int fl])), (b1, .inl (G.2.1, 618, .inl (arN (sfF sg (11 + 76 * eX_3 + 15 * tX_3 + 0) 15 kX)))), (b3, .inl (G.2.1, 2472, .inl (arN (knB kn be sg))))] H → va_D (zIn [(b0, .inr (3, [.ref b1, .ref b2, .ref b3, .int (nI kn), .ref b4, .int (nI ik), .ref b5, .int (nI ty), .int ra, .int rb, .int (nI rd), .int (nI iw), .ref b6, .int fl])), (b1, .inl (G.2.1, 618, .inl (arN sg))), (b3, .inl (G.2.1, 2472, .inl (arN be)))]) [(b0, .inr (3, [.ref b1, .ref b2, .ref b3, .int (nI (knK kn)), .ref b4, .int (nI ik), .ref b5, .int (nI ty), .int ra, .int rb, .int (nI rd), .int (nI iw), .ref b6, .int fl])), (b1, .inl (G.2.1, 618, .inl (arN (sfF sg (11 + 76 * eX_3 + 15 * tX_3 + 0) 15 kX)))), (b3, .inl (G.2.1, 2472, .inl (arN (knB kn be sg))))] → va_S (zIn [(b0, .inr (3, [.ref b1, .ref b2, .ref b3, .int (nI kn), .ref b4, .int (nI ik), .ref b5, .int (nI ty), .int ra, .int rb, .int (nI rd), .int (nI iw), .ref b6, .int fl])), (b1, .inl (G.2.1, 618, .inl (arN sg))), (b3, .inl (G.2.1, 2472, .inl (arN be)))]) sS.heap H locs → lv_has ls 4 [(0, .ref b0), (1, .int (nI eX_3)), (2, .int (nI tX_3)), (3, .int (nI (11 + 76 * eX_3 + 15 * tX_3 + 0 + kX)))] → W pP l eE (headSpec wsX3_removeText ({ frames := 3, cells := 0, slots := 0, locals := 64 } : Room)).room sS mM ([.ref b0, .int (nI eX_3), .int (nI tX_3)] : List Value).toArray below meth cC H locs 0 0 (MQ below (va_Qi (fun (rR : Int32) (uU : Nat × (Nat → Nat) × (Nat → Nat)) => (¬ pTn (fun e => sg (10 + 76 * e)) (nI eX_3) (nI tX_3) ∧ rR = (-1) ∧ uU = (kn, sg, be)) ∨ (∃ (eX : Nat) (tX : Nat), eX < 8 ∧ tX < sg (10 + 76 * eX) ∧ (nI eX_3) = nI eX ∧ (nI tX_3) = nI tX ∧ rR = nI (sg (10 + 76 * eX) - 1) ∧ uU = (knK kn, rmT sg eX tX, knB kn be sg))) (fun uU tT => va_P G.1 vwCl ((fun (uU : Nat × (Nat → Nat) × (Nat → Nat)) => ([(b0, .inr (3, [.ref b1, .ref b2, .ref b3, .int (nI uU.1), .ref b4, .int (nI ik), .ref b5, .int (nI ty), .int ra, .int rb, .int (nI rd), .int (nI iw), .ref b6, .int fl])), (b1, .inl (G.2.1, 618, .inl (arN uU.2.1))), (b3, .inl (G.2.1, 2472, .inl (arN uU.2.2)))] : va_W)) uU) tT.heap) (zIn [(b0, .inr (3, [.ref b1, .ref b2, .ref b3, .int (nI kn), .ref b4, .int (nI ik), .ref b5, .int (nI ty), .int ra, .int rb, .int (nI rd), .int (nI iw), .ref b6, .int fl])), (b1, .inl (G.2.1, 618, .inl (arN sg))), (b3, .inl (G.2.1, 2472, .inl (arN be)))])) ([.ref b0, .int (nI eX_3), .int (nI tX_3)] : List Value).toArray sS 0 0 (zIn [(b0, .inr (3, [.ref b1, .ref b2, .ref b3, .int (nI kn), .ref b4, .int (nI ik), .ref b5, .int (nI ty), .int ra, .int rb, .int (nI rd), .int (nI iw), .ref b6, .int fl])), (b1, .inl (G.2.1, 618, .inl (arN sg))), (b3, .inl (G.2.1, 2472, .inl (arN be)))])) (F0 mM 22 ls []) := by
      intro fu22
      induction fu22 with
      | zero => intro kX H locs ls hfu22; exact absurd hfu22 (Nat.not_lt_zero _)
      | succ fu22 ih22 =>
        intro kX H locs ls hfu22 hk hP hD hS hl
        refine lv_iload_n hx hb dX3_removeText_22 rfl (lv_at hl 3 rfl) ?_
        refine lv_iload_n hx hb dX3_removeText_23 rfl (lv_at hl 1 rfl) ?_
        refine lv_aload_n hx hb dX3_removeText_24 rfl (lv_at hl 0 rfl) ?_
        refine va_get (D := G.1) (ci := 3) (v := .ref b1) (C := RX3) (T := TX3) (N := 14) hx hb hts mic_removeText_3 hown hK hP 0 rfl rfl 0 (by decide) (hts _ mwc_removeText_0) (fun _ h9 => h9) rfl dX3_removeText_25 ?_
        refine lv_iload_n hx hb dX3_removeText_28 rfl (lv_at hl 1 rfl) ?_
        refine zc_S (As := [.int (nI eX_3)]) (rest := [.ref b1, .int (nI eX_3), .int (nI (11 + 76 * eX_3 + 15 * tX_3 + 0 + kX))]) ⟨hx, hb, hml, hown, hts⟩ (c_manyAt l eX_3 ) (va_cwS 1 hts gX3_removeText_X3_manyAt rfl rfl rfl (by decide +kernel) ⟨Nat.le_of_ble_eq_true rfl, Nat.le_of_ble_eq_true rfl⟩) rfl hl.1 rfl (Nat.le_of_ble_eq_true rfl) dX3_removeText_29 ⟨Nat.zero_le _, Nat.zero_le _⟩ (fun r29 h29 => ?_)
        subst h29
        refine zk_ald (f := sfF sg (11 + 76 * eX_3 + 15 * tX_3 + 0) 15 kX) (k := 10 + 76 * eX_3) hx hb hK hP 1 0 rfl rfl (Nat.le_of_ble_eq_true rfl) (by omega) dX3_removeText_32 ?_
        refine zk_top (y := nI (sg (10 + 76 * eX_3))) (congrArg nI (sfF_out (by omega))) ?_
        refine lv_iconst (v := nI 1) hx hb dX3_removeText_33 (by decide) ?_
        refine zk_sub hx hb dX3_removeText_34 (by omega) ?_
        refine lv_iconst (v := nI 0) hx hb dX3_removeText_35 (by decide) ?_
        refine zc_S (As := [.int (nI eX_3), .int (nI ((sg (10 + 76 * eX_3)) - 1)), .int (nI 0)]) (rest := [.int (nI (11 + 76 * eX_3 + 15 * tX_3 + 0 + kX))]) ⟨hx, hb, hml, hown, hts⟩ (c_of l eX_3 ((sg (10 + 76 * eX_3)) - 1) 0 ) (va_cwS 3 hts gX3_removeText_X3_of rfl rfl rfl (by decide +kernel) ⟨Nat.le_of_ble_eq_true rfl, Nat.le_of_ble_eq_true rfl⟩) rfl hl.1 rfl (Nat.le_of_ble_eq_true rfl) dX3_removeText_36 ⟨Nat.zero_le _, Nat.zero_le _⟩ (fun r36 h36 => ?_)
        subst h36
        refine zk_ige (tgt := 63) hx hb dX3_removeText_39 (by decide) (by omega) (by omega) (fun c39 => ?_) (fun c39 => ?_)
        · have hk9 : kX = 15 * (sg (10 + 76 * eX_3) - 1 - tX_3) := by omega
          subst hk9
          refine lv_aload_n hx hb dX3_removeText_63 rfl (lv_at hl 0 rfl) ?_
          refine va_get (D := G.1) (ci := 3) (v := .ref b1) (C := RX3) (T := TX3) (N := 14) hx hb hts mic_removeText_3 hown hK hP 0 rfl rfl 0 (by decide) (hts _ mwc_removeText_0) (fun _ h9 => h9) rfl dX3_removeText_64 ?_
          refine lv_iload_n hx hb dX3_removeText_67 rfl (lv_at hl 1 rfl) ?_
          refine zc_S (As := [.int (nI eX_3)]) (rest := [.ref b1]) ⟨hx, hb, hml, hown, hts⟩ (c_manyAt l eX_3 ) (va_cwS 1 hts gX3_removeText_X3_manyAt rfl rfl rfl (by decide +kernel) ⟨Nat.le_of_ble_eq_true rfl, Nat.le_of_ble_eq_true rfl⟩) rfl hl.1 rfl (Nat.le_of_ble_eq_true rfl) dX3_removeText_68 ⟨Nat.zero_le _, Nat.zero_le _⟩ (fun r68 h68 => ?_)
          subst h68
          refine lv_dup2_11 hx hb dX3_removeText_71 rfl rfl ?_
          refine zk_ald (f := sfF sg (11 + 76 * eX_3 + 15 * tX_3 + 0) 15 (15 * (sg (10 + 76 * eX_3) - 1 - tX_3))) (k := 10 + 76 * eX_3) hx hb hK hP 1 0 rfl rfl (Nat.le_of_ble_eq_true rfl) (by omega) dX3_removeText_72 ?_
          refine zk_top (y := nI (sg (10 + 76 * eX_3))) (congrArg nI (sfF_out (by omega))) ?_
          refine lv_iconst (v := nI 1) hx hb dX3_removeText_73 (by decide) ?_
          refine zk_sub hx hb dX3_removeText_74 (by omega) ?_
          refine zk_ast (f := sfF sg (11 + 76 * eX_3 + 15 * tX_3 + 0) 15 (15 * (sg (10 + 76 * eX_3) - 1 - tX_3))) (k := 10 + 76 * eX_3) (v := (sg (10 + 76 * eX_3)) - 1) (ws2 := [(b0, .inr (3, [.ref b1, .ref b2, .ref b3, .int (nI (knK kn)), .ref b4, .int (nI ik), .ref b5, .int (nI ty), .int ra, .int rb, .int (nI rd), .int (nI iw), .ref b6, .int fl])), (b1, .inl (G.2.1, 618, .inl (arN (arU (sfF sg (11 + 76 * eX_3 + 15 * tX_3 + 0) 15 (15 * (sg (10 + 76 * eX_3) - 1 - tX_3))) (10 + 76 * eX_3) ((sg (10 + 76 * eX_3)) - 1))))), (b3, .inl (G.2.1, 2472, .inl (arN (knB kn be sg))))]) hx hb hK hP hD hS 1 0 rfl rfl (Nat.le_of_ble_eq_true rfl) (by omega) rfl dX3_removeText_75 (fun H locs hP hD hS => ?_)
          refine lv_aload_n hx hb dX3_removeText_76 rfl (lv_at hl 0 rfl) ?_
          refine va_get (D := G.1) (ci := 3) (v := .ref b1) (C := RX3) (T := TX3) (N := 14) hx hb hts mic_removeText_3 hown hK hP 0 rfl rfl 0 (by decide) (hts _ mwc_removeText_0) (fun _ h9 => h9) rfl dX3_removeText_77 ?_
          refine lv_iload_n hx hb dX3_removeText_80 rfl (lv_at hl 1 rfl) ?_
          refine zc_S (As := [.int (nI eX_3)]) (rest := [.ref b1]) ⟨hx, hb, hml, hown, hts⟩ (c_manyAt l eX_3 ) (va_cwS 1 hts gX3_removeText_X3_manyAt rfl rfl rfl (by decide +kernel) ⟨Nat.le_of_ble_eq_true rfl, Nat.le_of_ble_eq_true rfl⟩) rfl hl.1 rfl (Nat.le_of_ble_eq_true rfl) dX3_removeText_81 ⟨Nat.zero_le _, Nat.zero_le _⟩ (fun r81 h81 => ?_)
          subst h81
          refine zk_ald (f := arU (sfF sg (11 + 76 * eX_3 + 15 * tX_3 + 0) 15 (15 * (sg (10 + 76 * eX_3) - 1 - tX_3))) (10 + 76 * eX_3) ((sg (10 + 76 * eX_3)) - 1)) (k := 10 + 76 * eX_3) hx hb hK hP 1 0 rfl rfl (Nat.le_of_ble_eq_true rfl) (by omega) dX3_removeText_84 ?_
          refine zk_top (y := nI ((sg (10 + 76 * eX_3)) - 1)) (congrArg nI (arU_s _ _ _)) ?_
          exact W.iret (v := nI ((sg (10 + 76 * eX_3)) - 1)) hx hb hr (fun tT ht hW => ⟨⟨_, (knK kn, arU (sfF sg (11 + 76 * eX_3 + 15 * tX_3 + 0) 15 (15 * (sg (10 + 76 * eX_3) - 1 - tX_3))) (10 + 76 * eX_3) ((sg (10 + 76 * eX_3)) - 1), knB kn be sg), rfl, Or.inr ⟨eX_3, tX_3, h3_0, h3_1, rfl, rfl, rfl, rfl⟩, by show va_P G.1 vwCl _ tT.heap; rw [ht]; exact hP⟩, hS.F ht⟩) hS.2.2 dX3_removeText_85
        · refine lv_aload_n hx hb dX3_removeText_42 rfl (lv_at hl 0 rfl) ?_
          refine va_get (D := G.1) (ci := 3) (v := .ref b1) (C := RX3) (T := TX3) (N := 14) hx hb hts mic_removeText_3 hown hK hP 0 rfl rfl 0 (by decide) (hts _ mwc_removeText_0) (fun _ h9 => h9) rfl dX3_removeText_43 ?_
          refine lv_iload_n hx hb dX3_removeText_46 rfl (lv_at hl 3 rfl) ?_
          refine lv_aload_n hx hb dX3_removeText_47 rfl (lv_at hl 0 rfl) ?_
          refine va_get (D := G.1) (ci := 3) (v := .ref b1) (C := RX3) (T := TX3) (N := 14) hx hb hts mic_removeText_3 hown hK hP 0 rfl rfl 0 (by decide) (hts _ mwc_removeText_0) (fun _ h9 => h9) rfl dX3_removeText_48 ?_
          refine lv_iload_n hx hb dX3_removeText_51 rfl (lv_at hl 3 rfl) ?_
          refine lv_bipush (v := nI 15) hx hb dX3_removeText_52 (by decide) ?_
          refine zk_add hx hb dX3_removeText_54 ?_
          refine zk_ald (f := sfF sg (11 + 76 * eX_3 + 15 * tX_3 + 0) 15 kX) (k := (11 + 76 * eX_3 + 15 * tX_3 + 0 + kX) + 15) hx hb hK hP 1 0 rfl rfl (Nat.le_of_ble_eq_true rfl) (by omega) dX3_removeText_55 ?_
          refine zk_top (y := nI (sg ((11 + 76 * eX_3 + 15 * tX_3 + 0 + kX) + 15))) (congrArg nI (sfF_out (by omega))) ?_
          refine zk_ast (f := sfF sg (11 + 76 * eX_3 + 15 * tX_3 + 0) 15 kX) (k := 11 + 76 * eX_3 + 15 * tX_3 + 0 + kX) (v := sg ((11 + 76 * eX_3 + 15 * tX_3 + 0 + kX) + 15)) (ws2 := [(b0, .inr (3, [.ref b1, .ref b2, .ref b3, .int (nI (knK kn)), .ref b4, .int (nI ik), .ref b5, .int (nI ty), .int ra, .int rb, .int (nI rd), .int (nI iw), .ref b6, .int fl])), (b1, .inl (G.2.1, 618, .inl (arN (arU (sfF sg (11 + 76 * eX_3 + 15 * tX_3 + 0) 15 kX) (11 + 76 * eX_3 + 15 * tX_3 + 0 + kX) (sg ((11 + 76 * eX_3 + 15 * tX_3 + 0 + kX) + 15)))))), (b3, .inl (G.2.1, 2472, .inl (arN (knB kn be sg))))]) hx hb hK hP hD hS 1 0 rfl rfl (Nat.le_of_ble_eq_true rfl) (by omega) rfl dX3_removeText_56 (fun H locs hP hD hS => ?_)
          have en : arU (sfF sg (11 + 76 * eX_3 + 15 * tX_3 + 0) 15 kX) (11 + 76 * eX_3 + 15 * tX_3 + 0 + kX) (sg ((11 + 76 * eX_3 + 15 * tX_3 + 0 + kX) + 15)) = sfF sg (11 + 76 * eX_3 + 15 * tX_3 + 0) 15 (kX + 1) := sfF_s rfl rfl
          rw [en] at hP hD
          refine zk_inc (a := 11 + 76 * eX_3 + 15 * tX_3 + 0 + kX) (d := 1) (lv' := [(3, .int (nI (11 + 76 * eX_3 + 15 * tX_3 + 0 + kX + 1))), (0, .ref b0), (1, .int (nI eX_3)), (2, .int (nI tX_3))]) hx hb dX3_removeText_57 hl (K := 3) rfl (by decide) (by decide) rfl (fun ls hl => ?_)
          refine lv_goto (tgt := 22) hx hb dX3_removeText_60 (by decide) ?_
          exact ih22 (kX + 1) _ _ _ (by omega) (by omega) hP hD hS (lv_sub hl [1, 2, 3, 0] rfl)
    have eq0 : sg = sfF sg (11 + 76 * eX_3 + 15 * tX_3 + 0) 15 0 := sfF_0 _ _ _
    have hP : va_P G.1 vwCl [(b0, .inr (3, [.ref b1, .ref b2, .ref b3, .int (nI (knK kn)), .ref b4, .int (nI ik), .ref b5, .int (nI ty), .int ra, .int rb, .int (nI rd), .int (nI iw), .ref b6, .int fl])), (b1, .inl (G.2.1, 618, .inl (arN (sfF sg (11 + 76 * eX_3 + 15 * tX_3 + 0) 15 0)))), (b3, .inl (G.2.1, 2472, .inl (arN (knB kn be sg))))] H := by rw [← eq0]; exact hP
    have hD : va_D (zIn [(b0, .inr (3, [.ref b1, .ref b2, .ref b3, .int (nI kn), .ref b4, .int (nI ik), .ref b5, .int (nI ty), .int ra, .int rb, .int (nI rd), .int (nI iw), .ref b6, .int fl])), (b1, .inl (G.2.1, 618, .inl (arN sg))), (b3, .inl (G.2.1, 2472, .inl (arN be)))]) [(b0, .inr (3, [.ref b1, .ref b2, .ref b3, .int (nI (knK kn)), .ref b4, .int (nI ik), .ref b5, .int (nI ty), .int ra, .int rb, .int (nI rd), .int (nI iw), .ref b6, .int fl])), (b1, .inl (G.2.1, 618, .inl (arN (sfF sg (11 + 76 * eX_3 + 15 * tX_3 + 0) 15 0)))), (b3, .inl (G.2.1, 2472, .inl (arN (knB kn be sg))))] := by rw [← eq0]; exact hD
    exact lp22 _ 0 _ _ _ (Nat.lt_succ_self _) (by omega) hP hD hS (lv_sub hl [1, 2, 3, 0] rfl)
  · refine lv_if_ne (tgt := 11) hx hb dX3_removeText_6 (by decide) (fun q => absurd (by decide) q) (fun _ => ?_)
    refine lv_iconst (v := (-1)) hx hb dX3_removeText_9 (by decide) ?_
    exact W.iret (v := (-1)) hx hb hr (fun tT ht hW => ⟨⟨_, (kn, sg, be), rfl, Or.inl ⟨h3_0, rfl, rfl⟩, by show va_P G.1 vwCl _ tT.heap; rw [ht]; exact hP⟩, hS.F ht⟩) hS.2.2 dX3_removeText_10
set_option maxRecDepth 100000 in
theorem mwc_setFacts_0 : Cond.constant RX3 62 (65535) ∈ wsX3_setFacts := by decide +kernel
set_option maxRecDepth 100000 in
theorem mwc_setFacts_1 : Cond.fieldLink RX3 7 "ExhibitTextsModel" "s" "[I" ∈ wsX3_setFacts := by decide +kernel
set_option maxRecDepth 100000 in
theorem mic_setFacts_3 : ∀ w ∈ u_ws RX3 TX3 14, w ∈ wsX3_setFacts := by decide +kernel
set_option maxHeartbeats 4000000 in
set_option maxRecDepth 100000 in
/-- X3_setFacts: setFacts -/
theorem c_setFacts (l : Launch) (G : zG) (b0 : Nat) (b1 : Nat) (b2 : Nat) (b3 : Nat) (b4 : Nat) (b5 : Nat) (b6 : Nat) (kn : Nat) (ik : Nat) (ty : Nat) (ra : Int32) (rb : Int32) (rd : Nat) (iw : Nat) (fl : Int32) (sg : Nat → Nat) (be : Nat → Nat) (x : Int32) (y : Int32) (af : Int32) (hM : mOK sg) (hkn : kn ≤ 4) : Met l yX3_setFacts wsX3_setFacts ({ frames := 3, cells := 0, slots := 0, locals := 65 } : Room) (zPc G [.ref b0, .int x, .int y, .int af] [(b0, .inr (3, [.ref b1, .ref b2, .ref b3, .int (nI kn), .ref b4, .int (nI ik), .ref b5, .int (nI ty), .int ra, .int rb, .int (nI rd), .int (nI iw), .ref b6, .int fl])), (b1, .inl (G.2.1, 618, .inl (arN sg))), (b3, .inl (G.2.1, 2472, .inl (arN be)))]) (va_Qi (fun (rR : Int32) (uU : Nat × (Nat → Nat) × (Nat → Nat)) => (¬ pTn (fun e => sg (10 + 76 * e)) x y ∧ rR = (-1) ∧ uU = (kn, sg, be)) ∨ (∃ (eX : Nat) (tX : Nat), eX < 8 ∧ tX < sg (10 + 76 * eX) ∧ x = nI eX ∧ y = nI tX ∧ (¬ ∃ n : Nat, 1 ≤ n ∧ n ≤ 65535 ∧ af = nI n) ∧ rR = (-2) ∧ uU = (kn, sg, be)) ∨ (∃ (eX : Nat) (tX : Nat) (fX : Nat), eX < 8 ∧ tX < sg (10 + 76 * eX) ∧ x = nI eX ∧ y = nI tX ∧ 1 ≤ fX ∧ fX ≤ 65535 ∧ af = nI fX ∧ (∃ c : Nat, c < sg (11 + 76 * eX + 15 * tX + 5) ∧ ¬ andN (sg (11 + 76 * eX + 15 * tX + (6 + 3 * c + 1))) fX = 0) ∧ rR = (-4) ∧ uU = (kn, sg, be)) ∨ (∃ (eX : Nat) (tX : Nat) (fX : Nat), eX < 8 ∧ tX < sg (10 + 76 * eX) ∧ x = nI eX ∧ y = nI tX ∧ 1 ≤ fX ∧ fX ≤ 65535 ∧ af = nI fX ∧ (∀ c : Nat, c < sg (11 + 76 * eX + 15 * tX + 5) → andN (sg (11 + 76 * eX + 15 * tX + (6 + 3 * c + 1))) fX = 0) ∧ sg (11 + 76 * eX + 15 * tX + 3) = fX ∧ rR = (-5) ∧ uU = (kn, sg, be)) ∨ (∃ (eX : Nat) (tX : Nat) (fX : Nat), eX < 8 ∧ tX < sg (10 + 76 * eX) ∧ x = nI eX ∧ y = nI tX ∧ 1 ≤ fX ∧ fX ≤ 65535 ∧ af = nI fX ∧ (∀ c : Nat, c < sg (11 + 76 * eX + 15 * tX + 5) → andN (sg (11 + 76 * eX + 15 * tX + (6 + 3 * c + 1))) fX = 0) ∧ sg (11 + 76 * eX + 15 * tX + 3) ≠ fX ∧ rR = nI (sg (11 + 76 * eX + 15 * tX + 3)) ∧ uU = (knK kn, arU sg (11 + 76 * eX + 15 * tX + 3) fX, knB kn be sg))) (fun uU tT => va_P G.1 vwCl ((fun (uU : Nat × (Nat → Nat) × (Nat → Nat)) => ([(b0, .inr (3, [.ref b1, .ref b2, .ref b3, .int (nI uU.1), .ref b4, .int (nI ik), .ref b5, .int (nI ty), .int ra, .int rb, .int (nI rd), .int (nI iw), .ref b6, .int fl])), (b1, .inl (G.2.1, 618, .inl (arN uU.2.1))), (b3, .inl (G.2.1, 2472, .inl (arN uU.2.2)))] : va_W)) uU) tT.heap) (zIn [(b0, .inr (3, [.ref b1, .ref b2, .ref b3, .int (nI kn), .ref b4, .int (nI ik), .ref b5, .int (nI ty), .int ra, .int rb, .int (nI rd), .int (nI iw), .ref b6, .int fl])), (b1, .inl (G.2.1, 618, .inl (arN sg))), (b3, .inl (G.2.1, 2472, .inl (arN be)))])) 0 0 (zIn [(b0, .inr (3, [.ref b1, .ref b2, .ref b3, .int (nI kn), .ref b4, .int (nI ik), .ref b5, .int (nI ty), .int ra, .int rb, .int (nI rd), .int (nI iw), .ref b6, .int fl])), (b1, .inl (G.2.1, 618, .inl (arN sg))), (b3, .inl (G.2.1, 2472, .inl (arN be)))]) := by
  refine zM (cc := cX3_setFacts) (maxL := 5) (ret := (some .int)) (by decide) rfl (Nat.le_of_ble_eq_true rfl) ?_
  intro pP eE sS mM below meth cC hx hb hr hts hown hlk hml hnm hK hN hP hD hS ls hl
  have hl : lv_has ls 5 [(0, .ref b0), (1, .int x), (2, .int y), (3, .int af)] := hl
  refine lv_aload_n hx hb dX3_setFacts_0 rfl (lv_at hl 0 rfl) ?_
  refine lv_iload_n hx hb dX3_setFacts_1 rfl (lv_at hl 1 rfl) ?_
  refine lv_iload_n hx hb dX3_setFacts_2 rfl (lv_at hl 2 rfl) ?_
  refine zc_R (As := [.int x, .int y]) (rest := []) ⟨hx, hb, hml, hown, hts⟩ (c_isText l G b0 b1 b2 b3 b4 b5 b6 kn ik ty ra rb rd iw fl sg x y (by omega)) (cwV 2 hts gX3_setFacts_X3_isText rfl rfl rfl (by decide +kernel) ⟨Nat.le_of_ble_eq_true rfl, Nat.le_of_ble_eq_true rfl⟩) hK hN hP hD [0, 1] rfl (by decide) (ci := 3) rfl rfl rfl hl.1 rfl (Nat.le_of_ble_eq_true rfl) dX3_setFacts_3 ⟨Nat.zero_le _, Nat.zero_le _⟩ (fun r3 h3 => ?_)
  rcases h3 with ⟨eX_3, tX_3, h3_0, h3_1, rfl, rfl, rfl⟩ | ⟨h3_0, rfl⟩
  · have hz := hM.2.1 eX_3 h3_0
    have hTX := hM.2.2 eX_3 tX_3 h3_0 h3_1
    have hc3 := hTX.2.2.2.2.1
    have hf3 := hTX.2.2.2.1.2
    refine lv_if_ne (tgt := 11) hx hb dX3_setFacts_6 (by decide) (fun _ => ?_) (fun q => absurd q (by decide))
    refine lv_iload_n hx hb dX3_setFacts_11 rfl (lv_at hl 3 rfl) ?_
    refine lv_iconst (v := nI 1) hx hb dX3_setFacts_12 (by decide) ?_
    refine lv_ldc (v := (65535 : Int32)) hx hb hown (hts _ mwc_setFacts_0) dX3_setFacts_13 ?_
    refine zk_top (y := nI 65535) rfl ?_
    refine zc_S (As := [.int af, .int (nI 1), .int (nI 65535)]) (rest := []) ⟨hx, hb, hml, hown, hts⟩ (c_in_c l af 1 65535 (by omega) (by omega)) (va_cwS 3 hts gX3_setFacts_X3_in rfl rfl rfl (by decide +kernel) ⟨Nat.le_of_ble_eq_true rfl, Nat.le_of_ble_eq_true rfl⟩) rfl hl.1 rfl (Nat.le_of_ble_eq_true rfl) dX3_setFacts_15 ⟨Nat.zero_le _, Nat.zero_le _⟩ (fun r15 h15 => ?_)
    rcases h15 with ⟨nX_15, h15_0, h15_1, rfl, rfl⟩ | ⟨h15_0, rfl⟩
    · refine lv_if_ne (tgt := 24) hx hb dX3_setFacts_18 (by decide) (fun _ => ?_) (fun q => absurd q (by decide))
      refine lv_iconst (v := nI 0) hx hb dX3_setFacts_24 (by decide) ?_
      refine lv_istore (lv' := [(4, .int (nI 0)), (0, .ref b0), (1, .int (nI eX_3)), (2, .int (nI tX_3)), (3, .int (nI nX_15))]) hx hb dX3_setFacts_25 hl (by decide) rfl (fun ls hl => ?_)
      have lp27 : ∀ (fu27 : Nat), ∀ (kX : Nat) (H : Heap) (locs : List Loc) (ls : Array Slot), (sg (11 + 76 * eX_3 + 15 * tX_3 + 5) - kX) < fu27 → (kX ≤ sg (11 + 76 * eX_3 + 15 * tX_3 + 5)) → (∀ c : Nat, c < kX → andN (sg (11 + 76 * eX_3 + 15 * tX_3 + (6 + 3 * c + 1))) nX_15 = 0) → va_P G.1 vwCl [(b0, .inr (3, [.ref b1, .ref b2, .ref b3, .int (nI kn), .ref b4, .int (nI ik), .ref b5, .int (nI ty), .int ra, .int rb, .int (nI rd), .int (nI iw), .ref b6, .int fl])), (b1, .inl (G.2.1, 618, .inl (arN sg))), (b3, .inl (G.2.1, 2472, .inl (arN be)))] H → va_D (zIn [(b0, .inr (3, [.ref b1, .ref b2, .ref b3, .int (nI kn), .ref b4, .int (nI ik), .ref b5, .int (nI ty), .int ra, .int rb, .int (nI rd), .int (nI iw), .ref b6, .int fl])), (b1, .inl (G.2.1, 618, .inl (arN sg))), (b3, .inl (G.2.1, 2472, .inl (arN be)))]) [(b0, .inr (3, [.ref b1, .ref b2, .ref b3, .int (nI kn), .ref b4, .int (nI ik), .ref b5, .int (nI ty), .int ra, .int rb, .int (nI rd), .int (nI iw), .ref b6, .int fl])), (b1, .inl (G.2.1, 618, .inl (arN sg))), (b3, .inl (G.2.1, 2472, .inl (arN be)))] → va_S (zIn [(b0, .inr (3, [.ref b1, .ref b2, .ref b3, .int (nI kn), .ref b4, .int (nI ik), .ref b5, .int (nI ty), .int ra, .int rb, .int (nI rd), .int (nI iw), .ref b6, .int fl])), (b1, .inl (G.2.1, 618, .inl (arN sg))), (b3, .inl (G.2.1, 2472, .inl (arN be)))]) sS.heap H locs → lv_has ls 5 [(0, .ref b0), (1, .int (nI eX_3)), (2, .int (nI tX_3)), (3, .int (nI nX_15)), (4, .int (nI kX))] → W pP l eE (headSpec wsX3_setFacts ({ frames := 3, cells := 0, slots := 0, locals := 65 } : Room)).room sS mM ([.ref b0, .int (nI eX_3), .int (nI tX_3), .int (nI nX_15)] : List Value).toArray below meth cC H locs 0 0 (MQ below (va_Qi (fun (rR : Int32) (uU : Nat × (Nat → Nat) × (Nat → Nat)) => (¬ pTn (fun e => sg (10 + 76 * e)) (nI eX_3) (nI tX_3) ∧ rR = (-1) ∧ uU = (kn, sg, be)) ∨ (∃ (eX : Nat) (tX : Nat), eX < 8 ∧ tX < sg (10 + 76 * eX) ∧ (nI eX_3) = nI eX ∧ (nI tX_3) = nI tX ∧ (¬ ∃ n : Nat, 1 ≤ n ∧ n ≤ 65535 ∧ (nI nX_15) = nI n) ∧ rR = (-2) ∧ uU = (kn, sg, be)) ∨ (∃ (eX : Nat) (tX : Nat) (fX : Nat), eX < 8 ∧ tX < sg (10 + 76 * eX) ∧ (nI eX_3) = nI eX ∧ (nI tX_3) = nI tX ∧ 1 ≤ fX ∧ fX ≤ 65535 ∧ (nI nX_15) = nI fX ∧ (∃ c : Nat, c < sg (11 + 76 * eX + 15 * tX + 5) ∧ ¬ andN (sg (11 + 76 * eX + 15 * tX + (6 + 3 * c + 1))) fX = 0) ∧ rR = (-4) ∧ uU = (kn, sg, be)) ∨ (∃ (eX : Nat) (tX : Nat) (fX : Nat), eX < 8 ∧ tX < sg (10 + 76 * eX) ∧ (nI eX_3) = nI eX ∧ (nI tX_3) = nI tX ∧ 1 ≤ fX ∧ fX ≤ 65535 ∧ (nI nX_15) = nI fX ∧ (∀ c : Nat, c < sg (11 + 76 * eX + 15 * tX + 5) → andN (sg (11 + 76 * eX + 15 * tX + (6 + 3 * c + 1))) fX = 0) ∧ sg (11 + 76 * eX + 15 * tX + 3) = fX ∧ rR = (-5) ∧ uU = (kn, sg, be)) ∨ (∃ (eX : Nat) (tX : Nat) (fX : Nat), eX < 8 ∧ tX < sg (10 + 76 * eX) ∧ (nI eX_3) = nI eX ∧ (nI tX_3) = nI tX ∧ 1 ≤ fX ∧ fX ≤ 65535 ∧ (nI nX_15) = nI fX ∧ (∀ c : Nat, c < sg (11 + 76 * eX + 15 * tX + 5) → andN (sg (11 + 76 * eX + 15 * tX + (6 + 3 * c + 1))) fX = 0) ∧ sg (11 + 76 * eX + 15 * tX + 3) ≠ fX ∧ rR = nI (sg (11 + 76 * eX + 15 * tX + 3)) ∧ uU = (knK kn, arU sg (11 + 76 * eX + 15 * tX + 3) fX, knB kn be sg))) (fun uU tT => va_P G.1 vwCl ((fun (uU : Nat × (Nat → Nat) × (Nat → Nat)) => ([(b0, .inr (3, [.ref b1, .ref b2, .ref b3, .int (nI uU.1), .ref b4, .int (nI ik), .ref b5, .int (nI ty), .int ra, .int rb, .int (nI rd), .int (nI iw), .ref b6, .int fl])), (b1, .inl (G.2.1, 618, .inl (arN uU.2.1))), (b3, .inl (G.2.1, 2472, .inl (arN uU.2.2)))] : va_W)) uU) tT.heap) (zIn [(b0, .inr (3, [.ref b1, .ref b2, .ref b3, .int (nI kn), .ref b4, .int (nI ik), .ref b5, .int (nI ty), .int ra, .int rb, .int (nI rd), .int (nI iw), .ref b6, .int fl])), (b1, .inl (G.2.1, 618, .inl (arN sg))), (b3, .inl (G.2.1, 2472, .inl (arN be)))])) ([.ref b0, .int (nI eX_3), .int (nI tX_3), .int (nI nX_15)] : List Value).toArray sS 0 0 (zIn [(b0, .inr (3, [.ref b1, .ref b2, .ref b3, .int (nI kn), .ref b4, .int (nI ik), .ref b5, .int (nI ty), .int ra, .int rb, .int (nI rd), .int (nI iw), .ref b6, .int fl])), (b1, .inl (G.2.1, 618, .inl (arN sg))), (b3, .inl (G.2.1, 2472, .inl (arN be)))])) (F0 mM 27 ls []) := by
        intro fu27
        induction fu27 with
        | zero => intro kX H locs ls hfu27; exact absurd hfu27 (Nat.not_lt_zero _)
        | succ fu27 ih27 =>
          intro kX H locs ls hfu27 hk hall hP hD hS hl
          refine lv_iload hx hb dX3_setFacts_27 (lv_at hl 4 rfl) ?_
          refine lv_aload_n hx hb dX3_setFacts_29 rfl (lv_at hl 0 rfl) ?_
          refine va_get (D := G.1) (ci := 3) (v := .ref b1) (C := RX3) (T := TX3) (N := 14) hx hb hts mic_setFacts_3 hown hK hP 0 rfl rfl 0 (by decide) (hts _ mwc_setFacts_1) (fun _ h9 => h9) rfl dX3_setFacts_30 ?_
          refine lv_iload_n hx hb dX3_setFacts_33 rfl (lv_at hl 1 rfl) ?_
          refine lv_iload_n hx hb dX3_setFacts_34 rfl (lv_at hl 2 rfl) ?_
          refine lv_iconst (v := nI 5) hx hb dX3_setFacts_35 (by decide) ?_
          refine zc_S (As := [.int (nI eX_3), .int (nI tX_3), .int (nI 5)]) (rest := [.ref b1, .int (nI kX)]) ⟨hx, hb, hml, hown, hts⟩ (c_of l eX_3 tX_3 5 ) (va_cwS 3 hts gX3_setFacts_X3_of rfl rfl rfl (by decide +kernel) ⟨Nat.le_of_ble_eq_true rfl, Nat.le_of_ble_eq_true rfl⟩) rfl hl.1 rfl (Nat.le_of_ble_eq_true rfl) dX3_setFacts_36 ⟨Nat.zero_le _, Nat.zero_le _⟩ (fun r36 h36 => ?_)
          subst h36
          refine zk_ald (f := sg) (k := 11 + 76 * eX_3 + 15 * tX_3 + 5) hx hb hK hP 1 0 rfl rfl (Nat.le_of_ble_eq_true rfl) (by omega) dX3_setFacts_39 ?_
          refine zk_ige (tgt := 72) hx hb dX3_setFacts_40 (by decide) (by omega) (by omega) (fun c40 => ?_) (fun c40 => ?_)
          · refine lv_aload_n hx hb dX3_setFacts_72 rfl (lv_at hl 0 rfl) ?_
            refine va_get (D := G.1) (ci := 3) (v := .ref b1) (C := RX3) (T := TX3) (N := 14) hx hb hts mic_setFacts_3 hown hK hP 0 rfl rfl 0 (by decide) (hts _ mwc_setFacts_1) (fun _ h9 => h9) rfl dX3_setFacts_73 ?_
            refine lv_iload_n hx hb dX3_setFacts_76 rfl (lv_at hl 1 rfl) ?_
            refine lv_iload_n hx hb dX3_setFacts_77 rfl (lv_at hl 2 rfl) ?_
            refine lv_iconst (v := nI 3) hx hb dX3_setFacts_78 (by decide) ?_
            refine zc_S (As := [.int (nI eX_3), .int (nI tX_3), .int (nI 3)]) (rest := [.ref b1]) ⟨hx, hb, hml, hown, hts⟩ (c_of l eX_3 tX_3 3 ) (va_cwS 3 hts gX3_setFacts_X3_of rfl rfl rfl (by decide +kernel) ⟨Nat.le_of_ble_eq_true rfl, Nat.le_of_ble_eq_true rfl⟩) rfl hl.1 rfl (Nat.le_of_ble_eq_true rfl) dX3_setFacts_79 ⟨Nat.zero_le _, Nat.zero_le _⟩ (fun r79 h79 => ?_)
            subst h79
            refine zk_ald (f := sg) (k := 11 + 76 * eX_3 + 15 * tX_3 + 3) hx hb hK hP 1 0 rfl rfl (Nat.le_of_ble_eq_true rfl) (by omega) dX3_setFacts_82 ?_
            refine lv_istore (lv' := [(4, .int (nI (sg (11 + 76 * eX_3 + 15 * tX_3 + 3)))), (0, .ref b0), (1, .int (nI eX_3)), (2, .int (nI tX_3)), (3, .int (nI nX_15))]) hx hb dX3_setFacts_83 hl (by decide) rfl (fun ls hl => ?_)
            refine lv_iload hx hb dX3_setFacts_85 (lv_at hl 0 rfl) ?_
            refine lv_iload_n hx hb dX3_setFacts_87 rfl (lv_at hl 4 rfl) ?_
            refine zk_ine (tgt := 94) hx hb dX3_setFacts_88 (by decide) (by omega) (by omega) (fun c88 => ?_) (fun c88 => ?_)
            · refine lv_aload_n hx hb dX3_setFacts_94 rfl (lv_at hl 1 rfl) ?_
              refine zc_U (As := []) (rest := []) (ws2 := (fun (uU : Nat × (Nat → Nat)) => ([(b0, .inr (3, [.ref b1, .ref b2, .ref b3, .int (nI uU.1), .ref b4, .int (nI ik), .ref b5, .int (nI ty), .int ra, .int rb, .int (nI rd), .int (nI iw), .ref b6, .int fl])), (b1, .inl (G.2.1, 618, .inl (arN sg))), (b3, .inl (G.2.1, 2472, .inl (arN uU.2)))] : va_W))) ⟨hx, hb, hml, hown, hts⟩ (c_know l G b0 b1 b2 b3 b4 b5 b6 kn ik ty ra rb rd iw fl sg be (by omega)) (cwV 0 hts gX3_setFacts_X3_know rfl rfl rfl (by decide +kernel) ⟨Nat.le_of_ble_eq_true rfl, Nat.le_of_ble_eq_true rfl⟩) hK hN hP hD hS [0, 1, 2] rfl (by decide) (ci := 3) rfl rfl (fun _ => rfl) (fun _ => rfl) rfl hl.1 rfl (Nat.le_of_ble_eq_true rfl) dX3_setFacts_95 ⟨Nat.zero_le _, Nat.zero_le _⟩ (fun u95 H locs h95 hP hD hS => ?_)
              subst h95
              have hP : va_P G.1 vwCl [(b0, .inr (3, [.ref b1, .ref b2, .ref b3, .int (nI (knK kn)), .ref b4, .int (nI ik), .ref b5, .int (nI ty), .int ra, .int rb, .int (nI rd), .int (nI iw), .ref b6, .int fl])), (b1, .inl (G.2.1, 618, .inl (arN sg))), (b3, .inl (G.2.1, 2472, .inl (arN (knB kn be sg))))] H := hP
              have hD : va_D (zIn [(b0, .inr (3, [.ref b1, .ref b2, .ref b3, .int (nI kn), .ref b4, .int (nI ik), .ref b5, .int (nI ty), .int ra, .int rb, .int (nI rd), .int (nI iw), .ref b6, .int fl])), (b1, .inl (G.2.1, 618, .inl (arN sg))), (b3, .inl (G.2.1, 2472, .inl (arN be)))]) [(b0, .inr (3, [.ref b1, .ref b2, .ref b3, .int (nI (knK kn)), .ref b4, .int (nI ik), .ref b5, .int (nI ty), .int ra, .int rb, .int (nI rd), .int (nI iw), .ref b6, .int fl])), (b1, .inl (G.2.1, 618, .inl (arN sg))), (b3, .inl (G.2.1, 2472, .inl (arN (knB kn be sg))))] := hD
              refine lv_aload_n hx hb dX3_setFacts_98 rfl (lv_at hl 1 rfl) ?_
              refine va_get (D := G.1) (ci := 3) (v := .ref b1) (C := RX3) (T := TX3) (N := 14) hx hb hts mic_setFacts_3 hown hK hP 0 rfl rfl 0 (by decide) (hts _ mwc_setFacts_1) (fun _ h9 => h9) rfl dX3_setFacts_99 ?_
              refine lv_iload_n hx hb dX3_setFacts_102 rfl (lv_at hl 2 rfl) ?_
              refine lv_iload_n hx hb dX3_setFacts_103 rfl (lv_at hl 3 rfl) ?_
              refine lv_iconst (v := nI 3) hx hb dX3_setFacts_104 (by decide) ?_
              refine zc_S (As := [.int (nI eX_3), .int (nI tX_3), .int (nI 3)]) (rest := [.ref b1]) ⟨hx, hb, hml, hown, hts⟩ (c_of l eX_3 tX_3 3 ) (va_cwS 3 hts gX3_setFacts_X3_of rfl rfl rfl (by decide +kernel) ⟨Nat.le_of_ble_eq_true rfl, Nat.le_of_ble_eq_true rfl⟩) rfl hl.1 rfl (Nat.le_of_ble_eq_true rfl) dX3_setFacts_105 ⟨Nat.zero_le _, Nat.zero_le _⟩ (fun r105 h105 => ?_)
              subst h105
              refine lv_iload_n hx hb dX3_setFacts_108 rfl (lv_at hl 4 rfl) ?_
              refine zk_ast (f := sg) (k := 11 + 76 * eX_3 + 15 * tX_3 + 3) (v := nX_15) (ws2 := [(b0, .inr (3, [.ref b1, .ref b2, .ref b3, .int (nI (knK kn)), .ref b4, .int (nI ik), .ref b5, .int (nI ty), .int ra, .int rb, .int (nI rd), .int (nI iw), .ref b6, .int fl])), (b1, .inl (G.2.1, 618, .inl (arN (arU sg (11 + 76 * eX_3 + 15 * tX_3 + 3) nX_15)))), (b3, .inl (G.2.1, 2472, .inl (arN (knB kn be sg))))]) hx hb hK hP hD hS 1 0 rfl rfl (Nat.le_of_ble_eq_true rfl) (by omega) rfl dX3_setFacts_109 (fun H locs hP hD hS => ?_)
              refine lv_iload hx hb dX3_setFacts_110 (lv_at hl 0 rfl) ?_
              exact W.iret (v := nI (sg (11 + 76 * eX_3 + 15 * tX_3 + 3))) hx hb hr (fun tT ht hW => ⟨⟨_, (knK kn, arU sg (11 + 76 * eX_3 + 15 * tX_3 + 3) nX_15, knB kn be sg), rfl, Or.inr (Or.inr (Or.inr (Or.inr ⟨eX_3, tX_3, nX_15, h3_0, h3_1, rfl, rfl, h15_0, h15_1, rfl, (fun c hc9 => hall c (by omega)), c88, rfl, rfl⟩))), by show va_P G.1 vwCl _ tT.heap; rw [ht]; exact hP⟩, hS.F ht⟩) hS.2.2 dX3_setFacts_112
            · refine lv_bipush (v := (-5)) hx hb dX3_setFacts_91 (by decide) ?_
              exact W.iret (v := (-5)) hx hb hr (fun tT ht hW => ⟨⟨_, (kn, sg, be), rfl, Or.inr (Or.inr (Or.inr (Or.inl ⟨eX_3, tX_3, nX_15, h3_0, h3_1, rfl, rfl, h15_0, h15_1, rfl, (fun c hc9 => hall c (by omega)), c88, rfl, rfl⟩))), by show va_P G.1 vwCl _ tT.heap; rw [ht]; exact hP⟩, hS.F ht⟩) hS.2.2 dX3_setFacts_93
          · refine lv_aload_n hx hb dX3_setFacts_43 rfl (lv_at hl 0 rfl) ?_
            refine va_get (D := G.1) (ci := 3) (v := .ref b1) (C := RX3) (T := TX3) (N := 14) hx hb hts mic_setFacts_3 hown hK hP 0 rfl rfl 0 (by decide) (hts _ mwc_setFacts_1) (fun _ h9 => h9) rfl dX3_setFacts_44 ?_
            refine lv_iload_n hx hb dX3_setFacts_47 rfl (lv_at hl 1 rfl) ?_
            refine lv_iload_n hx hb dX3_setFacts_48 rfl (lv_at hl 2 rfl) ?_
            refine lv_iload hx hb dX3_setFacts_49 (lv_at hl 4 rfl) ?_
            refine lv_iconst (v := nI 1) hx hb dX3_setFacts_51 (by decide) ?_
            refine zc_S (As := [.int (nI eX_3), .int (nI tX_3), .int (nI kX), .int (nI 1)]) (rest := [.ref b1]) ⟨hx, hb, hml, hown, hts⟩ (c_ofCaption l eX_3 tX_3 kX 1 ) (va_cwS 4 hts gX3_setFacts_X3_ofCaption rfl rfl rfl (by decide +kernel) ⟨Nat.le_of_ble_eq_true rfl, Nat.le_of_ble_eq_true rfl⟩) rfl hl.1 rfl (Nat.le_of_ble_eq_true rfl) dX3_setFacts_52 ⟨Nat.zero_le _, Nat.zero_le _⟩ (fun r52 h52 => ?_)
            subst h52
            refine zk_ald (f := sg) (k := 11 + 76 * eX_3 + 15 * tX_3 + (6 + 3 * kX + 1)) hx hb hK hP 1 0 rfl rfl (Nat.le_of_ble_eq_true rfl) (by omega) dX3_setFacts_55 ?_
            refine lv_iload_n hx hb dX3_setFacts_56 rfl (lv_at hl 3 rfl) ?_
            refine lv_iconst (v := (-1)) hx hb dX3_setFacts_57 (by decide) ?_
            refine lv_ixor hx hb dX3_setFacts_58 ?_
            refine lv_iand hx hb dX3_setFacts_59 ?_
            refine lv_if_eq (tgt := 66) hx hb dX3_setFacts_60 (by decide) (fun c60 => ?_) (fun c60 => ?_)
            · refine zk_inc (a := kX) (d := 1) (lv' := [(4, .int (nI (kX + 1))), (0, .ref b0), (1, .int (nI eX_3)), (2, .int (nI tX_3)), (3, .int (nI nX_15))]) hx hb dX3_setFacts_66 hl (K := 4) rfl (by decide) (by decide) rfl (fun ls hl => ?_)
              refine lv_goto (tgt := 27) hx hb dX3_setFacts_69 (by decide) ?_
              exact ih27 (kX + 1) _ _ _ (by omega) (by omega) (lt_s hall c60) hP hD hS (lv_sub hl [1, 2, 3, 4, 0] rfl)
            · refine lv_bipush (v := (-4)) hx hb dX3_setFacts_63 (by decide) ?_
              exact W.iret (v := (-4)) hx hb hr (fun tT ht hW => ⟨⟨_, (kn, sg, be), rfl, Or.inr (Or.inr (Or.inl ⟨eX_3, tX_3, nX_15, h3_0, h3_1, rfl, rfl, h15_0, h15_1, rfl, ⟨kX, c40, c60⟩, rfl, rfl⟩)), by show va_P G.1 vwCl _ tT.heap; rw [ht]; exact hP⟩, hS.F ht⟩) hS.2.2 dX3_setFacts_65
      exact lp27 _ 0 _ _ _ (Nat.lt_succ_self _) (by omega) (fun c h => absurd h (Nat.not_lt_zero _)) hP hD hS (lv_sub hl [1, 2, 3, 4, 0] rfl)
    · refine lv_if_ne (tgt := 24) hx hb dX3_setFacts_18 (by decide) (fun q => absurd (by decide) q) (fun _ => ?_)
      refine lv_bipush (v := (-2)) hx hb dX3_setFacts_21 (by decide) ?_
      exact W.iret (v := (-2)) hx hb hr (fun tT ht hW => ⟨⟨_, (kn, sg, be), rfl, Or.inr (Or.inl ⟨eX_3, tX_3, h3_0, h3_1, rfl, rfl, h15_0, rfl, rfl⟩), by show va_P G.1 vwCl _ tT.heap; rw [ht]; exact hP⟩, hS.F ht⟩) hS.2.2 dX3_setFacts_23
  · refine lv_if_ne (tgt := 11) hx hb dX3_setFacts_6 (by decide) (fun q => absurd (by decide) q) (fun _ => ?_)
    refine lv_iconst (v := (-1)) hx hb dX3_setFacts_9 (by decide) ?_
    exact W.iret (v := (-1)) hx hb hr (fun tT ht hW => ⟨⟨_, (kn, sg, be), rfl, Or.inl ⟨h3_0, rfl, rfl⟩, by show va_P G.1 vwCl _ tT.heap; rw [ht]; exact hP⟩, hS.F ht⟩) hS.2.2 dX3_setFacts_10
