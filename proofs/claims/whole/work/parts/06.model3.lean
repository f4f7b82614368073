set_option maxRecDepth 100000 in
theorem mwc_shownNow_0 : Cond.fieldLink RX3 7 "ExhibitTextsModel" "s" "[I" ∈ wsX3_shownNow := by decide +kernel
set_option maxRecDepth 100000 in
theorem mic_shownNow_3 : ∀ w ∈ u_ws RX3 TX3 14, w ∈ wsX3_shownNow := by decide +kernel
set_option maxHeartbeats 4000000 in
set_option maxRecDepth 100000 in
/-- X3_shownNow: the text that the visitor is shown -/
theorem c_shownNow (l : Launch) (G : zG) (b0 : Nat) (b1 : Nat) (b2 : Nat) (b3 : Nat) (b4 : Nat) (b5 : Nat) (b6 : Nat) (kn : Nat) (ik : Nat) (ty : Nat) (ra : Int32) (rb : Int32) (rd : Nat) (iw : Nat) (fl : Int32) (sg : Nat → Nat) (hM : mOK sg) : Met l yX3_shownNow wsX3_shownNow ({ frames := 4, cells := 0, slots := 0, locals := 93 } : Room) (zPc G [.ref b0] [(b0, .inr (3, [.ref b1, .ref b2, .ref b3, .int (nI kn), .ref b4, .int (nI ik), .ref b5, .int (nI ty), .int ra, .int rb, .int (nI rd), .int (nI iw), .ref b6, .int fl])), (b1, .inl (G.2.1, 618, .inl (arN sg)))]) (vp_Si (fun (rR : Int32) => (sN sg = none ∧ rR = (-5)) ∨ (∃ (tX : Nat), sN sg = some tX ∧ rR = nI tX))) 0 0 (fun _ => False) := by
  refine zR (cc := cX3_shownNow) (maxL := 1) (ret := (some .int)) (by decide) rfl (Nat.le_of_ble_eq_true rfl) ?_
  intro pP eE sS mM below meth cC hx hb hr hts hown hlk hml hK hN hP hD ls hl
  have hl : lv_has ls 1 [(0, .ref b0)] := hl
  have hv := hM.1.2.2.1
  refine lv_aload_n hx hb dX3_shownNow_0 rfl (lv_at hl 0 rfl) ?_
  refine va_get (D := G.1) (ci := 3) (v := .ref b1) (C := RX3) (T := TX3) (N := 14) hx hb hts mic_shownNow_3 hown hK hP 0 rfl rfl 0 (by decide) (hts _ mwc_shownNow_0) (fun _ h9 => h9) rfl dX3_shownNow_1 ?_
  refine lv_iconst (v := nI 2) hx hb dX3_shownNow_4 (by decide) ?_
  refine zk_ald (f := sg) (k := 2) hx hb hK hP 1 0 rfl rfl (Nat.le_of_ble_eq_true rfl) (by omega) dX3_shownNow_5 ?_
  refine zk_zne (tgt := 14) hx hb dX3_shownNow_6 (by decide) (by omega) (fun c6 => ?_) (fun c6 => ?_)
  · refine lv_aload_n hx hb dX3_shownNow_14 rfl (lv_at hl 0 rfl) ?_
    refine lv_aload_n hx hb dX3_shownNow_15 rfl (lv_at hl 0 rfl) ?_
    refine va_get (D := G.1) (ci := 3) (v := .ref b1) (C := RX3) (T := TX3) (N := 14) hx hb hts mic_shownNow_3 hown hK hP 0 rfl rfl 0 (by decide) (hts _ mwc_shownNow_0) (fun _ h9 => h9) rfl dX3_shownNow_16 ?_
    refine lv_iconst (v := nI 0) hx hb dX3_shownNow_19 (by decide) ?_
    refine zk_ald (f := sg) (k := 0) hx hb hK hP 1 0 rfl rfl (Nat.le_of_ble_eq_true rfl) (by omega) dX3_shownNow_20 ?_
    refine lv_aload_n hx hb dX3_shownNow_21 rfl (lv_at hl 0 rfl) ?_
    refine va_get (D := G.1) (ci := 3) (v := .ref b1) (C := RX3) (T := TX3) (N := 14) hx hb hts mic_shownNow_3 hown hK hP 0 rfl rfl 0 (by decide) (hts _ mwc_shownNow_0) (fun _ h9 => h9) rfl dX3_shownNow_22 ?_
    refine lv_iconst (v := nI 3) hx hb dX3_shownNow_25 (by decide) ?_
    refine zk_ald (f := sg) (k := 3) hx hb hK hP 1 0 rfl rfl (Nat.le_of_ble_eq_true rfl) (by omega) dX3_shownNow_26 ?_
    refine zc_R (As := [.int (nI (sg 0)), .int (nI (sg 3))]) (rest := []) ⟨hx, hb, hml, hown, hts⟩ (c_shownTo l G b0 b1 b2 b3 b4 b5 b6 kn ik ty ra rb rd iw fl sg (sg 0) (sg 3) (by omega) hM.1.1 (by have := (hM.1.2.2.2.1 (by omega)).1; omega)) (cwV 2 hts gX3_shownNow_X3_shownTo rfl rfl rfl (by decide +kernel) ⟨Nat.le_of_ble_eq_true rfl, Nat.le_of_ble_eq_true rfl⟩) hK hN hP hD [0, 1] rfl (by decide) (ci := 3) rfl rfl rfl hl.1 rfl (Nat.le_of_ble_eq_true rfl) dX3_shownNow_27 ⟨Nat.zero_le _, Nat.zero_le _⟩ (fun r27 h27 => ?_)
    rcases h27 with ⟨h27_0, rfl⟩ | ⟨tX_27, h27_0, rfl⟩
    · exact W.iret (v := (-5)) hx hb hr (fun tT ht hW => ⟨_, rfl, Or.inl ⟨(if_neg (by omega)).trans h27_0, rfl⟩, ht⟩) (fun _ h => absurd h List.not_mem_nil) dX3_shownNow_30
    · exact W.iret (v := nI tX_27) hx hb hr (fun tT ht hW => ⟨_, rfl, Or.inr ⟨tX_27, (if_neg (by omega)).trans h27_0, rfl⟩, ht⟩) (fun _ h => absurd h List.not_mem_nil) dX3_shownNow_30
  · refine lv_bipush (v := (-5)) hx hb dX3_shownNow_9 (by decide) ?_
    refine lv_goto (tgt := 30) hx hb dX3_shownNow_11 (by decide) ?_
    exact W.iret (v := (-5)) hx hb hr (fun tT ht hW => ⟨_, rfl, Or.inl ⟨if_pos c6, rfl⟩, ht⟩) (fun _ h => absurd h List.not_mem_nil) dX3_shownNow_30
set_option maxRecDepth 100000 in
theorem mwc_canRead_0 : Cond.fieldLink RX3 7 "ExhibitTextsModel" "s" "[I" ∈ wsX3_canRead := by decide +kernel
set_option maxRecDepth 100000 in
theorem mic_canRead_3 : ∀ w ∈ u_ws RX3 TX3 14, w ∈ wsX3_canRead := by decide +kernel
set_option maxHeartbeats 4000000 in
set_option maxRecDepth 100000 in
/-- X3_canRead: whether a text can be read -/
theorem c_canRead (l : Launch) (G : zG) (b0 : Nat) (b1 : Nat) (b2 : Nat) (b3 : Nat) (b4 : Nat) (b5 : Nat) (b6 : Nat) (kn : Nat) (ik : Nat) (ty : Nat) (ra : Int32) (rb : Int32) (rd : Nat) (iw : Nat) (fl : Int32) (sg : Nat → Nat) (t : Nat) (hM : mOK sg) (hv : sg 2 = 1) (ht : t < sg (10 + 76 * sg 0)) : Met l yX3_canRead wsX3_canRead ({ frames := 2, cells := 0, slots := 0, locals := 42 } : Room) (zPc G [.ref b0, .int (nI t)] [(b0, .inr (3, [.ref b1, .ref b2, .ref b3, .int (nI kn), .ref b4, .int (nI ik), .ref b5, .int (nI ty), .int ra, .int rb, .int (nI rd), .int (nI iw), .ref b6, .int fl])), (b1, .inl (G.2.1, 618, .inl (arN sg)))]) (vp_Si (fun (rR : Int32) => (canR sg t ∧ rR = nI 1) ∨ (¬ canR sg t ∧ rR = nI 0))) 0 0 (fun _ => False) := by
  refine zR (cc := cX3_canRead) (maxL := 3) (ret := (some .boolean)) (by decide) rfl (Nat.le_of_ble_eq_true rfl) ?_
  intro pP eE sS mM below meth cC hx hb hr hts hown hlk hml hK hN hP hD ls hl
  have hl : lv_has ls 3 [(0, .ref b0), (1, .int (nI t))] := hl
  have h0 := hM.1.1
  have hz := hM.2.1 _ h0
  have hTX := hM.2.2 _ t h0 ht
  have hw3 := hTX.1.2
  have hp3 := hM.1.2.2.2.1 hv
  have hq3 := hM.1.2.2.2.2.1
  have hsl := secs_le hw3 hp3.2.1
  refine lv_aload_n hx hb dX3_canRead_0 rfl (lv_at hl 0 rfl) ?_
  refine va_get (D := G.1) (ci := 3) (v := .ref b1) (C := RX3) (T := TX3) (N := 14) hx hb hts mic_canRead_3 hown hK hP 0 rfl rfl 0 (by decide) (hts _ mwc_canRead_0) (fun _ h9 => h9) rfl dX3_canRead_1 ?_
  refine lv_aload_n hx hb dX3_canRead_4 rfl (lv_at hl 0 rfl) ?_
  refine va_get (D := G.1) (ci := 3) (v := .ref b1) (C := RX3) (T := TX3) (N := 14) hx hb hts mic_canRead_3 hown hK hP 0 rfl rfl 0 (by decide) (hts _ mwc_canRead_0) (fun _ h9 => h9) rfl dX3_canRead_5 ?_
  refine lv_iconst (v := nI 0) hx hb dX3_canRead_8 (by decide) ?_
  refine zk_ald (f := sg) (k := 0) hx hb hK hP 1 0 rfl rfl (Nat.le_of_ble_eq_true rfl) (by omega) dX3_canRead_9 ?_
  refine lv_iload_n hx hb dX3_canRead_10 rfl (lv_at hl 1 rfl) ?_
  refine lv_iconst (v := nI 3) hx hb dX3_canRead_11 (by decide) ?_
  refine zc_S (As := [.int (nI (sg 0)), .int (nI t), .int (nI 3)]) (rest := [.ref b1]) ⟨hx, hb, hml, hown, hts⟩ (c_of l (sg 0) t 3 ) (va_cwS 3 hts gX3_canRead_X3_of rfl rfl rfl (by decide +kernel) ⟨Nat.le_of_ble_eq_true rfl, Nat.le_of_ble_eq_true rfl⟩) rfl hl.1 rfl (Nat.le_of_ble_eq_true rfl) dX3_canRead_12 ⟨Nat.zero_le _, Nat.zero_le _⟩ (fun r12 h12 => ?_)
  subst h12
  refine zk_ald (f := sg) (k := 11 + 76 * (sg 0) + 15 * t + 3) hx hb hK hP 1 0 rfl rfl (Nat.le_of_ble_eq_true rfl) (by omega) dX3_canRead_15 ?_
  refine lv_aload_n hx hb dX3_canRead_16 rfl (lv_at hl 0 rfl) ?_
  refine va_get (D := G.1) (ci := 3) (v := .ref b1) (C := RX3) (T := TX3) (N := 14) hx hb hts mic_canRead_3 hown hK hP 0 rfl rfl 0 (by decide) (hts _ mwc_canRead_0) (fun _ h9 => h9) rfl dX3_canRead_17 ?_
  refine lv_bipush (v := nI 6) hx hb dX3_canRead_20 (by decide) ?_
  refine zk_ald (f := sg) (k := 6) hx hb hK hP 1 0 rfl rfl (Nat.le_of_ble_eq_true rfl) (by omega) dX3_canRead_22 ?_
  refine lv_iconst (v := (-1)) hx hb dX3_canRead_23 (by decide) ?_
  refine lv_ixor hx hb dX3_canRead_24 ?_
  refine lv_iand hx hb dX3_canRead_25 ?_
  refine lv_if_eq (tgt := 33) hx hb dX3_canRead_26 (by decide) (fun c26 => ?_) (fun c26 => ?_)
  · refine lv_iconst (v := nI 0) hx hb dX3_canRead_33 (by decide) ?_
    refine lv_istore_n (lv' := [(2, .int (nI 0)), (0, .ref b0), (1, .int (nI t))]) hx hb dX3_canRead_34 rfl hl (by decide) rfl (fun ls hl => ?_)
    refine lv_iload_n hx hb dX3_canRead_35 rfl (lv_at hl 0 rfl) ?_
    refine lv_if_eq (tgt := 77) hx hb dX3_canRead_36 (by decide) (fun _ => ?_) (fun q => absurd (by decide) q)
    refine lv_iconst (v := nI 0) hx hb dX3_canRead_77 (by decide) ?_
    exact W.zret (ty := .boolean) (v := nI 0) hx hb hr (rfl) (fun tT ht hW => ⟨_, rfl, Or.inr ⟨fun q => q.1 c26, rfl⟩, ht⟩) (fun _ h => absurd h List.not_mem_nil) dX3_canRead_78
  · refine lv_iconst (v := nI 1) hx hb dX3_canRead_29 (by decide) ?_
    refine lv_goto (tgt := 34) hx hb dX3_canRead_30 (by decide) ?_
    refine lv_istore_n (lv' := [(2, .int (nI 1)), (0, .ref b0), (1, .int (nI t))]) hx hb dX3_canRead_34 rfl hl (by decide) rfl (fun ls hl => ?_)
    refine lv_iload_n hx hb dX3_canRead_35 rfl (lv_at hl 0 rfl) ?_
    refine lv_if_eq (tgt := 77) hx hb dX3_canRead_36 (by decide) (fun q => absurd q (by decide)) (fun _ => ?_)
    refine lv_aload_n hx hb dX3_canRead_39 rfl (lv_at hl 1 rfl) ?_
    refine va_get (D := G.1) (ci := 3) (v := .ref b1) (C := RX3) (T := TX3) (N := 14) hx hb hts mic_canRead_3 hown hK hP 0 rfl rfl 0 (by decide) (hts _ mwc_canRead_0) (fun _ h9 => h9) rfl dX3_canRead_40 ?_
    refine lv_aload_n hx hb dX3_canRead_43 rfl (lv_at hl 1 rfl) ?_
    refine va_get (D := G.1) (ci := 3) (v := .ref b1) (C := RX3) (T := TX3) (N := 14) hx hb hts mic_canRead_3 hown hK hP 0 rfl rfl 0 (by decide) (hts _ mwc_canRead_0) (fun _ h9 => h9) rfl dX3_canRead_44 ?_
    refine lv_iconst (v := nI 0) hx hb dX3_canRead_47 (by decide) ?_
    refine zk_ald (f := sg) (k := 0) hx hb hK hP 1 0 rfl rfl (Nat.le_of_ble_eq_true rfl) (by omega) dX3_canRead_48 ?_
    refine lv_iload_n hx hb dX3_canRead_49 rfl (lv_at hl 2 rfl) ?_
    refine lv_iconst (v := nI 0) hx hb dX3_canRead_50 (by decide) ?_
    refine zc_S (As := [.int (nI (sg 0)), .int (nI t), .int (nI 0)]) (rest := [.ref b1]) ⟨hx, hb, hml, hown, hts⟩ (c_of l (sg 0) t 0 ) (va_cwS 3 hts gX3_canRead_X3_of rfl rfl rfl (by decide +kernel) ⟨Nat.le_of_ble_eq_true rfl, Nat.le_of_ble_eq_true rfl⟩) rfl hl.1 rfl (Nat.le_of_ble_eq_true rfl) dX3_canRead_51 ⟨Nat.zero_le _, Nat.zero_le _⟩ (fun r51 h51 => ?_)
    subst h51
    refine zk_ald (f := sg) (k := 11 + 76 * (sg 0) + 15 * t + 0) hx hb hK hP 1 0 rfl rfl (Nat.le_of_ble_eq_true rfl) (by omega) dX3_canRead_54 ?_
    refine lv_aload_n hx hb dX3_canRead_55 rfl (lv_at hl 1 rfl) ?_
    refine va_get (D := G.1) (ci := 3) (v := .ref b1) (C := RX3) (T := TX3) (N := 14) hx hb hts mic_canRead_3 hown hK hP 0 rfl rfl 0 (by decide) (hts _ mwc_canRead_0) (fun _ h9 => h9) rfl dX3_canRead_56 ?_
    refine lv_iconst (v := nI 4) hx hb dX3_canRead_59 (by decide) ?_
    refine zk_ald (f := sg) (k := 4) hx hb hK hP 1 0 rfl rfl (Nat.le_of_ble_eq_true rfl) (by omega) dX3_canRead_60 ?_
    refine zc_S (As := [.int (nI (sg (11 + 76 * (sg 0) + 15 * t + 0))), .int (nI (sg 4))]) (rest := []) ⟨hx, hb, hml, hown, hts⟩ (c_seconds l (sg (11 + 76 * (sg 0) + 15 * t + 0)) (sg 4) hw3 (by omega) (by omega)) (va_cwS 2 hts gX3_canRead_X3_seconds rfl rfl rfl (by decide +kernel) ⟨Nat.le_of_ble_eq_true rfl, Nat.le_of_ble_eq_true rfl⟩) rfl hl.1 rfl (Nat.le_of_ble_eq_true rfl) dX3_canRead_61 ⟨Nat.zero_le _, Nat.zero_le _⟩ (fun r61 h61 => ?_)
    subst h61
    refine lv_aload_n hx hb dX3_canRead_64 rfl (lv_at hl 1 rfl) ?_
    refine va_get (D := G.1) (ci := 3) (v := .ref b1) (C := RX3) (T := TX3) (N := 14) hx hb hts mic_canRead_3 hown hK hP 0 rfl rfl 0 (by decide) (hts _ mwc_canRead_0) (fun _ h9 => h9) rfl dX3_canRead_65 ?_
    refine lv_iconst (v := nI 5) hx hb dX3_canRead_68 (by decide) ?_
    refine zk_ald (f := sg) (k := 5) hx hb hK hP 1 0 rfl rfl (Nat.le_of_ble_eq_true rfl) (by omega) dX3_canRead_69 ?_
    refine zk_igt (tgt := 77) hx hb dX3_canRead_70 (by decide) (by omega) (by omega) (fun c70 => ?_) (fun c70 => ?_)
    · refine lv_iconst (v := nI 0) hx hb dX3_canRead_77 (by decide) ?_
      exact W.zret (ty := .boolean) (v := nI 0) hx hb hr (rfl) (fun tT ht hW => ⟨_, rfl, Or.inr ⟨fun q => absurd q.2 (by omega), rfl⟩, ht⟩) (fun _ h => absurd h List.not_mem_nil) dX3_canRead_78
    · refine lv_iconst (v := nI 1) hx hb dX3_canRead_73 (by decide) ?_
      refine lv_goto (tgt := 78) hx hb dX3_canRead_74 (by decide) ?_
      exact W.zret (ty := .boolean) (v := nI 1) hx hb hr (rfl) (fun tT ht hW => ⟨_, rfl, Or.inl ⟨⟨c26, c70⟩, rfl⟩, ht⟩) (fun _ h => absurd h List.not_mem_nil) dX3_canRead_78
set_option maxRecDepth 100000 in
theorem mwc_reads_0 : Cond.fieldLink RX3 7 "ExhibitTextsModel" "s" "[I" ∈ wsX3_reads := by decide +kernel
set_option maxRecDepth 100000 in
theorem mic_reads_3 : ∀ w ∈ u_ws RX3 TX3 14, w ∈ wsX3_reads := by decide +kernel
set_option maxHeartbeats 4000000 in
set_option maxRecDepth 100000 in
/-- X3_reads: a text is read -/
theorem c_reads (l : Launch) (G : zG) (b0 : Nat) (b1 : Nat) (b2 : Nat) (b3 : Nat) (b4 : Nat) (b5 : Nat) (b6 : Nat) (kn : Nat) (ik : Nat) (ty : Nat) (ra : Int32) (rb : Int32) (rd : Nat) (iw : Nat) (fl : Int32) (sg : Nat → Nat) (t : Nat) (hM : mOK sg) (hv : sg 2 = 1) (ht : t < sg (10 + 76 * sg 0)) (hs : secs (sg (11 + 76 * sg 0 + 15 * t + 0)) (sg 4) ≤ sg 5) : Met l yX3_reads wsX3_reads ({ frames := 2, cells := 0, slots := 0, locals := 42 } : Room) (zPc G [.ref b0, .int (nI t)] [(b0, .inr (3, [.ref b1, .ref b2, .ref b3, .int (nI kn), .ref b4, .int (nI ik), .ref b5, .int (nI ty), .int ra, .int rb, .int (nI rd), .int (nI iw), .ref b6, .int fl])), (b1, .inl (G.2.1, 618, .inl (arN sg)))]) (va_Qv (fun (uU : (Nat → Nat)) => uU = rdT sg t) (fun uU tT => va_P G.1 vwCl ((fun (uU : (Nat → Nat)) => ([(b0, .inr (3, [.ref b1, .ref b2, .ref b3, .int (nI kn), .ref b4, .int (nI ik), .ref b5, .int (nI ty), .int ra, .int rb, .int (nI rd), .int (nI iw), .ref b6, .int fl])), (b1, .inl (G.2.1, 618, .inl (arN uU)))] : va_W)) uU) tT.heap) (zIn [(b0, .inr (3, [.ref b1, .ref b2, .ref b3, .int (nI kn), .ref b4, .int (nI ik), .ref b5, .int (nI ty), .int ra, .int rb, .int (nI rd), .int (nI iw), .ref b6, .int fl])), (b1, .inl (G.2.1, 618, .inl (arN sg)))])) 0 0 (zIn [(b0, .inr (3, [.ref b1, .ref b2, .ref b3, .int (nI kn), .ref b4, .int (nI ik), .ref b5, .int (nI ty), .int ra, .int rb, .int (nI rd), .int (nI iw), .ref b6, .int fl])), (b1, .inl (G.2.1, 618, .inl (arN sg)))]) := by
  refine zM (cc := cX3_reads) (maxL := 2) (ret := none) (by decide) rfl (Nat.le_of_ble_eq_true rfl) ?_
  intro pP eE sS mM below meth cC hx hb hr hts hown hlk hml hnm hK hN hP hD hS ls hl
  have hl : lv_has ls 2 [(0, .ref b0), (1, .int (nI t))] := hl
  have h0 := hM.1.1
  have hz := hM.2.1 _ h0
  have hTX := hM.2.2 _ t h0 ht
  have hw3 := hTX.1.2
  have hp3 := hM.1.2.2.2.1 hv
  have hq3 := hM.1.2.2.2.2.1
  have hsl := secs_le hw3 hp3.2.1
  refine lv_aload_n hx hb dX3_reads_0 rfl (lv_at hl 0 rfl) ?_
  refine va_get (D := G.1) (ci := 3) (v := .ref b1) (C := RX3) (T := TX3) (N := 14) hx hb hts mic_reads_3 hown hK hP 0 rfl rfl 0 (by decide) (hts _ mwc_reads_0) (fun _ h9 => h9) rfl dX3_reads_1 ?_
  refine lv_iconst (v := nI 5) hx hb dX3_reads_4 (by decide) ?_
  refine lv_dup2_11 hx hb dX3_reads_5 rfl rfl ?_
  refine zk_ald (f := sg) (k := 5) hx hb hK hP 1 0 rfl rfl (Nat.le_of_ble_eq_true rfl) (by omega) dX3_reads_6 ?_
  refine lv_aload_n hx hb dX3_reads_7 rfl (lv_at hl 0 rfl) ?_
  refine va_get (D := G.1) (ci := 3) (v := .ref b1) (C := RX3) (T := TX3) (N := 14) hx hb hts mic_reads_3 hown hK hP 0 rfl rfl 0 (by decide) (hts _ mwc_reads_0) (fun _ h9 => h9) rfl dX3_reads_8 ?_
  refine lv_aload_n hx hb dX3_reads_11 rfl (lv_at hl 0 rfl) ?_
  refine va_get (D := G.1) (ci := 3) (v := .ref b1) (C := RX3) (T := TX3) (N := 14) hx hb hts mic_reads_3 hown hK hP 0 rfl rfl 0 (by decide) (hts _ mwc_reads_0) (fun _ h9 => h9) rfl dX3_reads_12 ?_
  refine lv_iconst (v := nI 0) hx hb dX3_reads_15 (by decide) ?_
  refine zk_ald (f := sg) (k := 0) hx hb hK hP 1 0 rfl rfl (Nat.le_of_ble_eq_true rfl) (by omega) dX3_reads_16 ?_
  refine lv_iload_n hx hb dX3_reads_17 rfl (lv_at hl 1 rfl) ?_
  refine lv_iconst (v := nI 0) hx hb dX3_reads_18 (by decide) ?_
  refine zc_S (As := [.int (nI (sg 0)), .int (nI t), .int (nI 0)]) (rest := [.ref b1, .int (nI (sg 5)), .int (nI 5), .ref b1]) ⟨hx, hb, hml, hown, hts⟩ (c_of l (sg 0) t 0 ) (va_cwS 3 hts gX3_reads_X3_of rfl rfl rfl (by decide +kernel) ⟨Nat.le_of_ble_eq_true rfl, Nat.le_of_ble_eq_true rfl⟩) rfl hl.1 rfl (Nat.le_of_ble_eq_true rfl) dX3_reads_19 ⟨Nat.zero_le _, Nat.zero_le _⟩ (fun r19 h19 => ?_)
  subst h19
  refine zk_ald (f := sg) (k := 11 + 76 * (sg 0) + 15 * t + 0) hx hb hK hP 1 0 rfl rfl (Nat.le_of_ble_eq_true rfl) (by omega) dX3_reads_22 ?_
  refine lv_aload_n hx hb dX3_reads_23 rfl (lv_at hl 0 rfl) ?_
  refine va_get (D := G.1) (ci := 3) (v := .ref b1) (C := RX3) (T := TX3) (N := 14) hx hb hts mic_reads_3 hown hK hP 0 rfl rfl 0 (by decide) (hts _ mwc_reads_0) (fun _ h9 => h9) rfl dX3_reads_24 ?_
  refine lv_iconst (v := nI 4) hx hb dX3_reads_27 (by decide) ?_
  refine zk_ald (f := sg) (k := 4) hx hb hK hP 1 0 rfl rfl (Nat.le_of_ble_eq_true rfl) (by omega) dX3_reads_28 ?_
  refine zc_S (As := [.int (nI (sg (11 + 76 * (sg 0) + 15 * t + 0))), .int (nI (sg 4))]) (rest := [.int (nI (sg 5)), .int (nI 5), .ref b1]) ⟨hx, hb, hml, hown, hts⟩ (c_seconds l (sg (11 + 76 * (sg 0) + 15 * t + 0)) (sg 4) hw3 (by omega) (by omega)) (va_cwS 2 hts gX3_reads_X3_seconds rfl rfl rfl (by decide +kernel) ⟨Nat.le_of_ble_eq_true rfl, Nat.le_of_ble_eq_true rfl⟩) rfl hl.1 rfl (Nat.le_of_ble_eq_true rfl) dX3_reads_29 ⟨Nat.zero_le _, Nat.zero_le _⟩ (fun r29 h29 => ?_)
  subst h29
  refine zk_sub hx hb dX3_reads_32 (by omega) ?_
  refine zk_ast (f := sg) (k := 5) (v := (sg 5) - (secs (sg (11 + 76 * (sg 0) + 15 * t + 0)) (sg 4))) (ws2 := [(b0, .inr (3, [.ref b1, .ref b2, .ref b3, .int (nI kn), .ref b4, .int (nI ik), .ref b5, .int (nI ty), .int ra, .int rb, .int (nI rd), .int (nI iw), .ref b6, .int fl])), (b1, .inl (G.2.1, 618, .inl (arN (arU sg 5 ((sg 5) - (secs (sg (11 + 76 * (sg 0) + 15 * t + 0)) (sg 4)))))))]) hx hb hK hP hD hS 1 0 rfl rfl (Nat.le_of_ble_eq_true rfl) (by omega) rfl dX3_reads_33 (fun H locs hP hD hS => ?_)
  refine lv_aload_n hx hb dX3_reads_34 rfl (lv_at hl 0 rfl) ?_
  refine va_get (D := G.1) (ci := 3) (v := .ref b1) (C := RX3) (T := TX3) (N := 14) hx hb hts mic_reads_3 hown hK hP 0 rfl rfl 0 (by decide) (hts _ mwc_reads_0) (fun _ h9 => h9) rfl dX3_reads_35 ?_
  refine lv_bipush (v := nI 6) hx hb dX3_reads_38 (by decide) ?_
  refine lv_dup2_11 hx hb dX3_reads_40 rfl rfl ?_
  refine zk_ald (f := arU sg 5 ((sg 5) - (secs (sg (11 + 76 * (sg 0) + 15 * t + 0)) (sg 4)))) (k := 6) hx hb hK hP 1 0 rfl rfl (Nat.le_of_ble_eq_true rfl) (by omega) dX3_reads_41 ?_
  refine zk_top (y := nI (sg 6)) (congrArg nI (arU_n (by omega))) ?_
  refine lv_aload_n hx hb dX3_reads_42 rfl (lv_at hl 0 rfl) ?_
  refine va_get (D := G.1) (ci := 3) (v := .ref b1) (C := RX3) (T := TX3) (N := 14) hx hb hts mic_reads_3 hown hK hP 0 rfl rfl 0 (by decide) (hts _ mwc_reads_0) (fun _ h9 => h9) rfl dX3_reads_43 ?_
  refine lv_aload_n hx hb dX3_reads_46 rfl (lv_at hl 0 rfl) ?_
  refine va_get (D := G.1) (ci := 3) (v := .ref b1) (C := RX3) (T := TX3) (N := 14) hx hb hts mic_reads_3 hown hK hP 0 rfl rfl 0 (by decide) (hts _ mwc_reads_0) (fun _ h9 => h9) rfl dX3_reads_47 ?_
  refine lv_iconst (v := nI 0) hx hb dX3_reads_50 (by decide) ?_
  refine zk_ald (f := arU sg 5 ((sg 5) - (secs (sg (11 + 76 * (sg 0) + 15 * t + 0)) (sg 4)))) (k := 0) hx hb hK hP 1 0 rfl rfl (Nat.le_of_ble_eq_true rfl) (by omega) dX3_reads_51 ?_
  refine zk_top (y := nI (sg 0)) (congrArg nI (arU_n (by omega))) ?_
  refine lv_iload_n hx hb dX3_reads_52 rfl (lv_at hl 1 rfl) ?_
  refine lv_iconst (v := nI 3) hx hb dX3_reads_53 (by decide) ?_
  refine zc_S (As := [.int (nI (sg 0)), .int (nI t), .int (nI 3)]) (rest := [.ref b1, .int (nI (sg 6)), .int (nI 6), .ref b1]) ⟨hx, hb, hml, hown, hts⟩ (c_of l (sg 0) t 3 ) (va_cwS 3 hts gX3_reads_X3_of rfl rfl rfl (by decide +kernel) ⟨Nat.le_of_ble_eq_true rfl, Nat.le_of_ble_eq_true rfl⟩) rfl hl.1 rfl (Nat.le_of_ble_eq_true rfl) dX3_reads_54 ⟨Nat.zero_le _, Nat.zero_le _⟩ (fun r54 h54 => ?_)
  subst h54
  refine zk_ald (f := arU sg 5 ((sg 5) - (secs (sg (11 + 76 * (sg 0) + 15 * t + 0)) (sg 4)))) (k := 11 + 76 * (sg 0) + 15 * t + 3) hx hb hK hP 1 0 rfl rfl (Nat.le_of_ble_eq_true rfl) (by omega) dX3_reads_57 ?_
  refine zk_top (y := nI (sg (11 + 76 * (sg 0) + 15 * t + 3))) (congrArg nI (arU_n (by omega))) ?_
  refine zk_or hx hb dX3_reads_58 ?_
  refine zk_ast (f := arU sg 5 ((sg 5) - (secs (sg (11 + 76 * (sg 0) + 15 * t + 0)) (sg 4)))) (k := 6) (v := (sg 6) ||| (sg (11 + 76 * (sg 0) + 15 * t + 3))) (ws2 := [(b0, .inr (3, [.ref b1, .ref b2, .ref b3, .int (nI kn), .ref b4, .int (nI ik), .ref b5, .int (nI ty), .int ra, .int rb, .int (nI rd), .int (nI iw), .ref b6, .int fl])), (b1, .inl (G.2.1, 618, .inl (arN (arU (arU sg 5 ((sg 5) - (secs (sg (11 + 76 * (sg 0) + 15 * t + 0)) (sg 4)))) 6 ((sg 6) ||| (sg (11 + 76 * (sg 0) + 15 * t + 3)))))))]) hx hb hK hP hD hS 1 0 rfl rfl (Nat.le_of_ble_eq_true rfl) (by omega) rfl dX3_reads_59 (fun H locs hP hD hS => ?_)
  refine lv_aload_n hx hb dX3_reads_60 rfl (lv_at hl 0 rfl) ?_
  refine va_get (D := G.1) (ci := 3) (v := .ref b1) (C := RX3) (T := TX3) (N := 14) hx hb hts mic_reads_3 hown hK hP 0 rfl rfl 0 (by decide) (hts _ mwc_reads_0) (fun _ h9 => h9) rfl dX3_reads_61 ?_
  refine lv_aload_n hx hb dX3_reads_64 rfl (lv_at hl 0 rfl) ?_
  refine va_get (D := G.1) (ci := 3) (v := .ref b1) (C := RX3) (T := TX3) (N := 14) hx hb hts mic_reads_3 hown hK hP 0 rfl rfl 0 (by decide) (hts _ mwc_reads_0) (fun _ h9 => h9) rfl dX3_reads_65 ?_
  refine lv_iconst (v := nI 0) hx hb dX3_reads_68 (by decide) ?_
  refine zk_ald (f := arU (arU sg 5 ((sg 5) - (secs (sg (11 + 76 * (sg 0) + 15 * t + 0)) (sg 4)))) 6 ((sg 6) ||| (sg (11 + 76 * (sg 0) + 15 * t + 3)))) (k := 0) hx hb hK hP 1 0 rfl rfl (Nat.le_of_ble_eq_true rfl) (by omega) dX3_reads_69 ?_
  refine zk_top (y := nI (sg 0)) (congrArg nI ((arU_n (by omega)).trans (arU_n (by omega)))) ?_
  refine lv_iload_n hx hb dX3_reads_70 rfl (lv_at hl 1 rfl) ?_
  refine lv_iconst (v := nI 4) hx hb dX3_reads_71 (by decide) ?_
  refine zc_S (As := [.int (nI (sg 0)), .int (nI t), .int (nI 4)]) (rest := [.ref b1]) ⟨hx, hb, hml, hown, hts⟩ (c_of l (sg 0) t 4 ) (va_cwS 3 hts gX3_reads_X3_of rfl rfl rfl (by decide +kernel) ⟨Nat.le_of_ble_eq_true rfl, Nat.le_of_ble_eq_true rfl⟩) rfl hl.1 rfl (Nat.le_of_ble_eq_true rfl) dX3_reads_72 ⟨Nat.zero_le _, Nat.zero_le _⟩ (fun r72 h72 => ?_)
  subst h72
  refine lv_dup2_11 hx hb dX3_reads_75 rfl rfl ?_
  refine zk_ald (f := arU (arU sg 5 ((sg 5) - (secs (sg (11 + 76 * (sg 0) + 15 * t + 0)) (sg 4)))) 6 ((sg 6) ||| (sg (11 + 76 * (sg 0) + 15 * t + 3)))) (k := 11 + 76 * (sg 0) + 15 * t + 4) hx hb hK hP 1 0 rfl rfl (Nat.le_of_ble_eq_true rfl) (by omega) dX3_reads_76 ?_
  refine zk_top (y := nI (sg (11 + 76 * (sg 0) + 15 * t + 4))) (congrArg nI ((arU_n (by omega)).trans (arU_n (by omega)))) ?_
  refine lv_iconst (v := nI 1) hx hb dX3_reads_77 (by decide) ?_
  refine zk_add hx hb dX3_reads_78 ?_
  refine zk_ast (f := arU (arU sg 5 ((sg 5) - (secs (sg (11 + 76 * (sg 0) + 15 * t + 0)) (sg 4)))) 6 ((sg 6) ||| (sg (11 + 76 * (sg 0) + 15 * t + 3)))) (k := 11 + 76 * (sg 0) + 15 * t + 4) (v := (sg (11 + 76 * (sg 0) + 15 * t + 4)) + 1) (ws2 := [(b0, .inr (3, [.ref b1, .ref b2, .ref b3, .int (nI kn), .ref b4, .int (nI ik), .ref b5, .int (nI ty), .int ra, .int rb, .int (nI rd), .int (nI iw), .ref b6, .int fl])), (b1, .inl (G.2.1, 618, .inl (arN (arU (arU (arU sg 5 ((sg 5) - (secs (sg (11 + 76 * (sg 0) + 15 * t + 0)) (sg 4)))) 6 ((sg 6) ||| (sg (11 + 76 * (sg 0) + 15 * t + 3)))) (11 + 76 * (sg 0) + 15 * t + 4) ((sg (11 + 76 * (sg 0) + 15 * t + 4)) + 1)))))]) hx hb hK hP hD hS 1 0 rfl rfl (Nat.le_of_ble_eq_true rfl) (by omega) rfl dX3_reads_79 (fun H locs hP hD hS => ?_)
  refine lv_aload_n hx hb dX3_reads_80 rfl (lv_at hl 0 rfl) ?_
  refine va_get (D := G.1) (ci := 3) (v := .ref b1) (C := RX3) (T := TX3) (N := 14) hx hb hts mic_reads_3 hown hK hP 0 rfl rfl 0 (by decide) (hts _ mwc_reads_0) (fun _ h9 => h9) rfl dX3_reads_81 ?_
  refine lv_bipush (v := nI 8) hx hb dX3_reads_84 (by decide) ?_
  refine lv_dup2_11 hx hb dX3_reads_86 rfl rfl ?_
  refine zk_ald (f := arU (arU (arU sg 5 ((sg 5) - (secs (sg (11 + 76 * (sg 0) + 15 * t + 0)) (sg 4)))) 6 ((sg 6) ||| (sg (11 + 76 * (sg 0) + 15 * t + 3)))) (11 + 76 * (sg 0) + 15 * t + 4) ((sg (11 + 76 * (sg 0) + 15 * t + 4)) + 1)) (k := 8) hx hb hK hP 1 0 rfl rfl (Nat.le_of_ble_eq_true rfl) (by omega) dX3_reads_87 ?_
  refine zk_top (y := nI (sg 8)) (congrArg nI ((arU_n (by omega)).trans ((arU_n (by omega)).trans (arU_n (by omega))))) ?_
  refine lv_iconst (v := nI 1) hx hb dX3_reads_88 (by decide) ?_
  refine zk_add hx hb dX3_reads_89 ?_
  refine zk_ast (f := arU (arU (arU sg 5 ((sg 5) - (secs (sg (11 + 76 * (sg 0) + 15 * t + 0)) (sg 4)))) 6 ((sg 6) ||| (sg (11 + 76 * (sg 0) + 15 * t + 3)))) (11 + 76 * (sg 0) + 15 * t + 4) ((sg (11 + 76 * (sg 0) + 15 * t + 4)) + 1)) (k := 8) (v := (sg 8) + 1) (ws2 := [(b0, .inr (3, [.ref b1, .ref b2, .ref b3, .int (nI kn), .ref b4, .int (nI ik), .ref b5, .int (nI ty), .int ra, .int rb, .int (nI rd), .int (nI iw), .ref b6, .int fl])), (b1, .inl (G.2.1, 618, .inl (arN (arU (arU (arU (arU sg 5 ((sg 5) - (secs (sg (11 + 76 * (sg 0) + 15 * t + 0)) (sg 4)))) 6 ((sg 6) ||| (sg (11 + 76 * (sg 0) + 15 * t + 3)))) (11 + 76 * (sg 0) + 15 * t + 4) ((sg (11 + 76 * (sg 0) + 15 * t + 4)) + 1)) 8 ((sg 8) + 1)))))]) hx hb hK hP hD hS 1 0 rfl rfl (Nat.le_of_ble_eq_true rfl) (by omega) rfl dX3_reads_90 (fun H locs hP hD hS => ?_)
  exact W.vret hx hb hr (fun tT ht hW => ⟨⟨arU (arU (arU (arU sg 5 ((sg 5) - (secs (sg (11 + 76 * (sg 0) + 15 * t + 0)) (sg 4)))) 6 ((sg 6) ||| (sg (11 + 76 * (sg 0) + 15 * t + 3)))) (11 + 76 * (sg 0) + 15 * t + 4) ((sg (11 + 76 * (sg 0) + 15 * t + 4)) + 1)) 8 ((sg 8) + 1), rfl, rfl, by show va_P G.1 vwCl _ tT.heap; rw [ht]; exact hP⟩, hS.F ht⟩) hS.2.2 dX3_reads_91
set_option maxRecDepth 100000 in
theorem mwc_enter_0 : Cond.fieldLink RX3 7 "ExhibitTextsModel" "s" "[I" ∈ wsX3_enter := by decide +kernel
set_option maxRecDepth 100000 in
theorem mic_enter_3 : ∀ w ∈ u_ws RX3 TX3 14, w ∈ wsX3_enter := by decide +kernel
set_option maxHeartbeats 4000000 in
set_option maxRecDepth 100000 in
/-- X3_enter: enter -/
theorem c_enter (l : Launch) (G : zG) (b0 : Nat) (b1 : Nat) (b2 : Nat) (b3 : Nat) (b4 : Nat) (b5 : Nat) (b6 : Nat) (kn : Nat) (ik : Nat) (ty : Nat) (ra : Int32) (rb : Int32) (rd : Nat) (iw : Nat) (fl : Int32) (sg : Nat → Nat) (be : Nat → Nat) (x : Int32) (y : Int32) (z : Int32) (hM : mOK sg) (hkn : kn ≤ 4) : Met l yX3_enter wsX3_enter ({ frames := 5, cells := 0, slots := 0, locals := 113 } : Room) (zPc G [.ref b0, .int x, .int y, .int z] [(b0, .inr (3, [.ref b1, .ref b2, .ref b3, .int (nI kn), .ref b4, .int (nI ik), .ref b5, .int (nI ty), .int ra, .int rb, .int (nI rd), .int (nI iw), .ref b6, .int fl])), (b1, .inl (G.2.1, 618, .inl (arN sg))), (b3, .inl (G.2.1, 2472, .inl (arN be)))]) (va_Qi (fun (rR : Int32) (uU : Nat × (Nat → Nat) × (Nat → Nat)) => (¬ pVi x y z ∧ rR = (-2) ∧ uU = (kn, sg, be)) ∨ (∃ (aX : Nat) (pX : Nat) (sX : Nat), 4 ≤ aX ∧ aX ≤ 99 ∧ 30 ≤ pX ∧ pX ≤ 400 ∧ 1 ≤ sX ∧ sX ≤ 9999 ∧ x = nI aX ∧ y = nI pX ∧ z = nI sX ∧ sN (enT sg aX pX sX) = none ∧ rR = nI 9 ∧ uU = (knK kn, enT sg aX pX sX, knB kn be sg)) ∨ (∃ (aX : Nat) (pX : Nat) (sX : Nat) (tX : Nat), 4 ≤ aX ∧ aX ≤ 99 ∧ 30 ≤ pX ∧ pX ≤ 400 ∧ 1 ≤ sX ∧ sX ≤ 9999 ∧ x = nI aX ∧ y = nI pX ∧ z = nI sX ∧ sN (enT sg aX pX sX) = some tX ∧ rR = nI tX ∧ uU = (knK kn, enT sg aX pX sX, knB kn be sg))) (fun uU tT => va_P G.1 vwCl ((fun (uU : Nat × (Nat → Nat) × (Nat → Nat)) => ([(b0, .inr (3, [.ref b1, .ref b2, .ref b3, .int (nI uU.1), .ref b4, .int (nI ik), .ref b5, .int (nI ty), .int ra, .int rb, .int (nI rd), .int (nI iw), .ref b6, .int fl])), (b1, .inl (G.2.1, 618, .inl (arN uU.2.1))), (b3, .inl (G.2.1, 2472, .inl (arN uU.2.2)))] : va_W)) uU) tT.heap) (zIn [(b0, .inr (3, [.ref b1, .ref b2, .ref b3, .int (nI kn), .ref b4, .int (nI ik), .ref b5, .int (nI ty), .int ra, .int rb, .int (nI rd), .int (nI iw), .ref b6, .int fl])), (b1, .inl (G.2.1, 618, .inl (arN sg))), (b3, .inl (G.2.1, 2472, .inl (arN be)))])) 0 0 (zIn [(b0, .inr (3, [.ref b1, .ref b2, .ref b3, .int (nI kn), .ref b4, .int (nI ik), .ref b5, .int (nI ty), .int ra, .int rb, .int (nI rd), .int (nI iw), .ref b6, .int fl])), (b1, .inl (G.2.1, 618, .inl (arN sg))), (b3, .inl (G.2.1, 2472, .inl (arN be)))]) := by
  refine zM (cc := cX3_enter) (maxL := 4) (ret := (some .int)) (by decide) rfl (Nat.le_of_ble_eq_true rfl) ?_
  intro pP eE sS mM below meth cC hx hb hr hts hown hlk hml hnm hK hN hP hD hS ls hl
  have hl : lv_has ls 4 [(0, .ref b0), (1, .int x), (2, .int y), (3, .int z)] := hl
  refine lv_iload_n hx hb dX3_enter_0 rfl (lv_at hl 1 rfl) ?_
  refine lv_iconst (v := nI 4) hx hb dX3_enter_1 (by decide) ?_
  refine lv_bipush (v := nI 99) hx hb dX3_enter_2 (by decide) ?_
  refine zc_S (As := [.int x, .int (nI 4), .int (nI 99)]) (rest := []) ⟨hx, hb, hml, hown, hts⟩ (c_in_c l x 4 99 (by omega) (by omega)) (va_cwS 3 hts gX3_enter_X3_in rfl rfl rfl (by decide +kernel) ⟨Nat.le_of_ble_eq_true rfl, Nat.le_of_ble_eq_true rfl⟩) rfl hl.1 rfl (Nat.le_of_ble_eq_true rfl) dX3_enter_4 ⟨Nat.zero_le _, Nat.zero_le _⟩ (fun r4 h4 => ?_)
  rcases h4 with ⟨nX_4, h4_0, h4_1, rfl, rfl⟩ | ⟨h4_0, rfl⟩
  · refine lv_if_eq (tgt := 33) hx hb dX3_enter_7 (by decide) (fun q => absurd q (by decide)) (fun _ => ?_)
    refine lv_iload_n hx hb dX3_enter_10 rfl (lv_at hl 2 rfl) ?_
    refine lv_bipush (v := nI 30) hx hb dX3_enter_11 (by decide) ?_
    refine lv_sipush (v := nI 400) hx hb dX3_enter_13 (by decide) ?_
    refine zc_S (As := [.int y, .int (nI 30), .int (nI 400)]) (rest := []) ⟨hx, hb, hml, hown, hts⟩ (c_in_c l y 30 400 (by omega) (by omega)) (va_cwS 3 hts gX3_enter_X3_in rfl rfl rfl (by decide +kernel) ⟨Nat.le_of_ble_eq_true rfl, Nat.le_of_ble_eq_true rfl⟩) rfl hl.1 rfl (Nat.le_of_ble_eq_true rfl) dX3_enter_16 ⟨Nat.zero_le _, Nat.zero_le _⟩ (fun r16 h16 => ?_)
    rcases h16 with ⟨nX_16, h16_0, h16_1, rfl, rfl⟩ | ⟨h16_0, rfl⟩
    · refine lv_if_eq (tgt := 33) hx hb dX3_enter_19 (by decide) (fun q => absurd q (by decide)) (fun _ => ?_)
      refine lv_iload_n hx hb dX3_enter_22 rfl (lv_at hl 3 rfl) ?_
      refine lv_iconst (v := nI 1) hx hb dX3_enter_23 (by decide) ?_
      refine lv_sipush (v := nI 9999) hx hb dX3_enter_24 (by decide) ?_
      refine zc_S (As := [.int z, .int (nI 1), .int (nI 9999)]) (rest := []) ⟨hx, hb, hml, hown, hts⟩ (c_in_c l z 1 9999 (by omega) (by omega)) (va_cwS 3 hts gX3_enter_X3_in rfl rfl rfl (by decide +kernel) ⟨Nat.le_of_ble_eq_true rfl, Nat.le_of_ble_eq_true rfl⟩) rfl hl.1 rfl (Nat.le_of_ble_eq_true rfl) dX3_enter_27 ⟨Nat.zero_le _, Nat.zero_le _⟩ (fun r27 h27 => ?_)
      rcases h27 with ⟨nX_27, h27_0, h27_1, rfl, rfl⟩ | ⟨h27_0, rfl⟩
      · refine lv_if_ne (tgt := 36) hx hb dX3_enter_30 (by decide) (fun _ => ?_) (fun q => absurd q (by decide))
        refine lv_aload_n hx hb dX3_enter_36 rfl (lv_at hl 0 rfl) ?_
        refine zc_U (As := []) (rest := []) (ws2 := (fun (uU : Nat × (Nat → Nat)) => ([(b0, .inr (3, [.ref b1, .ref b2, .ref b3, .int (nI uU.1), .ref b4, .int (nI ik), .ref b5, .int (nI ty), .int ra, .int rb, .int (nI rd), .int (nI iw), .ref b6, .int fl])), (b1, .inl (G.2.1, 618, .inl (arN sg))), (b3, .inl (G.2.1, 2472, .inl (arN uU.2)))] : va_W))) ⟨hx, hb, hml, hown, hts⟩ (c_know l G b0 b1 b2 b3 b4 b5 b6 kn ik ty ra rb rd iw fl sg be (by omega)) (cwV 0 hts gX3_enter_X3_know rfl rfl rfl (by decide +kernel) ⟨Nat.le_of_ble_eq_true rfl, Nat.le_of_ble_eq_true rfl⟩) hK hN hP hD hS [0, 1, 2] rfl (by decide) (ci := 3) rfl rfl (fun _ => rfl) (fun _ => rfl) rfl hl.1 rfl (Nat.le_of_ble_eq_true rfl) dX3_enter_37 ⟨Nat.zero_le _, Nat.zero_le _⟩ (fun u37 H locs h37 hP hD hS => ?_)
        subst h37
        have hP : va_P G.1 vwCl [(b0, .inr (3, [.ref b1, .ref b2, .ref b3, .int (nI (knK kn)), .ref b4, .int (nI ik), .ref b5, .int (nI ty), .int ra, .int rb, .int (nI rd), .int (nI iw), .ref b6, .int fl])), (b1, .inl (G.2.1, 618, .inl (arN sg))), (b3, .inl (G.2.1, 2472, .inl (arN (knB kn be sg))))] H := hP
        have hD : va_D (zIn [(b0, .inr (3, [.ref b1, .ref b2, .ref b3, .int (nI kn), .ref b4, .int (nI ik), .ref b5, .int (nI ty), .int ra, .int rb, .int (nI rd), .int (nI iw), .ref b6, .int fl])), (b1, .inl (G.2.1, 618, .inl (arN sg))), (b3, .inl (G.2.1, 2472, .inl (arN be)))]) [(b0, .inr (3, [.ref b1, .ref b2, .ref b3, .int (nI (knK kn)), .ref b4, .int (nI ik), .ref b5, .int (nI ty), .int ra, .int rb, .int (nI rd), .int (nI iw), .ref b6, .int fl])), (b1, .inl (G.2.1, 618, .inl (arN sg))), (b3, .inl (G.2.1, 2472, .inl (arN (knB kn be sg))))] := hD
        refine lv_aload_n hx hb dX3_enter_40 rfl (lv_at hl 0 rfl) ?_
        refine va_get (D := G.1) (ci := 3) (v := .ref b1) (C := RX3) (T := TX3) (N := 14) hx hb hts mic_enter_3 hown hK hP 0 rfl rfl 0 (by decide) (hts _ mwc_enter_0) (fun _ h9 => h9) rfl dX3_enter_41 ?_
        refine lv_iconst (v := nI 2) hx hb dX3_enter_44 (by decide) ?_
        refine lv_iconst (v := nI 1) hx hb dX3_enter_45 (by decide) ?_
        refine zk_ast (f := sg) (k := 2) (v := 1) (ws2 := [(b0, .inr (3, [.ref b1, .ref b2, .ref b3, .int (nI (knK kn)), .ref b4, .int (nI ik), .ref b5, .int (nI ty), .int ra, .int rb, .int (nI rd), .int (nI iw), .ref b6, .int fl])), (b1, .inl (G.2.1, 618, .inl (arN (arU sg 2 1)))), (b3, .inl (G.2.1, 2472, .inl (arN (knB kn be sg))))]) hx hb hK hP hD hS 1 0 rfl rfl (Nat.le_of_ble_eq_true rfl) (by omega) rfl dX3_enter_46 (fun H locs hP hD hS => ?_)
        refine lv_aload_n hx hb dX3_enter_47 rfl (lv_at hl 0 rfl) ?_
        refine va_get (D := G.1) (ci := 3) (v := .ref b1) (C := RX3) (T := TX3) (N := 14) hx hb hts mic_enter_3 hown hK hP 0 rfl rfl 0 (by decide) (hts _ mwc_enter_0) (fun _ h9 => h9) rfl dX3_enter_48 ?_
        refine lv_iconst (v := nI 3) hx hb dX3_enter_51 (by decide) ?_
        refine lv_iload_n hx hb dX3_enter_52 rfl (lv_at hl 1 rfl) ?_
        refine zk_ast (f := arU sg 2 1) (k := 3) (v := nX_4) (ws2 := [(b0, .inr (3, [.ref b1, .ref b2, .ref b3, .int (nI (knK kn)), .ref b4, .int (nI ik), .ref b5, .int (nI ty), .int ra, .int rb, .int (nI rd), .int (nI iw), .ref b6, .int fl])), (b1, .inl (G.2.1, 618, .inl (arN (arU (arU sg 2 1) 3 nX_4)))), (b3, .inl (G.2.1, 2472, .inl (arN (knB kn be sg))))]) hx hb hK hP hD hS 1 0 rfl rfl (Nat.le_of_ble_eq_true rfl) (by omega) rfl dX3_enter_53 (fun H locs hP hD hS => ?_)
        refine lv_aload_n hx hb dX3_enter_54 rfl (lv_at hl 0 rfl) ?_
        refine va_get (D := G.1) (ci := 3) (v := .ref b1) (C := RX3) (T := TX3) (N := 14) hx hb hts mic_enter_3 hown hK hP 0 rfl rfl 0 (by decide) (hts _ mwc_enter_0) (fun _ h9 => h9) rfl dX3_enter_55 ?_
        refine lv_iconst (v := nI 4) hx hb dX3_enter_58 (by decide) ?_
        refine lv_iload_n hx hb dX3_enter_59 rfl (lv_at hl 2 rfl) ?_
        refine zk_ast (f := arU (arU sg 2 1) 3 nX_4) (k := 4) (v := nX_16) (ws2 := [(b0, .inr (3, [.ref b1, .ref b2, .ref b3, .int (nI (knK kn)), .ref b4, .int (nI ik), .ref b5, .int (nI ty), .int ra, .int rb, .int (nI rd), .int (nI iw), .ref b6, .int fl])), (b1, .inl (G.2.1, 618, .inl (arN (arU (arU (arU sg 2 1) 3 nX_4) 4 nX_16)))), (b3, .inl (G.2.1, 2472, .inl (arN (knB kn be sg))))]) hx hb hK hP hD hS 1 0 rfl rfl (Nat.le_of_ble_eq_true rfl) (by omega) rfl dX3_enter_60 (fun H locs hP hD hS => ?_)
        refine lv_aload_n hx hb dX3_enter_61 rfl (lv_at hl 0 rfl) ?_
        refine va_get (D := G.1) (ci := 3) (v := .ref b1) (C := RX3) (T := TX3) (N := 14) hx hb hts mic_enter_3 hown hK hP 0 rfl rfl 0 (by decide) (hts _ mwc_enter_0) (fun _ h9 => h9) rfl dX3_enter_62 ?_
        refine lv_iconst (v := nI 5) hx hb dX3_enter_65 (by decide) ?_
        refine lv_iload_n hx hb dX3_enter_66 rfl (lv_at hl 3 rfl) ?_
        refine zk_ast (f := arU (arU (arU sg 2 1) 3 nX_4) 4 nX_16) (k := 5) (v := nX_27) (ws2 := [(b0, .inr (3, [.ref b1, .ref b2, .ref b3, .int (nI (knK kn)), .ref b4, .int (nI ik), .ref b5, .int (nI ty), .int ra, .int rb, .int (nI rd), .int (nI iw), .ref b6, .int fl])), (b1, .inl (G.2.1, 618, .inl (arN (arU (arU (arU (arU sg 2 1) 3 nX_4) 4 nX_16) 5 nX_27)))), (b3, .inl (G.2.1, 2472, .inl (arN (knB kn be sg))))]) hx hb hK hP hD hS 1 0 rfl rfl (Nat.le_of_ble_eq_true rfl) (by omega) rfl dX3_enter_67 (fun H locs hP hD hS => ?_)
        refine lv_aload_n hx hb dX3_enter_68 rfl (lv_at hl 0 rfl) ?_
        refine va_get (D := G.1) (ci := 3) (v := .ref b1) (C := RX3) (T := TX3) (N := 14) hx hb hts mic_enter_3 hown hK hP 0 rfl rfl 0 (by decide) (hts _ mwc_enter_0) (fun _ h9 => h9) rfl dX3_enter_69 ?_
        refine lv_bipush (v := nI 6) hx hb dX3_enter_72 (by decide) ?_
        refine lv_iconst (v := nI 0) hx hb dX3_enter_74 (by decide) ?_
        refine zk_ast (f := arU (arU (arU (arU sg 2 1) 3 nX_4) 4 nX_16) 5 nX_27) (k := 6) (v := 0) (ws2 := [(b0, .inr (3, [.ref b1, .ref b2, .ref b3, .int (nI (knK kn)), .ref b4, .int (nI ik), .ref b5, .int (nI ty), .int ra, .int rb, .int (nI rd), .int (nI iw), .ref b6, .int fl])), (b1, .inl (G.2.1, 618, .inl (arN (arU (arU (arU (arU (arU sg 2 1) 3 nX_4) 4 nX_16) 5 nX_27) 6 0)))), (b3, .inl (G.2.1, 2472, .inl (arN (knB kn be sg))))]) hx hb hK hP hD hS 1 0 rfl rfl (Nat.le_of_ble_eq_true rfl) (by omega) rfl dX3_enter_75 (fun H locs hP hD hS => ?_)
        refine lv_aload_n hx hb dX3_enter_76 rfl (lv_at hl 0 rfl) ?_
        refine va_get (D := G.1) (ci := 3) (v := .ref b1) (C := RX3) (T := TX3) (N := 14) hx hb hts mic_enter_3 hown hK hP 0 rfl rfl 0 (by decide) (hts _ mwc_enter_0) (fun _ h9 => h9) rfl dX3_enter_77 ?_
        refine lv_bipush (v := nI 7) hx hb dX3_enter_80 (by decide) ?_
        refine lv_dup2_11 hx hb dX3_enter_82 rfl rfl ?_
        refine zk_ald (f := arU (arU (arU (arU (arU sg 2 1) 3 nX_4) 4 nX_16) 5 nX_27) 6 0) (k := 7) hx hb hK hP 1 0 rfl rfl (Nat.le_of_ble_eq_true rfl) (by omega) dX3_enter_83 ?_
        refine zk_top (y := nI (sg 7)) (congrArg nI ((arU_n (by omega)).trans ((arU_n (by omega)).trans ((arU_n (by omega)).trans ((arU_n (by omega)).trans (arU_n (by omega))))))) ?_
        refine lv_iconst (v := nI 1) hx hb dX3_enter_84 (by decide) ?_
        refine zk_add hx hb dX3_enter_85 ?_
        refine zk_ast (f := arU (arU (arU (arU (arU sg 2 1) 3 nX_4) 4 nX_16) 5 nX_27) 6 0) (k := 7) (v := (sg 7) + 1) (ws2 := [(b0, .inr (3, [.ref b1, .ref b2, .ref b3, .int (nI (knK kn)), .ref b4, .int (nI ik), .ref b5, .int (nI ty), .int ra, .int rb, .int (nI rd), .int (nI iw), .ref b6, .int fl])), (b1, .inl (G.2.1, 618, .inl (arN (arU (arU (arU (arU (arU (arU sg 2 1) 3 nX_4) 4 nX_16) 5 nX_27) 6 0) 7 ((sg 7) + 1))))), (b3, .inl (G.2.1, 2472, .inl (arN (knB kn be sg))))]) hx hb hK hP hD hS 1 0 rfl rfl (Nat.le_of_ble_eq_true rfl) (by omega) rfl dX3_enter_86 (fun H locs hP hD hS => ?_)
        have en : arU (arU (arU (arU (arU (arU sg 2 1) 3 nX_4) 4 nX_16) 5 nX_27) 6 0) 7 ((sg 7) + 1) = enT sg nX_4 nX_16 nX_27 := rfl
        rw [en] at hP hD
        refine lv_aload_n hx hb dX3_enter_87 rfl (lv_at hl 0 rfl) ?_
        have hM2 := mOK_enT (sg := sg) hM ⟨h4_0, h4_1⟩ ⟨h16_0, h16_1⟩ h27_1
        refine zc_R (As := []) (rest := []) ⟨hx, hb, hml, hown, hts⟩ (c_shownNow l G b0 b1 b2 b3 b4 b5 b6 (knK kn) ik ty ra rb rd iw fl (enT sg nX_4 nX_16 nX_27) hM2) (cwV 0 hts gX3_enter_X3_shownNow rfl rfl rfl (by decide +kernel) ⟨Nat.le_of_ble_eq_true rfl, Nat.le_of_ble_eq_true rfl⟩) hK hN hP hD [0, 1] rfl (by decide) (ci := 3) rfl rfl rfl hl.1 rfl (Nat.le_of_ble_eq_true rfl) dX3_enter_88 ⟨Nat.zero_le _, Nat.zero_le _⟩ (fun r88 h88 => ?_)
        rcases h88 with ⟨h88_0, rfl⟩ | ⟨tX_88, h88_0, rfl⟩
        · refine lv_bipush (v := (-5)) hx hb dX3_enter_91 (by decide) ?_
          refine lv_icmp_ne (tgt := 101) hx hb dX3_enter_93 (by decide) (fun q => absurd (by decide) q) (fun _ => ?_)
          refine lv_bipush (v := nI 9) hx hb dX3_enter_96 (by decide) ?_
          refine lv_goto (tgt := 105) hx hb dX3_enter_98 (by decide) ?_
          exact W.iret (v := nI 9) hx hb hr (fun tT ht hW => ⟨⟨_, (knK kn, enT sg nX_4 nX_16 nX_27, knB kn be sg), rfl, Or.inr (Or.inl ⟨nX_4, nX_16, nX_27, h4_0, h4_1, h16_0, h16_1, h27_0, h27_1, rfl, rfl, rfl, h88_0, rfl, rfl⟩), by show va_P G.1 vwCl _ tT.heap; rw [ht]; exact hP⟩, hS.F ht⟩) hS.2.2 dX3_enter_105
        · refine lv_bipush (v := (-5)) hx hb dX3_enter_91 (by decide) ?_
          refine lv_icmp_ne (tgt := 101) hx hb dX3_enter_93 (by decide) (fun _ => ?_) (fun q => absurd q (enc_ne (by have := sN_some hM2 h88_0; have := hM2.2.1 _ hM2.1.1; omega)))
          refine lv_aload_n hx hb dX3_enter_101 rfl (lv_at hl 0 rfl) ?_
          refine zc_R (As := []) (rest := []) ⟨hx, hb, hml, hown, hts⟩ (c_shownNow l G b0 b1 b2 b3 b4 b5 b6 (knK kn) ik ty ra rb rd iw fl (enT sg nX_4 nX_16 nX_27) hM2) (cwV 0 hts gX3_enter_X3_shownNow rfl rfl rfl (by decide +kernel) ⟨Nat.le_of_ble_eq_true rfl, Nat.le_of_ble_eq_true rfl⟩) hK hN hP hD [0, 1] rfl (by decide) (ci := 3) rfl rfl rfl hl.1 rfl (Nat.le_of_ble_eq_true rfl) dX3_enter_102 ⟨Nat.zero_le _, Nat.zero_le _⟩ (fun r102 h102 => ?_)
          rcases h102 with ⟨h102_0, rfl⟩ | ⟨tX_102, h102_0, rfl⟩
          · rw [h88_0] at h102_0; cases h102_0
          · exact W.iret (v := nI tX_102) hx hb hr (fun tT ht hW => ⟨⟨_, (knK kn, enT sg nX_4 nX_16 nX_27, knB kn be sg), rfl, Or.inr (Or.inr ⟨nX_4, nX_16, nX_27, tX_102, h4_0, h4_1, h16_0, h16_1, h27_0, h27_1, rfl, rfl, rfl, h102_0, rfl, rfl⟩), by show va_P G.1 vwCl _ tT.heap; rw [ht]; exact hP⟩, hS.F ht⟩) hS.2.2 dX3_enter_105
      · refine lv_if_ne (tgt := 36) hx hb dX3_enter_30 (by decide) (fun q => absurd (by decide) q) (fun _ => ?_)
        refine lv_bipush (v := (-2)) hx hb dX3_enter_33 (by decide) ?_
        exact W.iret (v := (-2)) hx hb hr (fun tT ht hW => ⟨⟨_, (kn, sg, be), rfl, Or.inl ⟨fun ⟨a, b, c, q1, q2, q3, q4, q5, q6, q7, q8, q9⟩ => h27_0 ⟨c, q5, q6, q9⟩, rfl, rfl⟩, by show va_P G.1 vwCl _ tT.heap; rw [ht]; exact hP⟩, hS.F ht⟩) hS.2.2 dX3_enter_35
    · refine lv_if_eq (tgt := 33) hx hb dX3_enter_19 (by decide) (fun _ => ?_) (fun q => absurd (by decide) q)
      refine lv_bipush (v := (-2)) hx hb dX3_enter_33 (by decide) ?_
      exact W.iret (v := (-2)) hx hb hr (fun tT ht hW => ⟨⟨_, (kn, sg, be), rfl, Or.inl ⟨fun ⟨a, b, c, q1, q2, q3, q4, q5, q6, q7, q8, q9⟩ => h16_0 ⟨b, q3, q4, q8⟩, rfl, rfl⟩, by show va_P G.1 vwCl _ tT.heap; rw [ht]; exact hP⟩, hS.F ht⟩) hS.2.2 dX3_enter_35
  · refine lv_if_eq (tgt := 33) hx hb dX3_enter_7 (by decide) (fun _ => ?_) (fun q => absurd (by decide) q)
    refine lv_bipush (v := (-2)) hx hb dX3_enter_33 (by decide) ?_
    exact W.iret (v := (-2)) hx hb hr (fun tT ht hW => ⟨⟨_, (kn, sg, be), rfl, Or.inl ⟨fun ⟨a, b, c, q1, q2, q3, q4, q5, q6, q7, q8, q9⟩ => h4_0 ⟨a, q1, q2, q7⟩, rfl, rfl⟩, by show va_P G.1 vwCl _ tT.heap; rw [ht]; exact hP⟩, hS.F ht⟩) hS.2.2 dX3_enter_35
set_option maxRecDepth 100000 in
theorem mwc_touch_0 : Cond.fieldLink RX3 7 "ExhibitTextsModel" "s" "[I" ∈ wsX3_touch := by decide +kernel
set_option maxRecDepth 100000 in
theorem mic_touch_3 : ∀ w ∈ u_ws RX3 TX3 14, w ∈ wsX3_touch := by decide +kernel
set_option maxHeartbeats 4000000 in
set_option maxRecDepth 100000 in
/-- X3_touch: touch -/
theorem c_touch (l : Launch) (G : zG) (b0 : Nat) (b1 : Nat) (b2 : Nat) (b3 : Nat) (b4 : Nat) (b5 : Nat) (b6 : Nat) (kn : Nat) (ik : Nat) (ty : Nat) (ra : Int32) (rb : Int32) (rd : Nat) (iw : Nat) (fl : Int32) (sg : Nat → Nat) (be : Nat → Nat) (y : Int32) (hM : mOK sg) (hkn : kn ≤ 4) : Met l yX3_touch wsX3_touch ({ frames := 5, cells := 0, slots := 0, locals := 113 } : Room) (zPc G [.ref b0, .int y] [(b0, .inr (3, [.ref b1, .ref b2, .ref b3, .int (nI kn), .ref b4, .int (nI ik), .ref b5, .int (nI ty), .int ra, .int rb, .int (nI rd), .int (nI iw), .ref b6, .int fl])), (b1, .inl (G.2.1, 618, .inl (arN sg))), (b3, .inl (G.2.1, 2472, .inl (arN be)))]) (va_Qi (fun (rR : Int32) (uU : Nat × (Nat → Nat) × (Nat → Nat)) => (sN sg = none ∧ rR = (-4) ∧ uU = (kn, sg, be)) ∨ (∃ (tX : Nat), sN sg = some tX ∧ (¬ ∃ k : Nat, k < sg (11 + 76 * sg 0 + 15 * tX + 5) ∧ y = nI k) ∧ rR = (-1) ∧ uU = (kn, sg, be)) ∨ (∃ (tX : Nat) (kX : Nat), sN sg = some tX ∧ kX < sg (11 + 76 * sg 0 + 15 * tX + 5) ∧ y = nI kX ∧ sg 5 < secs (sg (11 + 76 * sg 0 + 15 * tX + (6 + 3 * kX + 0))) (sg 4) ∧ rR = (-5) ∧ uU = (kn, sg, be)) ∨ (∃ (tX : Nat) (kX : Nat), sN sg = some tX ∧ kX < sg (11 + 76 * sg 0 + 15 * tX + 5) ∧ y = nI kX ∧ secs (sg (11 + 76 * sg 0 + 15 * tX + (6 + 3 * kX + 0))) (sg 4) ≤ sg 5 ∧ rR = nI (bitsN (tcT sg tX kX 6) 16) - nI (bitsN (sg 6) 16) ∧ uU = (knK kn, tcT sg tX kX, knB kn be sg))) (fun uU tT => va_P G.1 vwCl ((fun (uU : Nat × (Nat → Nat) × (Nat → Nat)) => ([(b0, .inr (3, [.ref b1, .ref b2, .ref b3, .int (nI uU.1), .ref b4, .int (nI ik), .ref b5, .int (nI ty), .int ra, .int rb, .int (nI rd), .int (nI iw), .ref b6, .int fl])), (b1, .inl (G.2.1, 618, .inl (arN uU.2.1))), (b3, .inl (G.2.1, 2472, .inl (arN uU.2.2)))] : va_W)) uU) tT.heap) (zIn [(b0, .inr (3, [.ref b1, .ref b2, .ref b3, .int (nI kn), .ref b4, .int (nI ik), .ref b5, .int (nI ty), .int ra, .int rb, .int (nI rd), .int (nI iw), .ref b6, .int fl])), (b1, .inl (G.2.1, 618, .inl (arN sg))), (b3, .inl (G.2.1, 2472, .inl (arN be)))])) 0 0 (zIn [(b0, .inr (3, [.ref b1, .ref b2, .ref b3, .int (nI kn), .ref b4, .int (nI ik), .ref b5, .int (nI ty), .int ra, .int rb, .int (nI rd), .int (nI iw), .ref b6, .int fl])), (b1, .inl (G.2.1, 618, .inl (arN sg))), (b3, .inl (G.2.1, 2472, .inl (arN be)))]) := by
  refine zM (cc := cX3_touch) (maxL := 5) (ret := (some .int)) (by decide) rfl (Nat.le_of_ble_eq_true rfl) ?_
  intro pP eE sS mM below meth cC hx hb hr hts hown hlk hml hnm hK hN hP hD hS ls hl
  have hl : lv_has ls 5 [(0, .ref b0), (1, .int y)] := hl
  refine lv_aload_n hx hb dX3_touch_0 rfl (lv_at hl 0 rfl) ?_
  refine zc_R (As := []) (rest := []) ⟨hx, hb, hml, hown, hts⟩ (c_shownNow l G b0 b1 b2 b3 b4 b5 b6 kn ik ty ra rb rd iw fl sg (by omega)) (cwV 0 hts gX3_touch_X3_shownNow rfl rfl rfl (by decide +kernel) ⟨Nat.le_of_ble_eq_true rfl, Nat.le_of_ble_eq_true rfl⟩) hK hN hP hD [0, 1] rfl (by decide) (ci := 3) rfl rfl rfl hl.1 rfl (Nat.le_of_ble_eq_true rfl) dX3_touch_1 ⟨Nat.zero_le _, Nat.zero_le _⟩ (fun r1 h1 => ?_)
  rcases h1 with ⟨h1_0, rfl⟩ | ⟨tX_1, h1_0, rfl⟩
  · refine lv_istore_n (lv' := [(2, .int (-5)), (0, .ref b0), (1, .int y)]) hx hb dX3_touch_4 rfl hl (by decide) rfl (fun ls hl => ?_)
    refine lv_iload_n hx hb dX3_touch_5 rfl (lv_at hl 0 rfl) ?_
    refine lv_bipush (v := (-5)) hx hb dX3_touch_6 (by decide) ?_
    refine lv_icmp_ne (tgt := 14) hx hb dX3_touch_8 (by decide) (fun q => absurd (by decide) q) (fun _ => ?_)
    refine lv_bipush (v := (-4)) hx hb dX3_touch_11 (by decide) ?_
    exact W.iret (v := (-4)) hx hb hr (fun tT ht hW => ⟨⟨_, (kn, sg, be), rfl, Or.inl ⟨h1_0, rfl, rfl⟩, by show va_P G.1 vwCl _ tT.heap; rw [ht]; exact hP⟩, hS.F ht⟩) hS.2.2 dX3_touch_13
  · have h00 := hM.1.1
    have hs := sN_some hM h1_0
    have hTX := hM.2.2 _ tX_1 hM.1.1 hs.2
    have hz := hM.2.1 _ hM.1.1
    have hc3 := hTX.2.2.2.2.1
    have hw3 := hTX.1.2
    have hp3 := hM.1.2.2.2.1 hs.1
    refine lv_istore_n (lv' := [(2, .int (nI tX_1)), (0, .ref b0), (1, .int y)]) hx hb dX3_touch_4 rfl hl (by decide) rfl (fun ls hl => ?_)
    refine lv_iload_n hx hb dX3_touch_5 rfl (lv_at hl 0 rfl) ?_
    refine lv_bipush (v := (-5)) hx hb dX3_touch_6 (by decide) ?_
    refine lv_icmp_ne (tgt := 14) hx hb dX3_touch_8 (by decide) (fun _ => ?_) (fun q => absurd q (enc_ne (by omega)))
    refine lv_aload_n hx hb dX3_touch_14 rfl (lv_at hl 1 rfl) ?_
    refine lv_aload_n hx hb dX3_touch_15 rfl (lv_at hl 1 rfl) ?_
    refine va_get (D := G.1) (ci := 3) (v := .ref b1) (C := RX3) (T := TX3) (N := 14) hx hb hts mic_touch_3 hown hK hP 0 rfl rfl 0 (by decide) (hts _ mwc_touch_0) (fun _ h9 => h9) rfl dX3_touch_16 ?_
    refine lv_iconst (v := nI 0) hx hb dX3_touch_19 (by decide) ?_
    refine zk_ald (f := sg) (k := 0) hx hb hK hP 1 0 rfl rfl (Nat.le_of_ble_eq_true rfl) (by omega) dX3_touch_20 ?_
    refine lv_iload_n hx hb dX3_touch_21 rfl (lv_at hl 0 rfl) ?_
    refine lv_iload_n hx hb dX3_touch_22 rfl (lv_at hl 2 rfl) ?_
    refine zc_R (As := [.int (nI (sg 0)), .int (nI tX_1), .int y]) (rest := []) ⟨hx, hb, hml, hown, hts⟩ (c_isCaption_k l G b0 b1 b2 b3 b4 b5 b6 kn ik ty ra rb rd iw fl sg (sg 0) tX_1 y (by omega) hM.1.1 hs.2) (cwV 3 hts gX3_touch_X3_isCaption rfl rfl rfl (by decide +kernel) ⟨Nat.le_of_ble_eq_true rfl, Nat.le_of_ble_eq_true rfl⟩) hK hN hP hD [0, 1] rfl (by decide) (ci := 3) rfl rfl rfl hl.1 rfl (Nat.le_of_ble_eq_true rfl) dX3_touch_23 ⟨Nat.zero_le _, Nat.zero_le _⟩ (fun r23 h23 => ?_)
    rcases h23 with ⟨kX_23, h23_0, rfl, rfl⟩ | ⟨h23_0, rfl⟩
    · have hcp := hTX.2.2.2.2.2 kX_23 h23_0
      have hq3 := hM.1.2.2.2.2
      have hsl := secs_le (w := sg (11 + 76 * sg 0 + 15 * tX_1 + (6 + 3 * kX_23 + 0))) (by omega) hp3.2.1
      refine lv_if_ne (tgt := 31) hx hb dX3_touch_26 (by decide) (fun _ => ?_) (fun q => absurd q (by decide))
      refine lv_aload_n hx hb dX3_touch_31 rfl (lv_at hl 1 rfl) ?_
      refine va_get (D := G.1) (ci := 3) (v := .ref b1) (C := RX3) (T := TX3) (N := 14) hx hb hts mic_touch_3 hown hK hP 0 rfl rfl 0 (by decide) (hts _ mwc_touch_0) (fun _ h9 => h9) rfl dX3_touch_32 ?_
      refine lv_aload_n hx hb dX3_touch_35 rfl (lv_at hl 1 rfl) ?_
      refine va_get (D := G.1) (ci := 3) (v := .ref b1) (C := RX3) (T := TX3) (N := 14) hx hb hts mic_touch_3 hown hK hP 0 rfl rfl 0 (by decide) (hts _ mwc_touch_0) (fun _ h9 => h9) rfl dX3_touch_36 ?_
      refine lv_iconst (v := nI 0) hx hb dX3_touch_39 (by decide) ?_
      refine zk_ald (f := sg) (k := 0) hx hb hK hP 1 0 rfl rfl (Nat.le_of_ble_eq_true rfl) (by omega) dX3_touch_40 ?_
      refine lv_iload_n hx hb dX3_touch_41 rfl (lv_at hl 0 rfl) ?_
      refine lv_iload_n hx hb dX3_touch_42 rfl (lv_at hl 2 rfl) ?_
      refine lv_iconst (v := nI 0) hx hb dX3_touch_43 (by decide) ?_
      refine zc_S (As := [.int (nI (sg 0)), .int (nI tX_1), .int (nI kX_23), .int (nI 0)]) (rest := [.ref b1]) ⟨hx, hb, hml, hown, hts⟩ (c_ofCaption l (sg 0) tX_1 kX_23 0 ) (va_cwS 4 hts gX3_touch_X3_ofCaption rfl rfl rfl (by decide +kernel) ⟨Nat.le_of_ble_eq_true rfl, Nat.le_of_ble_eq_true rfl⟩) rfl hl.1 rfl (Nat.le_of_ble_eq_true rfl) dX3_touch_44 ⟨Nat.zero_le _, Nat.zero_le _⟩ (fun r44 h44 => ?_)
      subst h44
      refine zk_ald (f := sg) (k := 11 + 76 * (sg 0) + 15 * tX_1 + (6 + 3 * kX_23 + 0)) hx hb hK hP 1 0 rfl rfl (Nat.le_of_ble_eq_true rfl) (by omega) dX3_touch_47 ?_
      refine lv_aload_n hx hb dX3_touch_48 rfl (lv_at hl 1 rfl) ?_
      refine va_get (D := G.1) (ci := 3) (v := .ref b1) (C := RX3) (T := TX3) (N := 14) hx hb hts mic_touch_3 hown hK hP 0 rfl rfl 0 (by decide) (hts _ mwc_touch_0) (fun _ h9 => h9) rfl dX3_touch_49 ?_
      refine lv_iconst (v := nI 4) hx hb dX3_touch_52 (by decide) ?_
      refine zk_ald (f := sg) (k := 4) hx hb hK hP 1 0 rfl rfl (Nat.le_of_ble_eq_true rfl) (by omega) dX3_touch_53 ?_
      refine zc_S (As := [.int (nI (sg (11 + 76 * (sg 0) + 15 * tX_1 + (6 + 3 * kX_23 + 0)))), .int (nI (sg 4))]) (rest := []) ⟨hx, hb, hml, hown, hts⟩ (c_seconds l (sg (11 + 76 * (sg 0) + 15 * tX_1 + (6 + 3 * kX_23 + 0))) (sg 4) (by omega) (by omega) (by omega)) (va_cwS 2 hts gX3_touch_X3_seconds rfl rfl rfl (by decide +kernel) ⟨Nat.le_of_ble_eq_true rfl, Nat.le_of_ble_eq_true rfl⟩) rfl hl.1 rfl (Nat.le_of_ble_eq_true rfl) dX3_touch_54 ⟨Nat.zero_le _, Nat.zero_le _⟩ (fun r54 h54 => ?_)
      subst h54
      refine lv_istore_n (lv' := [(3, .int (nI (secs (sg (11 + 76 * (sg 0) + 15 * tX_1 + (6 + 3 * kX_23 + 0))) (sg 4)))), (2, .int (nI tX_1)), (0, .ref b0), (1, .int (nI kX_23))]) hx hb dX3_touch_57 rfl hl (by decide) rfl (fun ls hl => ?_)
      refine lv_iload_n hx hb dX3_touch_58 rfl (lv_at hl 0 rfl) ?_
      refine lv_aload_n hx hb dX3_touch_59 rfl (lv_at hl 2 rfl) ?_
      refine va_get (D := G.1) (ci := 3) (v := .ref b1) (C := RX3) (T := TX3) (N := 14) hx hb hts mic_touch_3 hown hK hP 0 rfl rfl 0 (by decide) (hts _ mwc_touch_0) (fun _ h9 => h9) rfl dX3_touch_60 ?_
      refine lv_iconst (v := nI 5) hx hb dX3_touch_63 (by decide) ?_
      refine zk_ald (f := sg) (k := 5) hx hb hK hP 1 0 rfl rfl (Nat.le_of_ble_eq_true rfl) (by omega) dX3_touch_64 ?_
      refine zk_ile (tgt := 71) hx hb dX3_touch_65 (by decide) (by omega) (by omega) (fun c65 => ?_) (fun c65 => ?_)
      · refine lv_aload_n hx hb dX3_touch_71 rfl (lv_at hl 2 rfl) ?_
        refine zc_U (As := []) (rest := []) (ws2 := (fun (uU : Nat × (Nat → Nat)) => ([(b0, .inr (3, [.ref b1, .ref b2, .ref b3, .int (nI uU.1), .ref b4, .int (nI ik), .ref b5, .int (nI ty), .int ra, .int rb, .int (nI rd), .int (nI iw), .ref b6, .int fl])), (b1, .inl (G.2.1, 618, .inl (arN sg))), (b3, .inl (G.2.1, 2472, .inl (arN uU.2)))] : va_W))) ⟨hx, hb, hml, hown, hts⟩ (c_know l G b0 b1 b2 b3 b4 b5 b6 kn ik ty ra rb rd iw fl sg be (by omega)) (cwV 0 hts gX3_touch_X3_know rfl rfl rfl (by decide +kernel) ⟨Nat.le_of_ble_eq_true rfl, Nat.le_of_ble_eq_true rfl⟩) hK hN hP hD hS [0, 1, 2] rfl (by decide) (ci := 3) rfl rfl (fun _ => rfl) (fun _ => rfl) rfl hl.1 rfl (Nat.le_of_ble_eq_true rfl) dX3_touch_72 ⟨Nat.zero_le _, Nat.zero_le _⟩ (fun u72 H locs h72 hP hD hS => ?_)
        subst h72
        have hP : va_P G.1 vwCl [(b0, .inr (3, [.ref b1, .ref b2, .ref b3, .int (nI (knK kn)), .ref b4, .int (nI ik), .ref b5, .int (nI ty), .int ra, .int rb, .int (nI rd), .int (nI iw), .ref b6, .int fl])), (b1, .inl (G.2.1, 618, .inl (arN sg))), (b3, .inl (G.2.1, 2472, .inl (arN (knB kn be sg))))] H := hP
        have hD : va_D (zIn [(b0, .inr (3, [.ref b1, .ref b2, .ref b3, .int (nI kn), .ref b4, .int (nI ik), .ref b5, .int (nI ty), .int ra, .int rb, .int (nI rd), .int (nI iw), .ref b6, .int fl])), (b1, .inl (G.2.1, 618, .inl (arN sg))), (b3, .inl (G.2.1, 2472, .inl (arN be)))]) [(b0, .inr (3, [.ref b1, .ref b2, .ref b3, .int (nI (knK kn)), .ref b4, .int (nI ik), .ref b5, .int (nI ty), .int ra, .int rb, .int (nI rd), .int (nI iw), .ref b6, .int fl])), (b1, .inl (G.2.1, 618, .inl (arN sg))), (b3, .inl (G.2.1, 2472, .inl (arN (knB kn be sg))))] := hD
        refine lv_aload_n hx hb dX3_touch_75 rfl (lv_at hl 2 rfl) ?_
        refine va_get (D := G.1) (ci := 3) (v := .ref b1) (C := RX3) (T := TX3) (N := 14) hx hb hts mic_touch_3 hown hK hP 0 rfl rfl 0 (by decide) (hts _ mwc_touch_0) (fun _ h9 => h9) rfl dX3_touch_76 ?_
        refine lv_bipush (v := nI 6) hx hb dX3_touch_79 (by decide) ?_
        refine zk_ald (f := sg) (k := 6) hx hb hK hP 1 0 rfl rfl (Nat.le_of_ble_eq_true rfl) (by omega) dX3_touch_81 ?_
        refine zc_S (As := [.int (nI (sg 6))]) (rest := []) ⟨hx, hb, hml, hown, hts⟩ (c_bitsOf l (sg 6) hq3.2) (va_cwS 1 hts gX3_touch_X3_bitsOf rfl rfl rfl (by decide +kernel) ⟨Nat.le_of_ble_eq_true rfl, Nat.le_of_ble_eq_true rfl⟩) rfl hl.1 rfl (Nat.le_of_ble_eq_true rfl) dX3_touch_82 ⟨Nat.zero_le _, Nat.zero_le _⟩ (fun r82 h82 => ?_)
        subst h82
        refine lv_istore (lv' := [(4, .int (nI (bitsN (sg 6) 16))), (3, .int (nI (secs (sg (11 + 76 * (sg 0) + 15 * tX_1 + (6 + 3 * kX_23 + 0))) (sg 4)))), (2, .int (nI tX_1)), (0, .ref b0), (1, .int (nI kX_23))]) hx hb dX3_touch_85 hl (by decide) rfl (fun ls hl => ?_)
        refine lv_aload_n hx hb dX3_touch_87 rfl (lv_at hl 3 rfl) ?_
        refine va_get (D := G.1) (ci := 3) (v := .ref b1) (C := RX3) (T := TX3) (N := 14) hx hb hts mic_touch_3 hown hK hP 0 rfl rfl 0 (by decide) (hts _ mwc_touch_0) (fun _ h9 => h9) rfl dX3_touch_88 ?_
        refine lv_iconst (v := nI 5) hx hb dX3_touch_91 (by decide) ?_
        refine lv_dup2_11 hx hb dX3_touch_92 rfl rfl ?_
        refine zk_ald (f := sg) (k := 5) hx hb hK hP 1 0 rfl rfl (Nat.le_of_ble_eq_true rfl) (by omega) dX3_touch_93 ?_
        refine lv_iload_n hx hb dX3_touch_94 rfl (lv_at hl 1 rfl) ?_
        refine zk_sub hx hb dX3_touch_95 (by omega) ?_
        refine zk_ast (f := sg) (k := 5) (v := (sg 5) - (secs (sg (11 + 76 * (sg 0) + 15 * tX_1 + (6 + 3 * kX_23 + 0))) (sg 4))) (ws2 := [(b0, .inr (3, [.ref b1, .ref b2, .ref b3, .int (nI (knK kn)), .ref b4, .int (nI ik), .ref b5, .int (nI ty), .int ra, .int rb, .int (nI rd), .int (nI iw), .ref b6, .int fl])), (b1, .inl (G.2.1, 618, .inl (arN (arU sg 5 ((sg 5) - (secs (sg (11 + 76 * (sg 0) + 15 * tX_1 + (6 + 3 * kX_23 + 0))) (sg 4))))))), (b3, .inl (G.2.1, 2472, .inl (arN (knB kn be sg))))]) hx hb hK hP hD hS 1 0 rfl rfl (Nat.le_of_ble_eq_true rfl) (by omega) rfl dX3_touch_96 (fun H locs hP hD hS => ?_)
        refine lv_aload_n hx hb dX3_touch_97 rfl (lv_at hl 3 rfl) ?_
        refine va_get (D := G.1) (ci := 3) (v := .ref b1) (C := RX3) (T := TX3) (N := 14) hx hb hts mic_touch_3 hown hK hP 0 rfl rfl 0 (by decide) (hts _ mwc_touch_0) (fun _ h9 => h9) rfl dX3_touch_98 ?_
        refine lv_bipush (v := nI 6) hx hb dX3_touch_101 (by decide) ?_
        refine lv_dup2_11 hx hb dX3_touch_103 rfl rfl ?_
        refine zk_ald (f := arU sg 5 ((sg 5) - (secs (sg (11 + 76 * (sg 0) + 15 * tX_1 + (6 + 3 * kX_23 + 0))) (sg 4)))) (k := 6) hx hb hK hP 1 0 rfl rfl (Nat.le_of_ble_eq_true rfl) (by omega) dX3_touch_104 ?_
        refine zk_top (y := nI (sg 6)) (congrArg nI (arU_n (by omega))) ?_
        refine lv_aload_n hx hb dX3_touch_105 rfl (lv_at hl 3 rfl) ?_
        refine va_get (D := G.1) (ci := 3) (v := .ref b1) (C := RX3) (T := TX3) (N := 14) hx hb hts mic_touch_3 hown hK hP 0 rfl rfl 0 (by decide) (hts _ mwc_touch_0) (fun _ h9 => h9) rfl dX3_touch_106 ?_
        refine lv_aload_n hx hb dX3_touch_109 rfl (lv_at hl 3 rfl) ?_
        refine va_get (D := G.1) (ci := 3) (v := .ref b1) (C := RX3) (T := TX3) (N := 14) hx hb hts mic_touch_3 hown hK hP 0 rfl rfl 0 (by decide) (hts _ mwc_touch_0) (fun _ h9 => h9) rfl dX3_touch_110 ?_
        refine lv_iconst (v := nI 0) hx hb dX3_touch_113 (by decide) ?_
        refine zk_ald (f := arU sg 5 ((sg 5) - (secs (sg (11 + 76 * (sg 0) + 15 * tX_1 + (6 + 3 * kX_23 + 0))) (sg 4)))) (k := 0) hx hb hK hP 1 0 rfl rfl (Nat.le_of_ble_eq_true rfl) (by omega) dX3_touch_114 ?_
        refine zk_top (y := nI (sg 0)) (congrArg nI (arU_n (by omega))) ?_
        refine lv_iload_n hx hb dX3_touch_115 rfl (lv_at hl 2 rfl) ?_
        refine lv_iload_n hx hb dX3_touch_116 rfl (lv_at hl 4 rfl) ?_
        refine lv_iconst (v := nI 1) hx hb dX3_touch_117 (by decide) ?_
        refine zc_S (As := [.int (nI (sg 0)), .int (nI tX_1), .int (nI kX_23), .int (nI 1)]) (rest := [.ref b1, .int (nI (sg 6)), .int (nI 6), .ref b1]) ⟨hx, hb, hml, hown, hts⟩ (c_ofCaption l (sg 0) tX_1 kX_23 1 ) (va_cwS 4 hts gX3_touch_X3_ofCaption rfl rfl rfl (by decide +kernel) ⟨Nat.le_of_ble_eq_true rfl, Nat.le_of_ble_eq_true rfl⟩) rfl hl.1 rfl (Nat.le_of_ble_eq_true rfl) dX3_touch_118 ⟨Nat.zero_le _, Nat.zero_le _⟩ (fun r118 h118 => ?_)
        subst h118
        refine zk_ald (f := arU sg 5 ((sg 5) - (secs (sg (11 + 76 * (sg 0) + 15 * tX_1 + (6 + 3 * kX_23 + 0))) (sg 4)))) (k := 11 + 76 * (sg 0) + 15 * tX_1 + (6 + 3 * kX_23 + 1)) hx hb hK hP 1 0 rfl rfl (Nat.le_of_ble_eq_true rfl) (by omega) dX3_touch_121 ?_
        refine zk_top (y := nI (sg (11 + 76 * (sg 0) + 15 * tX_1 + (6 + 3 * kX_23 + 1)))) (congrArg nI (arU_n (by omega))) ?_
        refine zk_or hx hb dX3_touch_122 ?_
        refine zk_ast (f := arU sg 5 ((sg 5) - (secs (sg (11 + 76 * (sg 0) + 15 * tX_1 + (6 + 3 * kX_23 + 0))) (sg 4)))) (k := 6) (v := (sg 6) ||| (sg (11 + 76 * (sg 0) + 15 * tX_1 + (6 + 3 * kX_23 + 1)))) (ws2 := [(b0, .inr (3, [.ref b1, .ref b2, .ref b3, .int (nI (knK kn)), .ref b4, .int (nI ik), .ref b5, .int (nI ty), .int ra, .int rb, .int (nI rd), .int (nI iw), .ref b6, .int fl])), (b1, .inl (G.2.1, 618, .inl (arN (arU (arU sg 5 ((sg 5) - (secs (sg (11 + 76 * (sg 0) + 15 * tX_1 + (6 + 3 * kX_23 + 0))) (sg 4)))) 6 ((sg 6) ||| (sg (11 + 76 * (sg 0) + 15 * tX_1 + (6 + 3 * kX_23 + 1)))))))), (b3, .inl (G.2.1, 2472, .inl (arN (knB kn be sg))))]) hx hb hK hP hD hS 1 0 rfl rfl (Nat.le_of_ble_eq_true rfl) (by omega) rfl dX3_touch_123 (fun H locs hP hD hS => ?_)
        refine lv_aload_n hx hb dX3_touch_124 rfl (lv_at hl 3 rfl) ?_
        refine va_get (D := G.1) (ci := 3) (v := .ref b1) (C := RX3) (T := TX3) (N := 14) hx hb hts mic_touch_3 hown hK hP 0 rfl rfl 0 (by decide) (hts _ mwc_touch_0) (fun _ h9 => h9) rfl dX3_touch_125 ?_
        refine lv_aload_n hx hb dX3_touch_128 rfl (lv_at hl 3 rfl) ?_
        refine va_get (D := G.1) (ci := 3) (v := .ref b1) (C := RX3) (T := TX3) (N := 14) hx hb hts mic_touch_3 hown hK hP 0 rfl rfl 0 (by decide) (hts _ mwc_touch_0) (fun _ h9 => h9) rfl dX3_touch_129 ?_
        refine lv_iconst (v := nI 0) hx hb dX3_touch_132 (by decide) ?_
        refine zk_ald (f := arU (arU sg 5 ((sg 5) - (secs (sg (11 + 76 * (sg 0) + 15 * tX_1 + (6 + 3 * kX_23 + 0))) (sg 4)))) 6 ((sg 6) ||| (sg (11 + 76 * (sg 0) + 15 * tX_1 + (6 + 3 * kX_23 + 1))))) (k := 0) hx hb hK hP 1 0 rfl rfl (Nat.le_of_ble_eq_true rfl) (by omega) dX3_touch_133 ?_
        refine zk_top (y := nI (sg 0)) (congrArg nI ((arU_n (by omega)).trans (arU_n (by omega)))) ?_
        refine lv_iload_n hx hb dX3_touch_134 rfl (lv_at hl 2 rfl) ?_
        refine lv_iload_n hx hb dX3_touch_135 rfl (lv_at hl 4 rfl) ?_
        refine lv_iconst (v := nI 2) hx hb dX3_touch_136 (by decide) ?_
        refine zc_S (As := [.int (nI (sg 0)), .int (nI tX_1), .int (nI kX_23), .int (nI 2)]) (rest := [.ref b1]) ⟨hx, hb, hml, hown, hts⟩ (c_ofCaption l (sg 0) tX_1 kX_23 2 ) (va_cwS 4 hts gX3_touch_X3_ofCaption rfl rfl rfl (by decide +kernel) ⟨Nat.le_of_ble_eq_true rfl, Nat.le_of_ble_eq_true rfl⟩) rfl hl.1 rfl (Nat.le_of_ble_eq_true rfl) dX3_touch_137 ⟨Nat.zero_le _, Nat.zero_le _⟩ (fun r137 h137 => ?_)
        subst h137
        refine lv_dup2_11 hx hb dX3_touch_140 rfl rfl ?_
        refine zk_ald (f := arU (arU sg 5 ((sg 5) - (secs (sg (11 + 76 * (sg 0) + 15 * tX_1 + (6 + 3 * kX_23 + 0))) (sg 4)))) 6 ((sg 6) ||| (sg (11 + 76 * (sg 0) + 15 * tX_1 + (6 + 3 * kX_23 + 1))))) (k := 11 + 76 * (sg 0) + 15 * tX_1 + (6 + 3 * kX_23 + 2)) hx hb hK hP 1 0 rfl rfl (Nat.le_of_ble_eq_true rfl) (by omega) dX3_touch_141 ?_
        refine zk_top (y := nI (sg (11 + 76 * (sg 0) + 15 * tX_1 + (6 + 3 * kX_23 + 2)))) (congrArg nI ((arU_n (by omega)).trans (arU_n (by omega)))) ?_
        refine lv_iconst (v := nI 1) hx hb dX3_touch_142 (by decide) ?_
        refine zk_add hx hb dX3_touch_143 ?_
        refine zk_ast (f := arU (arU sg 5 ((sg 5) - (secs (sg (11 + 76 * (sg 0) + 15 * tX_1 + (6 + 3 * kX_23 + 0))) (sg 4)))) 6 ((sg 6) ||| (sg (11 + 76 * (sg 0) + 15 * tX_1 + (6 + 3 * kX_23 + 1))))) (k := 11 + 76 * (sg 0) + 15 * tX_1 + (6 + 3 * kX_23 + 2)) (v := (sg (11 + 76 * (sg 0) + 15 * tX_1 + (6 + 3 * kX_23 + 2))) + 1) (ws2 := [(b0, .inr (3, [.ref b1, .ref b2, .ref b3, .int (nI (knK kn)), .ref b4, .int (nI ik), .ref b5, .int (nI ty), .int ra, .int rb, .int (nI rd), .int (nI iw), .ref b6, .int fl])), (b1, .inl (G.2.1, 618, .inl (arN (arU (arU (arU sg 5 ((sg 5) - (secs (sg (11 + 76 * (sg 0) + 15 * tX_1 + (6 + 3 * kX_23 + 0))) (sg 4)))) 6 ((sg 6) ||| (sg (11 + 76 * (sg 0) + 15 * tX_1 + (6 + 3 * kX_23 + 1))))) (11 + 76 * (sg 0) + 15 * tX_1 + (6 + 3 * kX_23 + 2)) ((sg (11 + 76 * (sg 0) + 15 * tX_1 + (6 + 3 * kX_23 + 2))) + 1))))), (b3, .inl (G.2.1, 2472, .inl (arN (knB kn be sg))))]) hx hb hK hP hD hS 1 0 rfl rfl (Nat.le_of_ble_eq_true rfl) (by omega) rfl dX3_touch_144 (fun H locs hP hD hS => ?_)
        refine lv_aload_n hx hb dX3_touch_145 rfl (lv_at hl 3 rfl) ?_
        refine va_get (D := G.1) (ci := 3) (v := .ref b1) (C := RX3) (T := TX3) (N := 14) hx hb hts mic_touch_3 hown hK hP 0 rfl rfl 0 (by decide) (hts _ mwc_touch_0) (fun _ h9 => h9) rfl dX3_touch_146 ?_
        refine lv_bipush (v := nI 9) hx hb dX3_touch_149 (by decide) ?_
        refine lv_dup2_11 hx hb dX3_touch_151 rfl rfl ?_
        refine zk_ald (f := arU (arU (arU sg 5 ((sg 5) - (secs (sg (11 + 76 * (sg 0) + 15 * tX_1 + (6 + 3 * kX_23 + 0))) (sg 4)))) 6 ((sg 6) ||| (sg (11 + 76 * (sg 0) + 15 * tX_1 + (6 + 3 * kX_23 + 1))))) (11 + 76 * (sg 0) + 15 * tX_1 + (6 + 3 * kX_23 + 2)) ((sg (11 + 76 * (sg 0) + 15 * tX_1 + (6 + 3 * kX_23 + 2))) + 1)) (k := 9) hx hb hK hP 1 0 rfl rfl (Nat.le_of_ble_eq_true rfl) (by omega) dX3_touch_152 ?_
        refine zk_top (y := nI (sg 9)) (congrArg nI ((arU_n (by omega)).trans ((arU_n (by omega)).trans (arU_n (by omega))))) ?_
        refine lv_iconst (v := nI 1) hx hb dX3_touch_153 (by decide) ?_
        refine zk_add hx hb dX3_touch_154 ?_
        refine zk_ast (f := arU (arU (arU sg 5 ((sg 5) - (secs (sg (11 + 76 * (sg 0) + 15 * tX_1 + (6 + 3 * kX_23 + 0))) (sg 4)))) 6 ((sg 6) ||| (sg (11 + 76 * (sg 0) + 15 * tX_1 + (6 + 3 * kX_23 + 1))))) (11 + 76 * (sg 0) + 15 * tX_1 + (6 + 3 * kX_23 + 2)) ((sg (11 + 76 * (sg 0) + 15 * tX_1 + (6 + 3 * kX_23 + 2))) + 1)) (k := 9) (v := (sg 9) + 1) (ws2 := [(b0, .inr (3, [.ref b1, .ref b2, .ref b3, .int (nI (knK kn)), .ref b4, .int (nI ik), .ref b5, .int (nI ty), .int ra, .int rb, .int (nI rd), .int (nI iw), .ref b6, .int fl])), (b1, .inl (G.2.1, 618, .inl (arN (arU (arU (arU (arU sg 5 ((sg 5) - (secs (sg (11 + 76 * (sg 0) + 15 * tX_1 + (6 + 3 * kX_23 + 0))) (sg 4)))) 6 ((sg 6) ||| (sg (11 + 76 * (sg 0) + 15 * tX_1 + (6 + 3 * kX_23 + 1))))) (11 + 76 * (sg 0) + 15 * tX_1 + (6 + 3 * kX_23 + 2)) ((sg (11 + 76 * (sg 0) + 15 * tX_1 + (6 + 3 * kX_23 + 2))) + 1)) 9 ((sg 9) + 1))))), (b3, .inl (G.2.1, 2472, .inl (arN (knB kn be sg))))]) hx hb hK hP hD hS 1 0 rfl rfl (Nat.le_of_ble_eq_true rfl) (by omega) rfl dX3_touch_155 (fun H locs hP hD hS => ?_)
        have en : arU (arU (arU (arU sg 5 ((sg 5) - (secs (sg (11 + 76 * (sg 0) + 15 * tX_1 + (6 + 3 * kX_23 + 0))) (sg 4)))) 6 ((sg 6) ||| (sg (11 + 76 * (sg 0) + 15 * tX_1 + (6 + 3 * kX_23 + 1))))) (11 + 76 * (sg 0) + 15 * tX_1 + (6 + 3 * kX_23 + 2)) ((sg (11 + 76 * (sg 0) + 15 * tX_1 + (6 + 3 * kX_23 + 2))) + 1)) 9 ((sg 9) + 1) = cpT sg tX_1 kX_23 := rfl
        rw [en] at hP hD
        refine lv_aload_n hx hb dX3_touch_156 rfl (lv_at hl 3 rfl) ?_
        refine lv_iload_n hx hb dX3_touch_157 rfl (lv_at hl 2 rfl) ?_
        have hMc := mOK_cpT hM hs.2 h23_0
        have hoc := cpT_ok (k := kX_23) hM hs
        refine zc_R (As := [.int (nI tX_1)]) (rest := []) ⟨hx, hb, hml, hown, hts⟩ (c_canRead l G b0 b1 b2 b3 b4 b5 b6 (knK kn) ik ty ra rb rd iw fl (cpT sg tX_1 kX_23) tX_1 hMc hoc.1 hoc.2) (cwV 1 hts gX3_touch_X3_canRead rfl rfl rfl (by decide +kernel) ⟨Nat.le_of_ble_eq_true rfl, Nat.le_of_ble_eq_true rfl⟩) hK hN hP hD [0, 1] rfl (by decide) (ci := 3) rfl rfl rfl hl.1 rfl (Nat.le_of_ble_eq_true rfl) dX3_touch_158 ⟨Nat.zero_le _, Nat.zero_le _⟩ (fun r158 h158 => ?_)
        rcases h158 with ⟨h158_0, rfl⟩ | ⟨h158_0, rfl⟩
        · refine lv_if_eq (tgt := 169) hx hb dX3_touch_161 (by decide) (fun q => absurd q (by decide)) (fun _ => ?_)
          refine lv_aload_n hx hb dX3_touch_164 rfl (lv_at hl 3 rfl) ?_
          refine lv_iload_n hx hb dX3_touch_165 rfl (lv_at hl 2 rfl) ?_
          refine zc_U (As := [.int (nI tX_1)]) (rest := []) (ws2 := (fun (uU : (Nat → Nat)) => ([(b0, .inr (3, [.ref b1, .ref b2, .ref b3, .int (nI (knK kn)), .ref b4, .int (nI ik), .ref b5, .int (nI ty), .int ra, .int rb, .int (nI rd), .int (nI iw), .ref b6, .int fl])), (b1, .inl (G.2.1, 618, .inl (arN uU))), (b3, .inl (G.2.1, 2472, .inl (arN (knB kn be sg))))] : va_W))) ⟨hx, hb, hml, hown, hts⟩ (c_reads l G b0 b1 b2 b3 b4 b5 b6 (knK kn) ik ty ra rb rd iw fl (cpT sg tX_1 kX_23) tX_1 hMc hoc.1 hoc.2 h158_0.2) (cwV 1 hts gX3_touch_X3_reads rfl rfl rfl (by decide +kernel) ⟨Nat.le_of_ble_eq_true rfl, Nat.le_of_ble_eq_true rfl⟩) hK hN hP hD hS [0, 1] rfl (by decide) (ci := 3) rfl rfl (fun _ => rfl) (fun _ => rfl) rfl hl.1 rfl (Nat.le_of_ble_eq_true rfl) dX3_touch_166 ⟨Nat.zero_le _, Nat.zero_le _⟩ (fun u166 H locs h166 hP hD hS => ?_)
          subst h166
          have hP : va_P G.1 vwCl [(b0, .inr (3, [.ref b1, .ref b2, .ref b3, .int (nI (knK kn)), .ref b4, .int (nI ik), .ref b5, .int (nI ty), .int ra, .int rb, .int (nI rd), .int (nI iw), .ref b6, .int fl])), (b1, .inl (G.2.1, 618, .inl (arN (rdT (cpT sg tX_1 kX_23) tX_1)))), (b3, .inl (G.2.1, 2472, .inl (arN (knB kn be sg))))] H := hP
          have hD : va_D (zIn [(b0, .inr (3, [.ref b1, .ref b2, .ref b3, .int (nI kn), .ref b4, .int (nI ik), .ref b5, .int (nI ty), .int ra, .int rb, .int (nI rd), .int (nI iw), .ref b6, .int fl])), (b1, .inl (G.2.1, 618, .inl (arN sg))), (b3, .inl (G.2.1, 2472, .inl (arN be)))]) [(b0, .inr (3, [.ref b1, .ref b2, .ref b3, .int (nI (knK kn)), .ref b4, .int (nI ik), .ref b5, .int (nI ty), .int ra, .int rb, .int (nI rd), .int (nI iw), .ref b6, .int fl])), (b1, .inl (G.2.1, 618, .inl (arN (rdT (cpT sg tX_1 kX_23) tX_1)))), (b3, .inl (G.2.1, 2472, .inl (arN (knB kn be sg))))] := hD
          have et : rdT (cpT sg tX_1 kX_23) tX_1 = tcT sg tX_1 kX_23 := (if_pos h158_0).symm
          rw [et] at hP hD
          have hM6 : mOK (tcT sg tX_1 kX_23) := by rw [← et]; exact mOK_rdT hMc hoc.2
          refine lv_aload_n hx hb dX3_touch_169 rfl (lv_at hl 3 rfl) ?_
          refine va_get (D := G.1) (ci := 3) (v := .ref b1) (C := RX3) (T := TX3) (N := 14) hx hb hts mic_touch_3 hown hK hP 0 rfl rfl 0 (by decide) (hts _ mwc_touch_0) (fun _ h9 => h9) rfl dX3_touch_170 ?_
          refine lv_bipush (v := nI 6) hx hb dX3_touch_173 (by decide) ?_
          refine zk_ald (f := tcT sg tX_1 kX_23) (k := 6) hx hb hK hP 1 0 rfl rfl (Nat.le_of_ble_eq_true rfl) (by omega) dX3_touch_175 ?_
          refine zc_S (As := [.int (nI ((tcT sg tX_1 kX_23) 6))]) (rest := []) ⟨hx, hb, hml, hown, hts⟩ (c_bitsOf l ((tcT sg tX_1 kX_23) 6) hM6.1.2.2.2.2.2) (va_cwS 1 hts gX3_touch_X3_bitsOf rfl rfl rfl (by decide +kernel) ⟨Nat.le_of_ble_eq_true rfl, Nat.le_of_ble_eq_true rfl⟩) rfl hl.1 rfl (Nat.le_of_ble_eq_true rfl) dX3_touch_176 ⟨Nat.zero_le _, Nat.zero_le _⟩ (fun r176 h176 => ?_)
          subst h176
          refine lv_iload hx hb dX3_touch_179 (lv_at hl 0 rfl) ?_
          refine lv_isub hx hb dX3_touch_181 ?_
          exact W.iret (v := (nI (bitsN ((tcT sg tX_1 kX_23) 6) 16)) - (nI (bitsN (sg 6) 16))) hx hb hr (fun tT ht hW => ⟨⟨_, (knK kn, tcT sg tX_1 kX_23, knB kn be sg), rfl, Or.inr (Or.inr (Or.inr ⟨tX_1, kX_23, h1_0, h23_0, rfl, c65, rfl, rfl⟩)), by show va_P G.1 vwCl _ tT.heap; rw [ht]; exact hP⟩, hS.F ht⟩) hS.2.2 dX3_touch_182
        · have et : cpT sg tX_1 kX_23 = tcT sg tX_1 kX_23 := (if_neg h158_0).symm
          rw [et] at hP hD
          have hM6 : mOK (tcT sg tX_1 kX_23) := by rw [← et]; exact hMc
          refine lv_if_eq (tgt := 169) hx hb dX3_touch_161 (by decide) (fun _ => ?_) (fun q => absurd (by decide) q)
          refine lv_aload_n hx hb dX3_touch_169 rfl (lv_at hl 3 rfl) ?_
          refine va_get (D := G.1) (ci := 3) (v := .ref b1) (C := RX3) (T := TX3) (N := 14) hx hb hts mic_touch_3 hown hK hP 0 rfl rfl 0 (by decide) (hts _ mwc_touch_0) (fun _ h9 => h9) rfl dX3_touch_170 ?_
          refine lv_bipush (v := nI 6) hx hb dX3_touch_173 (by decide) ?_
          refine zk_ald (f := tcT sg tX_1 kX_23) (k := 6) hx hb hK hP 1 0 rfl rfl (Nat.le_of_ble_eq_true rfl) (by omega) dX3_touch_175 ?_
          refine zc_S (As := [.int (nI ((tcT sg tX_1 kX_23) 6))]) (rest := []) ⟨hx, hb, hml, hown, hts⟩ (c_bitsOf l ((tcT sg tX_1 kX_23) 6) hM6.1.2.2.2.2.2) (va_cwS 1 hts gX3_touch_X3_bitsOf rfl rfl rfl (by decide +kernel) ⟨Nat.le_of_ble_eq_true rfl, Nat.le_of_ble_eq_true rfl⟩) rfl hl.1 rfl (Nat.le_of_ble_eq_true rfl) dX3_touch_176 ⟨Nat.zero_le _, Nat.zero_le _⟩ (fun r176 h176 => ?_)
          subst h176
          refine lv_iload hx hb dX3_touch_179 (lv_at hl 0 rfl) ?_
          refine lv_isub hx hb dX3_touch_181 ?_
          exact W.iret (v := (nI (bitsN ((tcT sg tX_1 kX_23) 6) 16)) - (nI (bitsN (sg 6) 16))) hx hb hr (fun tT ht hW => ⟨⟨_, (knK kn, tcT sg tX_1 kX_23, knB kn be sg), rfl, Or.inr (Or.inr (Or.inr ⟨tX_1, kX_23, h1_0, h23_0, rfl, c65, rfl, rfl⟩)), by show va_P G.1 vwCl _ tT.heap; rw [ht]; exact hP⟩, hS.F ht⟩) hS.2.2 dX3_touch_182
      · refine lv_bipush (v := (-5)) hx hb dX3_touch_68 (by decide) ?_
        exact W.iret (v := (-5)) hx hb hr (fun tT ht hW => ⟨⟨_, (kn, sg, be), rfl, Or.inr (Or.inr (Or.inl ⟨tX_1, kX_23, h1_0, h23_0, rfl, c65, rfl, rfl⟩)), by show va_P G.1 vwCl _ tT.heap; rw [ht]; exact hP⟩, hS.F ht⟩) hS.2.2 dX3_touch_70
    · refine lv_if_ne (tgt := 31) hx hb dX3_touch_26 (by decide) (fun q => absurd (by decide) q) (fun _ => ?_)
      refine lv_iconst (v := (-1)) hx hb dX3_touch_29 (by decide) ?_
      exact W.iret (v := (-1)) hx hb hr (fun tT ht hW => ⟨⟨_, (kn, sg, be), rfl, Or.inr (Or.inl ⟨tX_1, h1_0, h23_0, rfl, rfl⟩), by show va_P G.1 vwCl _ tT.heap; rw [ht]; exact hP⟩, hS.F ht⟩) hS.2.2 dX3_touch_30
set_option maxRecDepth 100000 in
theorem mwc_read_0 : Cond.fieldLink RX3 7 "ExhibitTextsModel" "s" "[I" ∈ wsX3_read := by decide +kernel
set_option maxRecDepth 100000 in
theorem mic_read_3 : ∀ w ∈ u_ws RX3 TX3 14, w ∈ wsX3_read := by decide +kernel
set_option maxHeartbeats 4000000 in
set_option maxRecDepth 100000 in
/-- X3_read: read -/
theorem c_read (l : Launch) (G : zG) (b0 : Nat) (b1 : Nat) (b2 : Nat) (b3 : Nat) (b4 : Nat) (b5 : Nat) (b6 : Nat) (kn : Nat) (ik : Nat) (ty : Nat) (ra : Int32) (rb : Int32) (rd : Nat) (iw : Nat) (fl : Int32) (sg : Nat → Nat) (be : Nat → Nat) (hM : mOK sg) (hkn : kn ≤ 4) : Met l yX3_read wsX3_read ({ frames := 5, cells := 0, slots := 0, locals := 113 } : Room) (zPc G [.ref b0] [(b0, .inr (3, [.ref b1, .ref b2, .ref b3, .int (nI kn), .ref b4, .int (nI ik), .ref b5, .int (nI ty), .int ra, .int rb, .int (nI rd), .int (nI iw), .ref b6, .int fl])), (b1, .inl (G.2.1, 618, .inl (arN sg))), (b3, .inl (G.2.1, 2472, .inl (arN be)))]) (va_Qi (fun (rR : Int32) (uU : Nat × (Nat → Nat) × (Nat → Nat)) => (sN sg = none ∧ rR = (-4) ∧ uU = (kn, sg, be)) ∨ (∃ (tX : Nat), sN sg = some tX ∧ 0 < sg (11 + 76 * sg 0 + 15 * tX + 5) ∧ rR = (-4) ∧ uU = (kn, sg, be)) ∨ (∃ (tX : Nat), sN sg = some tX ∧ sg (11 + 76 * sg 0 + 15 * tX + 5) = 0 ∧ ¬ canR sg tX ∧ rR = (-5) ∧ uU = (kn, sg, be)) ∨ (∃ (tX : Nat), sN sg = some tX ∧ sg (11 + 76 * sg 0 + 15 * tX + 5) = 0 ∧ canR sg tX ∧ rR = nI (bitsN (rdT sg tX 6) 16) - nI (bitsN (sg 6) 16) ∧ uU = (knK kn, rdT sg tX, knB kn be sg))) (fun uU tT => va_P G.1 vwCl ((fun (uU : Nat × (Nat → Nat) × (Nat → Nat)) => ([(b0, .inr (3, [.ref b1, .ref b2, .ref b3, .int (nI uU.1), .ref b4, .int (nI ik), .ref b5, .int (nI ty), .int ra, .int rb, .int (nI rd), .int (nI iw), .ref b6, .int fl])), (b1, .inl (G.2.1, 618, .inl (arN uU.2.1))), (b3, .inl (G.2.1, 2472, .inl (arN uU.2.2)))] : va_W)) uU) tT.heap) (zIn [(b0, .inr (3, [.ref b1, .ref b2, .ref b3, .int (nI kn), .ref b4, .int (nI ik), .ref b5, .int (nI ty), .int ra, .int rb, .int (nI rd), .int (nI iw), .ref b6, .int fl])), (b1, .inl (G.2.1, 618, .inl (arN sg))), (b3, .inl (G.2.1, 2472, .inl (arN be)))])) 0 0 (zIn [(b0, .inr (3, [.ref b1, .ref b2, .ref b3, .int (nI kn), .ref b4, .int (nI ik), .ref b5, .int (nI ty), .int ra, .int rb, .int (nI rd), .int (nI iw), .ref b6, .int fl])), (b1, .inl (G.2.1, 618, .inl (arN sg))), (b3, .inl (G.2.1, 2472, .inl (arN be)))]) := by
  refine zM (cc := cX3_read) (maxL := 3) (ret := (some .int)) (by decide) rfl (Nat.le_of_ble_eq_true rfl) ?_
  intro pP eE sS mM below meth cC hx hb hr hts hown hlk hml hnm hK hN hP hD hS ls hl
  have hl : lv_has ls 3 [(0, .ref b0)] := hl
  refine lv_aload_n hx hb dX3_read_0 rfl (lv_at hl 0 rfl) ?_
  refine zc_R (As := []) (rest := []) ⟨hx, hb, hml, hown, hts⟩ (c_shownNow l G b0 b1 b2 b3 b4 b5 b6 kn ik ty ra rb rd iw fl sg (by omega)) (cwV 0 hts gX3_read_X3_shownNow rfl rfl rfl (by decide +kernel) ⟨Nat.le_of_ble_eq_true rfl, Nat.le_of_ble_eq_true rfl⟩) hK hN hP hD [0, 1] rfl (by decide) (ci := 3) rfl rfl rfl hl.1 rfl (Nat.le_of_ble_eq_true rfl) dX3_read_1 ⟨Nat.zero_le _, Nat.zero_le _⟩ (fun r1 h1 => ?_)
  rcases h1 with ⟨h1_0, rfl⟩ | ⟨tX_1, h1_0, rfl⟩
  · refine lv_istore_n (lv' := [(1, .int (-5)), (0, .ref b0)]) hx hb dX3_read_4 rfl hl (by decide) rfl (fun ls hl => ?_)
    refine lv_iload_n hx hb dX3_read_5 rfl (lv_at hl 0 rfl) ?_
    refine lv_bipush (v := (-5)) hx hb dX3_read_6 (by decide) ?_
    refine lv_icmp_eq (tgt := 30) hx hb dX3_read_8 (by decide) (fun _ => ?_) (fun q => absurd (by decide) q)
    refine lv_bipush (v := (-4)) hx hb dX3_read_30 (by decide) ?_
    exact W.iret (v := (-4)) hx hb hr (fun tT ht hW => ⟨⟨_, (kn, sg, be), rfl, Or.inl ⟨h1_0, rfl, rfl⟩, by show va_P G.1 vwCl _ tT.heap; rw [ht]; exact hP⟩, hS.F ht⟩) hS.2.2 dX3_read_32
  · have h00 := hM.1.1
    have hs := sN_some hM h1_0
    have hTX := hM.2.2 _ tX_1 hM.1.1 hs.2
    have hz := hM.2.1 _ hM.1.1
    have hc3 := hTX.2.2.2.2.1
    have hw3 := hTX.1.2
    have hp3 := hM.1.2.2.2.1 hs.1
    refine lv_istore_n (lv' := [(1, .int (nI tX_1)), (0, .ref b0)]) hx hb dX3_read_4 rfl hl (by decide) rfl (fun ls hl => ?_)
    refine lv_iload_n hx hb dX3_read_5 rfl (lv_at hl 0 rfl) ?_
    refine lv_bipush (v := (-5)) hx hb dX3_read_6 (by decide) ?_
    refine lv_icmp_eq (tgt := 30) hx hb dX3_read_8 (by decide) (fun q => absurd q (enc_ne (by omega))) (fun _ => ?_)
    refine lv_aload_n hx hb dX3_read_11 rfl (lv_at hl 1 rfl) ?_
    refine va_get (D := G.1) (ci := 3) (v := .ref b1) (C := RX3) (T := TX3) (N := 14) hx hb hts mic_read_3 hown hK hP 0 rfl rfl 0 (by decide) (hts _ mwc_read_0) (fun _ h9 => h9) rfl dX3_read_12 ?_
    refine lv_aload_n hx hb dX3_read_15 rfl (lv_at hl 1 rfl) ?_
    refine va_get (D := G.1) (ci := 3) (v := .ref b1) (C := RX3) (T := TX3) (N := 14) hx hb hts mic_read_3 hown hK hP 0 rfl rfl 0 (by decide) (hts _ mwc_read_0) (fun _ h9 => h9) rfl dX3_read_16 ?_
    refine lv_iconst (v := nI 0) hx hb dX3_read_19 (by decide) ?_
    refine zk_ald (f := sg) (k := 0) hx hb hK hP 1 0 rfl rfl (Nat.le_of_ble_eq_true rfl) (by omega) dX3_read_20 ?_
    refine lv_iload_n hx hb dX3_read_21 rfl (lv_at hl 0 rfl) ?_
    refine lv_iconst (v := nI 5) hx hb dX3_read_22 (by decide) ?_
    refine zc_S (As := [.int (nI (sg 0)), .int (nI tX_1), .int (nI 5)]) (rest := [.ref b1]) ⟨hx, hb, hml, hown, hts⟩ (c_of l (sg 0) tX_1 5 ) (va_cwS 3 hts gX3_read_X3_of rfl rfl rfl (by decide +kernel) ⟨Nat.le_of_ble_eq_true rfl, Nat.le_of_ble_eq_true rfl⟩) rfl hl.1 rfl (Nat.le_of_ble_eq_true rfl) dX3_read_23 ⟨Nat.zero_le _, Nat.zero_le _⟩ (fun r23 h23 => ?_)
    subst h23
    refine zk_ald (f := sg) (k := 11 + 76 * (sg 0) + 15 * tX_1 + 5) hx hb hK hP 1 0 rfl rfl (Nat.le_of_ble_eq_true rfl) (by omega) dX3_read_26 ?_
    refine zk_zle (tgt := 33) hx hb dX3_read_27 (by decide) (by omega) (fun c27 => ?_) (fun c27 => ?_)
    · refine lv_aload_n hx hb dX3_read_33 rfl (lv_at hl 1 rfl) ?_
      refine lv_iload_n hx hb dX3_read_34 rfl (lv_at hl 0 rfl) ?_
      refine zc_R (As := [.int (nI tX_1)]) (rest := []) ⟨hx, hb, hml, hown, hts⟩ (c_canRead l G b0 b1 b2 b3 b4 b5 b6 kn ik ty ra rb rd iw fl sg tX_1 (by omega) hs.1 hs.2) (cwV 1 hts gX3_read_X3_canRead rfl rfl rfl (by decide +kernel) ⟨Nat.le_of_ble_eq_true rfl, Nat.le_of_ble_eq_true rfl⟩) hK hN hP hD [0, 1] rfl (by decide) (ci := 3) rfl rfl rfl hl.1 rfl (Nat.le_of_ble_eq_true rfl) dX3_read_35 ⟨Nat.zero_le _, Nat.zero_le _⟩ (fun r35 h35 => ?_)
      rcases h35 with ⟨h35_0, rfl⟩ | ⟨h35_0, rfl⟩
      · refine lv_if_ne (tgt := 44) hx hb dX3_read_38 (by decide) (fun _ => ?_) (fun q => absurd q (by decide))
        refine lv_aload_n hx hb dX3_read_44 rfl (lv_at hl 1 rfl) ?_
        refine zc_U (As := []) (rest := []) (ws2 := (fun (uU : Nat × (Nat → Nat)) => ([(b0, .inr (3, [.ref b1, .ref b2, .ref b3, .int (nI uU.1), .ref b4, .int (nI ik), .ref b5, .int (nI ty), .int ra, .int rb, .int (nI rd), .int (nI iw), .ref b6, .int fl])), (b1, .inl (G.2.1, 618, .inl (arN sg))), (b3, .inl (G.2.1, 2472, .inl (arN uU.2)))] : va_W))) ⟨hx, hb, hml, hown, hts⟩ (c_know l G b0 b1 b2 b3 b4 b5 b6 kn ik ty ra rb rd iw fl sg be (by omega)) (cwV 0 hts gX3_read_X3_know rfl rfl rfl (by decide +kernel) ⟨Nat.le_of_ble_eq_true rfl, Nat.le_of_ble_eq_true rfl⟩) hK hN hP hD hS [0, 1, 2] rfl (by decide) (ci := 3) rfl rfl (fun _ => rfl) (fun _ => rfl) rfl hl.1 rfl (Nat.le_of_ble_eq_true rfl) dX3_read_45 ⟨Nat.zero_le _, Nat.zero_le _⟩ (fun u45 H locs h45 hP hD hS => ?_)
        subst h45
        have hP : va_P G.1 vwCl [(b0, .inr (3, [.ref b1, .ref b2, .ref b3, .int (nI (knK kn)), .ref b4, .int (nI ik), .ref b5, .int (nI ty), .int ra, .int rb, .int (nI rd), .int (nI iw), .ref b6, .int fl])), (b1, .inl (G.2.1, 618, .inl (arN sg))), (b3, .inl (G.2.1, 2472, .inl (arN (knB kn be sg))))] H := hP
        have hD : va_D (zIn [(b0, .inr (3, [.ref b1, .ref b2, .ref b3, .int (nI kn), .ref b4, .int (nI ik), .ref b5, .int (nI ty), .int ra, .int rb, .int (nI rd), .int (nI iw), .ref b6, .int fl])), (b1, .inl (G.2.1, 618, .inl (arN sg))), (b3, .inl (G.2.1, 2472, .inl (arN be)))]) [(b0, .inr (3, [.ref b1, .ref b2, .ref b3, .int (nI (knK kn)), .ref b4, .int (nI ik), .ref b5, .int (nI ty), .int ra, .int rb, .int (nI rd), .int (nI iw), .ref b6, .int fl])), (b1, .inl (G.2.1, 618, .inl (arN sg))), (b3, .inl (G.2.1, 2472, .inl (arN (knB kn be sg))))] := hD
        refine lv_aload_n hx hb dX3_read_48 rfl (lv_at hl 1 rfl) ?_
        refine va_get (D := G.1) (ci := 3) (v := .ref b1) (C := RX3) (T := TX3) (N := 14) hx hb hts mic_read_3 hown hK hP 0 rfl rfl 0 (by decide) (hts _ mwc_read_0) (fun _ h9 => h9) rfl dX3_read_49 ?_
        refine lv_bipush (v := nI 6) hx hb dX3_read_52 (by decide) ?_
        refine zk_ald (f := sg) (k := 6) hx hb hK hP 1 0 rfl rfl (Nat.le_of_ble_eq_true rfl) (by omega) dX3_read_54 ?_
        refine zc_S (As := [.int (nI (sg 6))]) (rest := []) ⟨hx, hb, hml, hown, hts⟩ (c_bitsOf l (sg 6) hM.1.2.2.2.2.2) (va_cwS 1 hts gX3_read_X3_bitsOf rfl rfl rfl (by decide +kernel) ⟨Nat.le_of_ble_eq_true rfl, Nat.le_of_ble_eq_true rfl⟩) rfl hl.1 rfl (Nat.le_of_ble_eq_true rfl) dX3_read_55 ⟨Nat.zero_le _, Nat.zero_le _⟩ (fun r55 h55 => ?_)
        subst h55
        refine lv_istore_n (lv' := [(2, .int (nI (bitsN (sg 6) 16))), (1, .int (nI tX_1)), (0, .ref b0)]) hx hb dX3_read_58 rfl hl (by decide) rfl (fun ls hl => ?_)
        refine lv_aload_n hx hb dX3_read_59 rfl (lv_at hl 2 rfl) ?_
        refine lv_iload_n hx hb dX3_read_60 rfl (lv_at hl 1 rfl) ?_
        refine zc_U (As := [.int (nI tX_1)]) (rest := []) (ws2 := (fun (uU : (Nat → Nat)) => ([(b0, .inr (3, [.ref b1, .ref b2, .ref b3, .int (nI (knK kn)), .ref b4, .int (nI ik), .ref b5, .int (nI ty), .int ra, .int rb, .int (nI rd), .int (nI iw), .ref b6, .int fl])), (b1, .inl (G.2.1, 618, .inl (arN uU))), (b3, .inl (G.2.1, 2472, .inl (arN (knB kn be sg))))] : va_W))) ⟨hx, hb, hml, hown, hts⟩ (c_reads l G b0 b1 b2 b3 b4 b5 b6 (knK kn) ik ty ra rb rd iw fl sg tX_1 (by omega) hs.1 hs.2 h35_0.2) (cwV 1 hts gX3_read_X3_reads rfl rfl rfl (by decide +kernel) ⟨Nat.le_of_ble_eq_true rfl, Nat.le_of_ble_eq_true rfl⟩) hK hN hP hD hS [0, 1] rfl (by decide) (ci := 3) rfl rfl (fun _ => rfl) (fun _ => rfl) rfl hl.1 rfl (Nat.le_of_ble_eq_true rfl) dX3_read_61 ⟨Nat.zero_le _, Nat.zero_le _⟩ (fun u61 H locs h61 hP hD hS => ?_)
        subst h61
        have hP : va_P G.1 vwCl [(b0, .inr (3, [.ref b1, .ref b2, .ref b3, .int (nI (knK kn)), .ref b4, .int (nI ik), .ref b5, .int (nI ty), .int ra, .int rb, .int (nI rd), .int (nI iw), .ref b6, .int fl])), (b1, .inl (G.2.1, 618, .inl (arN (rdT sg tX_1)))), (b3, .inl (G.2.1, 2472, .inl (arN (knB kn be sg))))] H := hP
        have hD : va_D (zIn [(b0, .inr (3, [.ref b1, .ref b2, .ref b3, .int (nI kn), .ref b4, .int (nI ik), .ref b5, .int (nI ty), .int ra, .int rb, .int (nI rd), .int (nI iw), .ref b6, .int fl])), (b1, .inl (G.2.1, 618, .inl (arN sg))), (b3, .inl (G.2.1, 2472, .inl (arN be)))]) [(b0, .inr (3, [.ref b1, .ref b2, .ref b3, .int (nI (knK kn)), .ref b4, .int (nI ik), .ref b5, .int (nI ty), .int ra, .int rb, .int (nI rd), .int (nI iw), .ref b6, .int fl])), (b1, .inl (G.2.1, 618, .inl (arN (rdT sg tX_1)))), (b3, .inl (G.2.1, 2472, .inl (arN (knB kn be sg))))] := hD
        refine lv_aload_n hx hb dX3_read_64 rfl (lv_at hl 2 rfl) ?_
        refine va_get (D := G.1) (ci := 3) (v := .ref b1) (C := RX3) (T := TX3) (N := 14) hx hb hts mic_read_3 hown hK hP 0 rfl rfl 0 (by decide) (hts _ mwc_read_0) (fun _ h9 => h9) rfl dX3_read_65 ?_
        refine lv_bipush (v := nI 6) hx hb dX3_read_68 (by decide) ?_
        refine zk_ald (f := rdT sg tX_1) (k := 6) hx hb hK hP 1 0 rfl rfl (Nat.le_of_ble_eq_true rfl) (by omega) dX3_read_70 ?_
        refine zc_S (As := [.int (nI ((rdT sg tX_1) 6))]) (rest := []) ⟨hx, hb, hml, hown, hts⟩ (c_bitsOf l ((rdT sg tX_1) 6) (mOK_rdT hM hs.2).1.2.2.2.2.2) (va_cwS 1 hts gX3_read_X3_bitsOf rfl rfl rfl (by decide +kernel) ⟨Nat.le_of_ble_eq_true rfl, Nat.le_of_ble_eq_true rfl⟩) rfl hl.1 rfl (Nat.le_of_ble_eq_true rfl) dX3_read_71 ⟨Nat.zero_le _, Nat.zero_le _⟩ (fun r71 h71 => ?_)
        subst h71
        refine lv_iload_n hx hb dX3_read_74 rfl (lv_at hl 0 rfl) ?_
        refine lv_isub hx hb dX3_read_75 ?_
        exact W.iret (v := (nI (bitsN ((rdT sg tX_1) 6) 16)) - (nI (bitsN (sg 6) 16))) hx hb hr (fun tT ht hW => ⟨⟨_, (knK kn, rdT sg tX_1, knB kn be sg), rfl, Or.inr (Or.inr (Or.inr ⟨tX_1, h1_0, c27, h35_0, rfl, rfl⟩)), by show va_P G.1 vwCl _ tT.heap; rw [ht]; exact hP⟩, hS.F ht⟩) hS.2.2 dX3_read_76
      · refine lv_if_ne (tgt := 44) hx hb dX3_read_38 (by decide) (fun q => absurd (by decide) q) (fun _ => ?_)
        refine lv_bipush (v := (-5)) hx hb dX3_read_41 (by decide) ?_
        exact W.iret (v := (-5)) hx hb hr (fun tT ht hW => ⟨⟨_, (kn, sg, be), rfl, Or.inr (Or.inr (Or.inl ⟨tX_1, h1_0, c27, h35_0, rfl, rfl⟩)), by show va_P G.1 vwCl _ tT.heap; rw [ht]; exact hP⟩, hS.F ht⟩) hS.2.2 dX3_read_43
    · refine lv_bipush (v := (-4)) hx hb dX3_read_30 (by decide) ?_
      exact W.iret (v := (-4)) hx hb hr (fun tT ht hW => ⟨⟨_, (kn, sg, be), rfl, Or.inr (Or.inl ⟨tX_1, h1_0, c27, rfl, rfl⟩), by show va_P G.1 vwCl _ tT.heap; rw [ht]; exact hP⟩, hS.F ht⟩) hS.2.2 dX3_read_32
set_option maxRecDepth 100000 in
theorem mwc_turn1_0 : Cond.fieldLink RX3 7 "ExhibitTextsModel" "s" "[I" ∈ wsX3_turn := by decide +kernel
set_option maxRecDepth 100000 in
theorem mic_turn1_3 : ∀ w ∈ u_ws RX3 TX3 14, w ∈ wsX3_turn := by decide +kernel
set_option maxHeartbeats 4000000 in
set_option maxRecDepth 100000 in
/-- X3_turn: turn -/
theorem c_turn1 (l : Launch) (G : zG) (b0 : Nat) (b1 : Nat) (b2 : Nat) (b3 : Nat) (b4 : Nat) (b5 : Nat) (b6 : Nat) (kn : Nat) (ik : Nat) (ty : Nat) (ra : Int32) (rb : Int32) (rd : Nat) (iw : Nat) (fl : Int32) (sg : Nat → Nat) (be : Nat → Nat) (hM : mOK sg) (hkn : kn ≤ 4) : Met l yX3_turn wsX3_turn ({ frames := 1, cells := 0, slots := 0, locals := 21 } : Room) (zPc G [.ref b0, .int (nI 1)] [(b0, .inr (3, [.ref b1, .ref b2, .ref b3, .int (nI kn), .ref b4, .int (nI ik), .ref b5, .int (nI ty), .int ra, .int rb, .int (nI rd), .int (nI iw), .ref b6, .int fl])), (b1, .inl (G.2.1, 618, .inl (arN sg))), (b3, .inl (G.2.1, 2472, .inl (arN be)))]) (va_Qi (fun (rR : Int32) (uU : Nat × (Nat → Nat) × (Nat → Nat)) => rR = nI ((sg 0 + 1) % 8) ∧ uU = (knK kn, tuT sg 1, knB kn be sg)) (fun uU tT => va_P G.1 vwCl ((fun (uU : Nat × (Nat → Nat) × (Nat → Nat)) => ([(b0, .inr (3, [.ref b1, .ref b2, .ref b3, .int (nI uU.1), .ref b4, .int (nI ik), .ref b5, .int (nI ty), .int ra, .int rb, .int (nI rd), .int (nI iw), .ref b6, .int fl])), (b1, .inl (G.2.1, 618, .inl (arN uU.2.1))), (b3, .inl (G.2.1, 2472, .inl (arN uU.2.2)))] : va_W)) uU) tT.heap) (zIn [(b0, .inr (3, [.ref b1, .ref b2, .ref b3, .int (nI kn), .ref b4, .int (nI ik), .ref b5, .int (nI ty), .int ra, .int rb, .int (nI rd), .int (nI iw), .ref b6, .int fl])), (b1, .inl (G.2.1, 618, .inl (arN sg))), (b3, .inl (G.2.1, 2472, .inl (arN be)))])) 0 0 (zIn [(b0, .inr (3, [.ref b1, .ref b2, .ref b3, .int (nI kn), .ref b4, .int (nI ik), .ref b5, .int (nI ty), .int ra, .int rb, .int (nI rd), .int (nI iw), .ref b6, .int fl])), (b1, .inl (G.2.1, 618, .inl (arN sg))), (b3, .inl (G.2.1, 2472, .inl (arN be)))]) := by
  refine zM (cc := cX3_turn) (maxL := 2) (ret := (some .int)) (by decide) rfl (Nat.le_of_ble_eq_true rfl) ?_
  intro pP eE sS mM below meth cC hx hb hr hts hown hlk hml hnm hK hN hP hD hS ls hl
  have hl : lv_has ls 2 [(0, .ref b0), (1, .int (nI 1))] := hl
  have h0 := hM.1.1
  have h1 := hM.1.2.1
  have h5 := hM.1.2.2.2.2.1
  refine lv_aload_n hx hb dX3_turn_0 rfl (lv_at hl 0 rfl) ?_
  refine zc_U (As := []) (rest := []) (ws2 := (fun (uU : Nat × (Nat → Nat)) => ([(b0, .inr (3, [.ref b1, .ref b2, .ref b3, .int (nI uU.1), .ref b4, .int (nI ik), .ref b5, .int (nI ty), .int ra, .int rb, .int (nI rd), .int (nI iw), .ref b6, .int fl])), (b1, .inl (G.2.1, 618, .inl (arN sg))), (b3, .inl (G.2.1, 2472, .inl (arN uU.2)))] : va_W))) ⟨hx, hb, hml, hown, hts⟩ (c_know l G b0 b1 b2 b3 b4 b5 b6 kn ik ty ra rb rd iw fl sg be (by omega)) (cwV 0 hts gX3_turn_X3_know rfl rfl rfl (by decide +kernel) ⟨Nat.le_of_ble_eq_true rfl, Nat.le_of_ble_eq_true rfl⟩) hK hN hP hD hS [0, 1, 2] rfl (by decide) (ci := 3) rfl rfl (fun _ => rfl) (fun _ => rfl) rfl hl.1 rfl (Nat.le_of_ble_eq_true rfl) dX3_turn_1 ⟨Nat.zero_le _, Nat.zero_le _⟩ (fun u1 H locs h1 hP hD hS => ?_)
  subst h1
  have hP : va_P G.1 vwCl [(b0, .inr (3, [.ref b1, .ref b2, .ref b3, .int (nI (knK kn)), .ref b4, .int (nI ik), .ref b5, .int (nI ty), .int ra, .int rb, .int (nI rd), .int (nI iw), .ref b6, .int fl])), (b1, .inl (G.2.1, 618, .inl (arN sg))), (b3, .inl (G.2.1, 2472, .inl (arN (knB kn be sg))))] H := hP
  have hD : va_D (zIn [(b0, .inr (3, [.ref b1, .ref b2, .ref b3, .int (nI kn), .ref b4, .int (nI ik), .ref b5, .int (nI ty), .int ra, .int rb, .int (nI rd), .int (nI iw), .ref b6, .int fl])), (b1, .inl (G.2.1, 618, .inl (arN sg))), (b3, .inl (G.2.1, 2472, .inl (arN be)))]) [(b0, .inr (3, [.ref b1, .ref b2, .ref b3, .int (nI (knK kn)), .ref b4, .int (nI ik), .ref b5, .int (nI ty), .int ra, .int rb, .int (nI rd), .int (nI iw), .ref b6, .int fl])), (b1, .inl (G.2.1, 618, .inl (arN sg))), (b3, .inl (G.2.1, 2472, .inl (arN (knB kn be sg))))] := hD
  refine lv_aload_n hx hb dX3_turn_4 rfl (lv_at hl 0 rfl) ?_
  refine va_get (D := G.1) (ci := 3) (v := .ref b1) (C := RX3) (T := TX3) (N := 14) hx hb hts mic_turn1_3 hown hK hP 0 rfl rfl 0 (by decide) (hts _ mwc_turn1_0) (fun _ h9 => h9) rfl dX3_turn_5 ?_
  refine lv_iconst (v := nI 0) hx hb dX3_turn_8 (by decide) ?_
  refine lv_aload_n hx hb dX3_turn_9 rfl (lv_at hl 0 rfl) ?_
  refine va_get (D := G.1) (ci := 3) (v := .ref b1) (C := RX3) (T := TX3) (N := 14) hx hb hts mic_turn1_3 hown hK hP 0 rfl rfl 0 (by decide) (hts _ mwc_turn1_0) (fun _ h9 => h9) rfl dX3_turn_10 ?_
  refine lv_iconst (v := nI 0) hx hb dX3_turn_13 (by decide) ?_
  refine zk_ald (f := sg) (k := 0) hx hb hK hP 1 0 rfl rfl (Nat.le_of_ble_eq_true rfl) (by omega) dX3_turn_14 ?_
  refine lv_iload_n hx hb dX3_turn_15 rfl (lv_at hl 1 rfl) ?_
  refine lv_if_eq (tgt := 23) hx hb dX3_turn_16 (by decide) (fun q => absurd q (by decide)) (fun _ => ?_)
  refine lv_iconst (v := nI 1) hx hb dX3_turn_19 (by decide) ?_
  refine lv_goto (tgt := 25) hx hb dX3_turn_20 (by decide) ?_
  refine zk_add hx hb dX3_turn_25 ?_
  refine lv_bipush (v := nI 8) hx hb dX3_turn_26 (by decide) ?_
  refine zk_rem hx hb dX3_turn_28 (by omega) (by omega) (by omega) ?_
  refine zk_ast (f := sg) (k := 0) (v := ((sg 0) + 1) % 8) (ws2 := [(b0, .inr (3, [.ref b1, .ref b2, .ref b3, .int (nI (knK kn)), .ref b4, .int (nI ik), .ref b5, .int (nI ty), .int ra, .int rb, .int (nI rd), .int (nI iw), .ref b6, .int fl])), (b1, .inl (G.2.1, 618, .inl (arN (arU sg 0 (((sg 0) + 1) % 8))))), (b3, .inl (G.2.1, 2472, .inl (arN (knB kn be sg))))]) hx hb hK hP hD hS 1 0 rfl rfl (Nat.le_of_ble_eq_true rfl) (by omega) rfl dX3_turn_29 (fun H locs hP hD hS => ?_)
  refine lv_aload_n hx hb dX3_turn_30 rfl (lv_at hl 0 rfl) ?_
  refine va_get (D := G.1) (ci := 3) (v := .ref b1) (C := RX3) (T := TX3) (N := 14) hx hb hts mic_turn1_3 hown hK hP 0 rfl rfl 0 (by decide) (hts _ mwc_turn1_0) (fun _ h9 => h9) rfl dX3_turn_31 ?_
  refine lv_iconst (v := nI 5) hx hb dX3_turn_34 (by decide) ?_
  refine lv_aload_n hx hb dX3_turn_35 rfl (lv_at hl 0 rfl) ?_
  refine va_get (D := G.1) (ci := 3) (v := .ref b1) (C := RX3) (T := TX3) (N := 14) hx hb hts mic_turn1_3 hown hK hP 0 rfl rfl 0 (by decide) (hts _ mwc_turn1_0) (fun _ h9 => h9) rfl dX3_turn_36 ?_
  refine lv_iconst (v := nI 5) hx hb dX3_turn_39 (by decide) ?_
  refine zk_ald (f := arU sg 0 (((sg 0) + 1) % 8)) (k := 5) hx hb hK hP 1 0 rfl rfl (Nat.le_of_ble_eq_true rfl) (by omega) dX3_turn_40 ?_
  refine zk_top (y := nI (sg 5)) (congrArg nI (arU_n (by omega))) ?_
  refine lv_aload_n hx hb dX3_turn_41 rfl (lv_at hl 0 rfl) ?_
  refine va_get (D := G.1) (ci := 3) (v := .ref b1) (C := RX3) (T := TX3) (N := 14) hx hb hts mic_turn1_3 hown hK hP 0 rfl rfl 0 (by decide) (hts _ mwc_turn1_0) (fun _ h9 => h9) rfl dX3_turn_42 ?_
  refine lv_iconst (v := nI 1) hx hb dX3_turn_45 (by decide) ?_
  refine zk_ald (f := arU sg 0 (((sg 0) + 1) % 8)) (k := 1) hx hb hK hP 1 0 rfl rfl (Nat.le_of_ble_eq_true rfl) (by omega) dX3_turn_46 ?_
  refine zk_top (y := nI (sg 1)) (congrArg nI (arU_n (by omega))) ?_
  refine zk_ige (tgt := 54) hx hb dX3_turn_47 (by decide) (by omega) (by omega) (fun c47 => ?_) (fun c47 => ?_)
  · refine lv_aload_n hx hb dX3_turn_54 rfl (lv_at hl 0 rfl) ?_
    refine va_get (D := G.1) (ci := 3) (v := .ref b1) (C := RX3) (T := TX3) (N := 14) hx hb hts mic_turn1_3 hown hK hP 0 rfl rfl 0 (by decide) (hts _ mwc_turn1_0) (fun _ h9 => h9) rfl dX3_turn_55 ?_
    refine lv_iconst (v := nI 5) hx hb dX3_turn_58 (by decide) ?_
    refine zk_ald (f := arU sg 0 (((sg 0) + 1) % 8)) (k := 5) hx hb hK hP 1 0 rfl rfl (Nat.le_of_ble_eq_true rfl) (by omega) dX3_turn_59 ?_
    refine zk_top (y := nI (sg 5)) (congrArg nI (arU_n (by omega))) ?_
    refine lv_aload_n hx hb dX3_turn_60 rfl (lv_at hl 0 rfl) ?_
    refine va_get (D := G.1) (ci := 3) (v := .ref b1) (C := RX3) (T := TX3) (N := 14) hx hb hts mic_turn1_3 hown hK hP 0 rfl rfl 0 (by decide) (hts _ mwc_turn1_0) (fun _ h9 => h9) rfl dX3_turn_61 ?_
    refine lv_iconst (v := nI 1) hx hb dX3_turn_64 (by decide) ?_
    refine zk_ald (f := arU sg 0 (((sg 0) + 1) % 8)) (k := 1) hx hb hK hP 1 0 rfl rfl (Nat.le_of_ble_eq_true rfl) (by omega) dX3_turn_65 ?_
    refine zk_top (y := nI (sg 1)) (congrArg nI (arU_n (by omega))) ?_
    refine zk_sub hx hb dX3_turn_66 (by omega) ?_
    refine zk_ast (f := arU sg 0 (((sg 0) + 1) % 8)) (k := 5) (v := (sg 5) - (sg 1)) (ws2 := [(b0, .inr (3, [.ref b1, .ref b2, .ref b3, .int (nI (knK kn)), .ref b4, .int (nI ik), .ref b5, .int (nI ty), .int ra, .int rb, .int (nI rd), .int (nI iw), .ref b6, .int fl])), (b1, .inl (G.2.1, 618, .inl (arN (arU (arU sg 0 (((sg 0) + 1) % 8)) 5 ((sg 5) - (sg 1)))))), (b3, .inl (G.2.1, 2472, .inl (arN (knB kn be sg))))]) hx hb hK hP hD hS 1 0 rfl rfl (Nat.le_of_ble_eq_true rfl) (by omega) rfl dX3_turn_67 (fun H locs hP hD hS => ?_)
    have en : arU (arU sg 0 (((sg 0) + 1) % 8)) 5 ((sg 5) - (sg 1)) = tuT sg 1 := (by show _ = arU _ 5 (sg 5 - sg 1); first | rfl | (congr 1; omega))
    rw [en] at hP hD
    refine lv_aload_n hx hb dX3_turn_68 rfl (lv_at hl 0 rfl) ?_
    refine va_get (D := G.1) (ci := 3) (v := .ref b1) (C := RX3) (T := TX3) (N := 14) hx hb hts mic_turn1_3 hown hK hP 0 rfl rfl 0 (by decide) (hts _ mwc_turn1_0) (fun _ h9 => h9) rfl dX3_turn_69 ?_
    refine lv_iconst (v := nI 0) hx hb dX3_turn_72 (by decide) ?_
    refine zk_ald (f := tuT sg 1) (k := 0) hx hb hK hP 1 0 rfl rfl (Nat.le_of_ble_eq_true rfl) (by omega) dX3_turn_73 ?_
    refine zk_top (y := nI ((sg 0 + 1) % 8)) rfl ?_
    exact W.iret (v := nI ((sg 0 + 1) % 8)) hx hb hr (fun tT ht hW => ⟨⟨_, (knK kn, tuT sg 1, knB kn be sg), rfl, ⟨rfl, rfl⟩, by show va_P G.1 vwCl _ tT.heap; rw [ht]; exact hP⟩, hS.F ht⟩) hS.2.2 dX3_turn_74
  · refine lv_iconst (v := nI 0) hx hb dX3_turn_50 (by decide) ?_
    refine lv_goto (tgt := 67) hx hb dX3_turn_51 (by decide) ?_
    refine zk_ast (f := arU sg 0 (((sg 0) + 1) % 8)) (k := 5) (v := 0) (ws2 := [(b0, .inr (3, [.ref b1, .ref b2, .ref b3, .int (nI (knK kn)), .ref b4, .int (nI ik), .ref b5, .int (nI ty), .int ra, .int rb, .int (nI rd), .int (nI iw), .ref b6, .int fl])), (b1, .inl (G.2.1, 618, .inl (arN (arU (arU sg 0 (((sg 0) + 1) % 8)) 5 0)))), (b3, .inl (G.2.1, 2472, .inl (arN (knB kn be sg))))]) hx hb hK hP hD hS 1 0 rfl rfl (Nat.le_of_ble_eq_true rfl) (by omega) rfl dX3_turn_67 (fun H locs hP hD hS => ?_)
    have en : arU (arU sg 0 (((sg 0) + 1) % 8)) 5 0 = tuT sg 1 := (by show _ = arU _ 5 (sg 5 - sg 1); first | rfl | (congr 1; omega))
    rw [en] at hP hD
    refine lv_aload_n hx hb dX3_turn_68 rfl (lv_at hl 0 rfl) ?_
    refine va_get (D := G.1) (ci := 3) (v := .ref b1) (C := RX3) (T := TX3) (N := 14) hx hb hts mic_turn1_3 hown hK hP 0 rfl rfl 0 (by decide) (hts _ mwc_turn1_0) (fun _ h9 => h9) rfl dX3_turn_69 ?_
    refine lv_iconst (v := nI 0) hx hb dX3_turn_72 (by decide) ?_
    refine zk_ald (f := tuT sg 1) (k := 0) hx hb hK hP 1 0 rfl rfl (Nat.le_of_ble_eq_true rfl) (by omega) dX3_turn_73 ?_
    refine zk_top (y := nI ((sg 0 + 1) % 8)) rfl ?_
    exact W.iret (v := nI ((sg 0 + 1) % 8)) hx hb hr (fun tT ht hW => ⟨⟨_, (knK kn, tuT sg 1, knB kn be sg), rfl, ⟨rfl, rfl⟩, by show va_P G.1 vwCl _ tT.heap; rw [ht]; exact hP⟩, hS.F ht⟩) hS.2.2 dX3_turn_74
set_option maxRecDepth 100000 in
theorem mwc_turn0_0 : Cond.fieldLink RX3 7 "ExhibitTextsModel" "s" "[I" ∈ wsX3_turn := by decide +kernel
set_option maxRecDepth 100000 in
theorem mic_turn0_3 : ∀ w ∈ u_ws RX3 TX3 14, w ∈ wsX3_turn := by decide +kernel
set_option maxHeartbeats 4000000 in
set_option maxRecDepth 100000 in
/-- X3_turn: turn -/
theorem c_turn0 (l : Launch) (G : zG) (b0 : Nat) (b1 : Nat) (b2 : Nat) (b3 : Nat) (b4 : Nat) (b5 : Nat) (b6 : Nat) (kn : Nat) (ik : Nat) (ty : Nat) (ra : Int32) (rb : Int32) (rd : Nat) (iw : Nat) (fl : Int32) (sg : Nat → Nat) (be : Nat → Nat) (hM : mOK sg) (hkn : kn ≤ 4) : Met l yX3_turn wsX3_turn ({ frames := 1, cells := 0, slots := 0, locals := 21 } : Room) (zPc G [.ref b0, .int (nI 0)] [(b0, .inr (3, [.ref b1, .ref b2, .ref b3, .int (nI kn), .ref b4, .int (nI ik), .ref b5, .int (nI ty), .int ra, .int rb, .int (nI rd), .int (nI iw), .ref b6, .int fl])), (b1, .inl (G.2.1, 618, .inl (arN sg))), (b3, .inl (G.2.1, 2472, .inl (arN be)))]) (va_Qi (fun (rR : Int32) (uU : Nat × (Nat → Nat) × (Nat → Nat)) => rR = nI ((sg 0 + 7) % 8) ∧ uU = (knK kn, tuT sg 7, knB kn be sg)) (fun uU tT => va_P G.1 vwCl ((fun (uU : Nat × (Nat → Nat) × (Nat → Nat)) => ([(b0, .inr (3, [.ref b1, .ref b2, .ref b3, .int (nI uU.1), .ref b4, .int (nI ik), .ref b5, .int (nI ty), .int ra, .int rb, .int (nI rd), .int (nI iw), .ref b6, .int fl])), (b1, .inl (G.2.1, 618, .inl (arN uU.2.1))), (b3, .inl (G.2.1, 2472, .inl (arN uU.2.2)))] : va_W)) uU) tT.heap) (zIn [(b0, .inr (3, [.ref b1, .ref b2, .ref b3, .int (nI kn), .ref b4, .int (nI ik), .ref b5, .int (nI ty), .int ra, .int rb, .int (nI rd), .int (nI iw), .ref b6, .int fl])), (b1, .inl (G.2.1, 618, .inl (arN sg))), (b3, .inl (G.2.1, 2472, .inl (arN be)))])) 0 0 (zIn [(b0, .inr (3, [.ref b1, .ref b2, .ref b3, .int (nI kn), .ref b4, .int (nI ik), .ref b5, .int (nI ty), .int ra, .int rb, .int (nI rd), .int (nI iw), .ref b6, .int fl])), (b1, .inl (G.2.1, 618, .inl (arN sg))), (b3, .inl (G.2.1, 2472, .inl (arN be)))]) := by
  refine zM (cc := cX3_turn) (maxL := 2) (ret := (some .int)) (by decide) rfl (Nat.le_of_ble_eq_true rfl) ?_
  intro pP eE sS mM below meth cC hx hb hr hts hown hlk hml hnm hK hN hP hD hS ls hl
  have hl : lv_has ls 2 [(0, .ref b0), (1, .int (nI 0))] := hl
  have h0 := hM.1.1
  have h1 := hM.1.2.1
  have h5 := hM.1.2.2.2.2.1
  refine lv_aload_n hx hb dX3_turn_0 rfl (lv_at hl 0 rfl) ?_
  refine zc_U (As := []) (rest := []) (ws2 := (fun (uU : Nat × (Nat → Nat)) => ([(b0, .inr (3, [.ref b1, .ref b2, .ref b3, .int (nI uU.1), .ref b4, .int (nI ik), .ref b5, .int (nI ty), .int ra, .int rb, .int (nI rd), .int (nI iw), .ref b6, .int fl])), (b1, .inl (G.2.1, 618, .inl (arN sg))), (b3, .inl (G.2.1, 2472, .inl (arN uU.2)))] : va_W))) ⟨hx, hb, hml, hown, hts⟩ (c_know l G b0 b1 b2 b3 b4 b5 b6 kn ik ty ra rb rd iw fl sg be (by omega)) (cwV 0 hts gX3_turn_X3_know rfl rfl rfl (by decide +kernel) ⟨Nat.le_of_ble_eq_true rfl, Nat.le_of_ble_eq_true rfl⟩) hK hN hP hD hS [0, 1, 2] rfl (by decide) (ci := 3) rfl rfl (fun _ => rfl) (fun _ => rfl) rfl hl.1 rfl (Nat.le_of_ble_eq_true rfl) dX3_turn_1 ⟨Nat.zero_le _, Nat.zero_le _⟩ (fun u1 H locs h1 hP hD hS => ?_)
  subst h1
  have hP : va_P G.1 vwCl [(b0, .inr (3, [.ref b1, .ref b2, .ref b3, .int (nI (knK kn)), .ref b4, .int (nI ik), .ref b5, .int (nI ty), .int ra, .int rb, .int (nI rd), .int (nI iw), .ref b6, .int fl])), (b1, .inl (G.2.1, 618, .inl (arN sg))), (b3, .inl (G.2.1, 2472, .inl (arN (knB kn be sg))))] H := hP
  have hD : va_D (zIn [(b0, .inr (3, [.ref b1, .ref b2, .ref b3, .int (nI kn), .ref b4, .int (nI ik), .ref b5, .int (nI ty), .int ra, .int rb, .int (nI rd), .int (nI iw), .ref b6, .int fl])), (b1, .inl (G.2.1, 618, .inl (arN sg))), (b3, .inl (G.2.1, 2472, .inl (arN be)))]) [(b0, .inr (3, [.ref b1, .ref b2, .ref b3, .int (nI (knK kn)), .ref b4, .int (nI ik), .ref b5, .int (nI ty), .int ra, .int rb, .int (nI rd), .int (nI iw), .ref b6, .int fl])), (b1, .inl (G.2.1, 618, .inl (arN sg))), (b3, .inl (G.2.1, 2472, .inl (arN (knB kn be sg))))] := hD
  refine lv_aload_n hx hb dX3_turn_4 rfl (lv_at hl 0 rfl) ?_
  refine va_get (D := G.1) (ci := 3) (v := .ref b1) (C := RX3) (T := TX3) (N := 14) hx hb hts mic_turn0_3 hown hK hP 0 rfl rfl 0 (by decide) (hts _ mwc_turn0_0) (fun _ h9 => h9) rfl dX3_turn_5 ?_
  refine lv_iconst (v := nI 0) hx hb dX3_turn_8 (by decide) ?_
  refine lv_aload_n hx hb dX3_turn_9 rfl (lv_at hl 0 rfl) ?_
  refine va_get (D := G.1) (ci := 3) (v := .ref b1) (C := RX3) (T := TX3) (N := 14) hx hb hts mic_turn0_3 hown hK hP 0 rfl rfl 0 (by decide) (hts _ mwc_turn0_0) (fun _ h9 => h9) rfl dX3_turn_10 ?_
  refine lv_iconst (v := nI 0) hx hb dX3_turn_13 (by decide) ?_
  refine zk_ald (f := sg) (k := 0) hx hb hK hP 1 0 rfl rfl (Nat.le_of_ble_eq_true rfl) (by omega) dX3_turn_14 ?_
  refine lv_iload_n hx hb dX3_turn_15 rfl (lv_at hl 1 rfl) ?_
  refine lv_if_eq (tgt := 23) hx hb dX3_turn_16 (by decide) (fun _ => ?_) (fun q => absurd (by decide) q)
  refine lv_bipush (v := nI 7) hx hb dX3_turn_23 (by decide) ?_
  refine zk_add hx hb dX3_turn_25 ?_
  refine lv_bipush (v := nI 8) hx hb dX3_turn_26 (by decide) ?_
  refine zk_rem hx hb dX3_turn_28 (by omega) (by omega) (by omega) ?_
  refine zk_ast (f := sg) (k := 0) (v := ((sg 0) + 7) % 8) (ws2 := [(b0, .inr (3, [.ref b1, .ref b2, .ref b3, .int (nI (knK kn)), .ref b4, .int (nI ik), .ref b5, .int (nI ty), .int ra, .int rb, .int (nI rd), .int (nI iw), .ref b6, .int fl])), (b1, .inl (G.2.1, 618, .inl (arN (arU sg 0 (((sg 0) + 7) % 8))))), (b3, .inl (G.2.1, 2472, .inl (arN (knB kn be sg))))]) hx hb hK hP hD hS 1 0 rfl rfl (Nat.le_of_ble_eq_true rfl) (by omega) rfl dX3_turn_29 (fun H locs hP hD hS => ?_)
  refine lv_aload_n hx hb dX3_turn_30 rfl (lv_at hl 0 rfl) ?_
  refine va_get (D := G.1) (ci := 3) (v := .ref b1) (C := RX3) (T := TX3) (N := 14) hx hb hts mic_turn0_3 hown hK hP 0 rfl rfl 0 (by decide) (hts _ mwc_turn0_0) (fun _ h9 => h9) rfl dX3_turn_31 ?_
  refine lv_iconst (v := nI 5) hx hb dX3_turn_34 (by decide) ?_
  refine lv_aload_n hx hb dX3_turn_35 rfl (lv_at hl 0 rfl) ?_
  refine va_get (D := G.1) (ci := 3) (v := .ref b1) (C := RX3) (T := TX3) (N := 14) hx hb hts mic_turn0_3 hown hK hP 0 rfl rfl 0 (by decide) (hts _ mwc_turn0_0) (fun _ h9 => h9) rfl dX3_turn_36 ?_
  refine lv_iconst (v := nI 5) hx hb dX3_turn_39 (by decide) ?_
  refine zk_ald (f := arU sg 0 (((sg 0) + 7) % 8)) (k := 5) hx hb hK hP 1 0 rfl rfl (Nat.le_of_ble_eq_true rfl) (by omega) dX3_turn_40 ?_
  refine zk_top (y := nI (sg 5)) (congrArg nI (arU_n (by omega))) ?_
  refine lv_aload_n hx hb dX3_turn_41 rfl (lv_at hl 0 rfl) ?_
  refine va_get (D := G.1) (ci := 3) (v := .ref b1) (C := RX3) (T := TX3) (N := 14) hx hb hts mic_turn0_3 hown hK hP 0 rfl rfl 0 (by decide) (hts _ mwc_turn0_0) (fun _ h9 => h9) rfl dX3_turn_42 ?_
  refine lv_iconst (v := nI 1) hx hb dX3_turn_45 (by decide) ?_
  refine zk_ald (f := arU sg 0 (((sg 0) + 7) % 8)) (k := 1) hx hb hK hP 1 0 rfl rfl (Nat.le_of_ble_eq_true rfl) (by omega) dX3_turn_46 ?_
  refine zk_top (y := nI (sg 1)) (congrArg nI (arU_n (by omega))) ?_
  refine zk_ige (tgt := 54) hx hb dX3_turn_47 (by decide) (by omega) (by omega) (fun c47 => ?_) (fun c47 => ?_)
  · refine lv_aload_n hx hb dX3_turn_54 rfl (lv_at hl 0 rfl) ?_
    refine va_get (D := G.1) (ci := 3) (v := .ref b1) (C := RX3) (T := TX3) (N := 14) hx hb hts mic_turn0_3 hown hK hP 0 rfl rfl 0 (by decide) (hts _ mwc_turn0_0) (fun _ h9 => h9) rfl dX3_turn_55 ?_
    refine lv_iconst (v := nI 5) hx hb dX3_turn_58 (by decide) ?_
    refine zk_ald (f := arU sg 0 (((sg 0) + 7) % 8)) (k := 5) hx hb hK hP 1 0 rfl rfl (Nat.le_of_ble_eq_true rfl) (by omega) dX3_turn_59 ?_
    refine zk_top (y := nI (sg 5)) (congrArg nI (arU_n (by omega))) ?_
    refine lv_aload_n hx hb dX3_turn_60 rfl (lv_at hl 0 rfl) ?_
    refine va_get (D := G.1) (ci := 3) (v := .ref b1) (C := RX3) (T := TX3) (N := 14) hx hb hts mic_turn0_3 hown hK hP 0 rfl rfl 0 (by decide) (hts _ mwc_turn0_0) (fun _ h9 => h9) rfl dX3_turn_61 ?_
    refine lv_iconst (v := nI 1) hx hb dX3_turn_64 (by decide) ?_
    refine zk_ald (f := arU sg 0 (((sg 0) + 7) % 8)) (k := 1) hx hb hK hP 1 0 rfl rfl (Nat.le_of_ble_eq_true rfl) (by omega) dX3_turn_65 ?_
    refine zk_top (y := nI (sg 1)) (congrArg nI (arU_n (by omega))) ?_
    refine zk_sub hx hb dX3_turn_66 (by omega) ?_
    refine zk_ast (f := arU sg 0 (((sg 0) + 7) % 8)) (k := 5) (v := (sg 5) - (sg 1)) (ws2 := [(b0, .inr (3, [.ref b1, .ref b2, .ref b3, .int (nI (knK kn)), .ref b4, .int (nI ik), .ref b5, .int (nI ty), .int ra, .int rb, .int (nI rd), .int (nI iw), .ref b6, .int fl])), (b1, .inl (G.2.1, 618, .inl (arN (arU (arU sg 0 (((sg 0) + 7) % 8)) 5 ((sg 5) - (sg 1)))))), (b3, .inl (G.2.1, 2472, .inl (arN (knB kn be sg))))]) hx hb hK hP hD hS 1 0 rfl rfl (Nat.le_of_ble_eq_true rfl) (by omega) rfl dX3_turn_67 (fun H locs hP hD hS => ?_)
    have en : arU (arU sg 0 (((sg 0) + 7) % 8)) 5 ((sg 5) - (sg 1)) = tuT sg 7 := (by show _ = arU _ 5 (sg 5 - sg 1); first | rfl | (congr 1; omega))
    rw [en] at hP hD
    refine lv_aload_n hx hb dX3_turn_68 rfl (lv_at hl 0 rfl) ?_
    refine va_get (D := G.1) (ci := 3) (v := .ref b1) (C := RX3) (T := TX3) (N := 14) hx hb hts mic_turn0_3 hown hK hP 0 rfl rfl 0 (by decide) (hts _ mwc_turn0_0) (fun _ h9 => h9) rfl dX3_turn_69 ?_
    refine lv_iconst (v := nI 0) hx hb dX3_turn_72 (by decide) ?_
    refine zk_ald (f := tuT sg 7) (k := 0) hx hb hK hP 1 0 rfl rfl (Nat.le_of_ble_eq_true rfl) (by omega) dX3_turn_73 ?_
    refine zk_top (y := nI ((sg 0 + 7) % 8)) rfl ?_
    exact W.iret (v := nI ((sg 0 + 7) % 8)) hx hb hr (fun tT ht hW => ⟨⟨_, (knK kn, tuT sg 7, knB kn be sg), rfl, ⟨rfl, rfl⟩, by show va_P G.1 vwCl _ tT.heap; rw [ht]; exact hP⟩, hS.F ht⟩) hS.2.2 dX3_turn_74
  · refine lv_iconst (v := nI 0) hx hb dX3_turn_50 (by decide) ?_
    refine lv_goto (tgt := 67) hx hb dX3_turn_51 (by decide) ?_
    refine zk_ast (f := arU sg 0 (((sg 0) + 7) % 8)) (k := 5) (v := 0) (ws2 := [(b0, .inr (3, [.ref b1, .ref b2, .ref b3, .int (nI (knK kn)), .ref b4, .int (nI ik), .ref b5, .int (nI ty), .int ra, .int rb, .int (nI rd), .int (nI iw), .ref b6, .int fl])), (b1, .inl (G.2.1, 618, .inl (arN (arU (arU sg 0 (((sg 0) + 7) % 8)) 5 0)))), (b3, .inl (G.2.1, 2472, .inl (arN (knB kn be sg))))]) hx hb hK hP hD hS 1 0 rfl rfl (Nat.le_of_ble_eq_true rfl) (by omega) rfl dX3_turn_67 (fun H locs hP hD hS => ?_)
    have en : arU (arU sg 0 (((sg 0) + 7) % 8)) 5 0 = tuT sg 7 := (by show _ = arU _ 5 (sg 5 - sg 1); first | rfl | (congr 1; omega))
    rw [en] at hP hD
    refine lv_aload_n hx hb dX3_turn_68 rfl (lv_at hl 0 rfl) ?_
    refine va_get (D := G.1) (ci := 3) (v := .ref b1) (C := RX3) (T := TX3) (N := 14) hx hb hts mic_turn0_3 hown hK hP 0 rfl rfl 0 (by decide) (hts _ mwc_turn0_0) (fun _ h9 => h9) rfl dX3_turn_69 ?_
    refine lv_iconst (v := nI 0) hx hb dX3_turn_72 (by decide) ?_
    refine zk_ald (f := tuT sg 7) (k := 0) hx hb hK hP 1 0 rfl rfl (Nat.le_of_ble_eq_true rfl) (by omega) dX3_turn_73 ?_
    refine zk_top (y := nI ((sg 0 + 7) % 8)) rfl ?_
    exact W.iret (v := nI ((sg 0 + 7) % 8)) hx hb hr (fun tT ht hW => ⟨⟨_, (knK kn, tuT sg 7, knB kn be sg), rfl, ⟨rfl, rfl⟩, by show va_P G.1 vwCl _ tT.heap; rw [ht]; exact hP⟩, hS.F ht⟩) hS.2.2 dX3_turn_74
set_option maxRecDepth 100000 in
theorem mwc_setTurning_0 : Cond.fieldLink RX3 7 "ExhibitTextsModel" "s" "[I" ∈ wsX3_setTurning := by decide +kernel
set_option maxRecDepth 100000 in
theorem mic_setTurning_3 : ∀ w ∈ u_ws RX3 TX3 14, w ∈ wsX3_setTurning := by decide +kernel
set_option maxHeartbeats 4000000 in
set_option maxRecDepth 100000 in
/-- X3_setTurning: setTurning -/
theorem c_setTurning (l : Launch) (G : zG) (b0 : Nat) (b1 : Nat) (b2 : Nat) (b3 : Nat) (b4 : Nat) (b5 : Nat) (b6 : Nat) (kn : Nat) (ik : Nat) (ty : Nat) (ra : Int32) (rb : Int32) (rd : Nat) (iw : Nat) (fl : Int32) (sg : Nat → Nat) (be : Nat → Nat) (x : Int32) (hM : mOK sg) (hkn : kn ≤ 4) : Met l yX3_setTurning wsX3_setTurning ({ frames := 1, cells := 0, slots := 0, locals := 22 } : Room) (zPc G [.ref b0, .int x] [(b0, .inr (3, [.ref b1, .ref b2, .ref b3, .int (nI kn), .ref b4, .int (nI ik), .ref b5, .int (nI ty), .int ra, .int rb, .int (nI rd), .int (nI iw), .ref b6, .int fl])), (b1, .inl (G.2.1, 618, .inl (arN sg))), (b3, .inl (G.2.1, 2472, .inl (arN be)))]) (va_Qi (fun (rR : Int32) (uU : Nat × (Nat → Nat) × (Nat → Nat)) => ((¬ ∃ n : Nat, 0 ≤ n ∧ n ≤ 60 ∧ x = nI n) ∧ rR = (-2) ∧ uU = (kn, sg, be)) ∨ (∃ (nX : Nat), nX ≤ 60 ∧ x = nI nX ∧ sg 1 = nX ∧ rR = (-5) ∧ uU = (kn, sg, be)) ∨ (∃ (nX : Nat), nX ≤ 60 ∧ x = nI nX ∧ sg 1 ≠ nX ∧ rR = nI (sg 1) ∧ uU = (knK kn, arU sg 1 nX, knB kn be sg))) (fun uU tT => va_P G.1 vwCl ((fun (uU : Nat × (Nat → Nat) × (Nat → Nat)) => ([(b0, .inr (3, [.ref b1, .ref b2, .ref b3, .int (nI uU.1), .ref b4, .int (nI ik), .ref b5, .int (nI ty), .int ra, .int rb, .int (nI rd), .int (nI iw), .ref b6, .int fl])), (b1, .inl (G.2.1, 618, .inl (arN uU.2.1))), (b3, .inl (G.2.1, 2472, .inl (arN uU.2.2)))] : va_W)) uU) tT.heap) (zIn [(b0, .inr (3, [.ref b1, .ref b2, .ref b3, .int (nI kn), .ref b4, .int (nI ik), .ref b5, .int (nI ty), .int ra, .int rb, .int (nI rd), .int (nI iw), .ref b6, .int fl])), (b1, .inl (G.2.1, 618, .inl (arN sg))), (b3, .inl (G.2.1, 2472, .inl (arN be)))])) 0 0 (zIn [(b0, .inr (3, [.ref b1, .ref b2, .ref b3, .int (nI kn), .ref b4, .int (nI ik), .ref b5, .int (nI ty), .int ra, .int rb, .int (nI rd), .int (nI iw), .ref b6, .int fl])), (b1, .inl (G.2.1, 618, .inl (arN sg))), (b3, .inl (G.2.1, 2472, .inl (arN be)))]) := by
  refine zM (cc := cX3_setTurning) (maxL := 3) (ret := (some .int)) (by decide) rfl (Nat.le_of_ble_eq_true rfl) ?_
  intro pP eE sS mM below meth cC hx hb hr hts hown hlk hml hnm hK hN hP hD hS ls hl
  have hl : lv_has ls 3 [(0, .ref b0), (1, .int x)] := hl
  have h1 := hM.1.2.1
  refine lv_iload_n hx hb dX3_setTurning_0 rfl (lv_at hl 1 rfl) ?_
  refine lv_iconst (v := nI 0) hx hb dX3_setTurning_1 (by decide) ?_
  refine lv_bipush (v := nI 60) hx hb dX3_setTurning_2 (by decide) ?_
  refine zc_S (As := [.int x, .int (nI 0), .int (nI 60)]) (rest := []) ⟨hx, hb, hml, hown, hts⟩ (c_in_c l x 0 60 (by omega) (by omega)) (va_cwS 3 hts gX3_setTurning_X3_in rfl rfl rfl (by decide +kernel) ⟨Nat.le_of_ble_eq_true rfl, Nat.le_of_ble_eq_true rfl⟩) rfl hl.1 rfl (Nat.le_of_ble_eq_true rfl) dX3_setTurning_4 ⟨Nat.zero_le _, Nat.zero_le _⟩ (fun r4 h4 => ?_)
  rcases h4 with ⟨nX_4, h4_0, h4_1, rfl, rfl⟩ | ⟨h4_0, rfl⟩
  · refine lv_if_ne (tgt := 13) hx hb dX3_setTurning_7 (by decide) (fun _ => ?_) (fun q => absurd q (by decide))
    refine lv_aload_n hx hb dX3_setTurning_13 rfl (lv_at hl 0 rfl) ?_
    refine va_get (D := G.1) (ci := 3) (v := .ref b1) (C := RX3) (T := TX3) (N := 14) hx hb hts mic_setTurning_3 hown hK hP 0 rfl rfl 0 (by decide) (hts _ mwc_setTurning_0) (fun _ h9 => h9) rfl dX3_setTurning_14 ?_
    refine lv_iconst (v := nI 1) hx hb dX3_setTurning_17 (by decide) ?_
    refine zk_ald (f := sg) (k := 1) hx hb hK hP 1 0 rfl rfl (Nat.le_of_ble_eq_true rfl) (by omega) dX3_setTurning_18 ?_
    refine lv_istore_n (lv' := [(2, .int (nI (sg 1))), (0, .ref b0), (1, .int (nI nX_4))]) hx hb dX3_setTurning_19 rfl hl (by decide) rfl (fun ls hl => ?_)
    refine lv_iload_n hx hb dX3_setTurning_20 rfl (lv_at hl 0 rfl) ?_
    refine lv_iload_n hx hb dX3_setTurning_21 rfl (lv_at hl 2 rfl) ?_
    refine zk_ine (tgt := 28) hx hb dX3_setTurning_22 (by decide) (by omega) (by omega) (fun c22 => ?_) (fun c22 => ?_)
    · refine lv_aload_n hx hb dX3_setTurning_28 rfl (lv_at hl 1 rfl) ?_
      refine zc_U (As := []) (rest := []) (ws2 := (fun (uU : Nat × (Nat → Nat)) => ([(b0, .inr (3, [.ref b1, .ref b2, .ref b3, .int (nI uU.1), .ref b4, .int (nI ik), .ref b5, .int (nI ty), .int ra, .int rb, .int (nI rd), .int (nI iw), .ref b6, .int fl])), (b1, .inl (G.2.1, 618, .inl (arN sg))), (b3, .inl (G.2.1, 2472, .inl (arN uU.2)))] : va_W))) ⟨hx, hb, hml, hown, hts⟩ (c_know l G b0 b1 b2 b3 b4 b5 b6 kn ik ty ra rb rd iw fl sg be (by omega)) (cwV 0 hts gX3_setTurning_X3_know rfl rfl rfl (by decide +kernel) ⟨Nat.le_of_ble_eq_true rfl, Nat.le_of_ble_eq_true rfl⟩) hK hN hP hD hS [0, 1, 2] rfl (by decide) (ci := 3) rfl rfl (fun _ => rfl) (fun _ => rfl) rfl hl.1 rfl (Nat.le_of_ble_eq_true rfl) dX3_setTurning_29 ⟨Nat.zero_le _, Nat.zero_le _⟩ (fun u29 H locs h29 hP hD hS => ?_)
      subst h29
      have hP : va_P G.1 vwCl [(b0, .inr (3, [.ref b1, .ref b2, .ref b3, .int (nI (knK kn)), .ref b4, .int (nI ik), .ref b5, .int (nI ty), .int ra, .int rb, .int (nI rd), .int (nI iw), .ref b6, .int fl])), (b1, .inl (G.2.1, 618, .inl (arN sg))), (b3, .inl (G.2.1, 2472, .inl (arN (knB kn be sg))))] H := hP
      have hD : va_D (zIn [(b0, .inr (3, [.ref b1, .ref b2, .ref b3, .int (nI kn), .ref b4, .int (nI ik), .ref b5, .int (nI ty), .int ra, .int rb, .int (nI rd), .int (nI iw), .ref b6, .int fl])), (b1, .inl (G.2.1, 618, .inl (arN sg))), (b3, .inl (G.2.1, 2472, .inl (arN be)))]) [(b0, .inr (3, [.ref b1, .ref b2, .ref b3, .int (nI (knK kn)), .ref b4, .int (nI ik), .ref b5, .int (nI ty), .int ra, .int rb, .int (nI rd), .int (nI iw), .ref b6, .int fl])), (b1, .inl (G.2.1, 618, .inl (arN sg))), (b3, .inl (G.2.1, 2472, .inl (arN (knB kn be sg))))] := hD
      refine lv_aload_n hx hb dX3_setTurning_32 rfl (lv_at hl 1 rfl) ?_
      refine va_get (D := G.1) (ci := 3) (v := .ref b1) (C := RX3) (T := TX3) (N := 14) hx hb hts mic_setTurning_3 hown hK hP 0 rfl rfl 0 (by decide) (hts _ mwc_setTurning_0) (fun _ h9 => h9) rfl dX3_setTurning_33 ?_
      refine lv_iconst (v := nI 1) hx hb dX3_setTurning_36 (by decide) ?_
      refine lv_iload_n hx hb dX3_setTurning_37 rfl (lv_at hl 2 rfl) ?_
      refine zk_ast (f := sg) (k := 1) (v := nX_4) (ws2 := [(b0, .inr (3, [.ref b1, .ref b2, .ref b3, .int (nI (knK kn)), .ref b4, .int (nI ik), .ref b5, .int (nI ty), .int ra, .int rb, .int (nI rd), .int (nI iw), .ref b6, .int fl])), (b1, .inl (G.2.1, 618, .inl (arN (arU sg 1 nX_4)))), (b3, .inl (G.2.1, 2472, .inl (arN (knB kn be sg))))]) hx hb hK hP hD hS 1 0 rfl rfl (Nat.le_of_ble_eq_true rfl) (by omega) rfl dX3_setTurning_38 (fun H locs hP hD hS => ?_)
      refine lv_iload_n hx hb dX3_setTurning_39 rfl (lv_at hl 0 rfl) ?_
      exact W.iret (v := nI (sg 1)) hx hb hr (fun tT ht hW => ⟨⟨_, (knK kn, arU sg 1 nX_4, knB kn be sg), rfl, Or.inr (Or.inr ⟨nX_4, h4_1, rfl, c22, rfl, rfl⟩), by show va_P G.1 vwCl _ tT.heap; rw [ht]; exact hP⟩, hS.F ht⟩) hS.2.2 dX3_setTurning_40
    · refine lv_bipush (v := (-5)) hx hb dX3_setTurning_25 (by decide) ?_
      exact W.iret (v := (-5)) hx hb hr (fun tT ht hW => ⟨⟨_, (kn, sg, be), rfl, Or.inr (Or.inl ⟨nX_4, h4_1, rfl, c22, rfl, rfl⟩), by show va_P G.1 vwCl _ tT.heap; rw [ht]; exact hP⟩, hS.F ht⟩) hS.2.2 dX3_setTurning_27
  · refine lv_if_ne (tgt := 13) hx hb dX3_setTurning_7 (by decide) (fun q => absurd (by decide) q) (fun _ => ?_)
    refine lv_bipush (v := (-2)) hx hb dX3_setTurning_10 (by decide) ?_
    exact W.iret (v := (-2)) hx hb hr (fun tT ht hW => ⟨⟨_, (kn, sg, be), rfl, Or.inl ⟨h4_0, rfl, rfl⟩, by show va_P G.1 vwCl _ tT.heap; rw [ht]; exact hP⟩, hS.F ht⟩) hS.2.2 dX3_setTurning_12
set_option maxRecDepth 100000 in
theorem mwc_texts_0 : Cond.fieldLink RX3 7 "ExhibitTextsModel" "s" "[I" ∈ wsX3_texts := by decide +kernel
set_option maxRecDepth 100000 in
theorem mic_texts_3 : ∀ w ∈ u_ws RX3 TX3 14, w ∈ wsX3_texts := by decide +kernel
set_option maxHeartbeats 4000000 in
set_option maxRecDepth 100000 in
/-- X3_texts: how many texts -/
theorem c_texts (l : Launch) (G : zG) (b0 : Nat) (b1 : Nat) (b2 : Nat) (b3 : Nat) (b4 : Nat) (b5 : Nat) (b6 : Nat) (kn : Nat) (ik : Nat) (ty : Nat) (ra : Int32) (rb : Int32) (rd : Nat) (iw : Nat) (fl : Int32) (sg : Nat → Nat) : Met l yX3_texts wsX3_texts ({ frames := 1, cells := 0, slots := 0, locals := 20 } : Room) (zPc G [.ref b0] [(b0, .inr (3, [.ref b1, .ref b2, .ref b3, .int (nI kn), .ref b4, .int (nI ik), .ref b5, .int (nI ty), .int ra, .int rb, .int (nI rd), .int (nI iw), .ref b6, .int fl])), (b1, .inl (G.2.1, 618, .inl (arN sg)))]) (vp_Si (fun (rR : Int32) => rR = nI (sumN (szF sg) 8))) 0 0 (fun _ => False) := by
  refine zR (cc := cX3_texts) (maxL := 3) (ret := (some .int)) (by decide) rfl (Nat.le_of_ble_eq_true rfl) ?_
  intro pP eE sS mM below meth cC hx hb hr hts hown hlk hml hK hN hP hD ls hl
  have hl : lv_has ls 3 [(0, .ref b0)] := hl
  refine lv_iconst (v := nI 0) hx hb dX3_texts_0 (by decide) ?_
  refine lv_istore_n (lv' := [(1, .int (nI 0)), (0, .ref b0)]) hx hb dX3_texts_1 rfl hl (by decide) rfl (fun ls hl => ?_)
  refine lv_iconst (v := nI 0) hx hb dX3_texts_2 (by decide) ?_
  refine lv_istore_n (lv' := [(2, .int (nI 0)), (1, .int (nI 0)), (0, .ref b0)]) hx hb dX3_texts_3 rfl hl (by decide) rfl (fun ls hl => ?_)
  have lp4 : ∀ (fu4 : Nat), ∀ (kX : Nat) (ls : Array Slot), (8 - kX) < fu4 → (kX ≤ 8) → lv_has ls 3 [(0, .ref b0), (1, .int (nI (sumN (szF sg) kX))), (2, .int (nI kX))] → W pP l eE (headSpec wsX3_texts ({ frames := 1, cells := 0, slots := 0, locals := 20 } : Room)).room sS mM ([.ref b0] : List Value).toArray below meth cC sS.heap [] 0 0 (MQ below (vp_Si (fun (rR : Int32) => rR = nI (sumN (szF sg) 8))) ([.ref b0] : List Value).toArray sS 0 0 (fun _ => False)) (F0 mM 4 ls []) := by
    intro fu4
    induction fu4 with
    | zero => intro kX ls hfu4; exact absurd hfu4 (Nat.not_lt_zero _)
    | succ fu4 ih4 =>
      intro kX ls hfu4 hk hl
      refine lv_iload_n hx hb dX3_texts_4 rfl (lv_at hl 2 rfl) ?_
      refine lv_bipush (v := nI 8) hx hb dX3_texts_5 (by decide) ?_
      refine zk_ige (tgt := 28) hx hb dX3_texts_7 (by decide) (by omega) (by omega) (fun c7 => ?_) (fun c7 => ?_)
      · refine lv_iload_n hx hb dX3_texts_28 rfl (lv_at hl 1 rfl) ?_
        exact W.iret (v := nI (sumN (szF sg) kX)) hx hb hr (fun tT ht hW => ⟨_, rfl, (by rw [show kX = 8 from by omega]), ht⟩) (fun _ h => absurd h List.not_mem_nil) dX3_texts_29
      · refine lv_iload_n hx hb dX3_texts_10 rfl (lv_at hl 1 rfl) ?_
        refine lv_aload_n hx hb dX3_texts_11 rfl (lv_at hl 0 rfl) ?_
        refine va_get (D := G.1) (ci := 3) (v := .ref b1) (C := RX3) (T := TX3) (N := 14) hx hb hts mic_texts_3 hown hK hP 0 rfl rfl 0 (by decide) (hts _ mwc_texts_0) (fun _ h9 => h9) rfl dX3_texts_12 ?_
        refine lv_iload_n hx hb dX3_texts_15 rfl (lv_at hl 2 rfl) ?_
        refine zc_S (As := [.int (nI kX)]) (rest := [.ref b1, .int (nI (sumN (szF sg) kX))]) ⟨hx, hb, hml, hown, hts⟩ (c_manyAt l kX ) (va_cwS 1 hts gX3_texts_X3_manyAt rfl rfl rfl (by decide +kernel) ⟨Nat.le_of_ble_eq_true rfl, Nat.le_of_ble_eq_true rfl⟩) rfl hl.1 rfl (Nat.le_of_ble_eq_true rfl) dX3_texts_16 ⟨Nat.zero_le _, Nat.zero_le _⟩ (fun r16 h16 => ?_)
        subst h16
        refine zk_ald (f := sg) (k := 10 + 76 * kX) hx hb hK hP 1 0 rfl rfl (Nat.le_of_ble_eq_true rfl) (by omega) dX3_texts_19 ?_
        refine zk_add hx hb dX3_texts_20 ?_
        refine lv_istore_n (lv' := [(1, .int (nI ((sumN (szF sg) kX) + (sg (10 + 76 * kX))))), (0, .ref b0), (2, .int (nI kX))]) hx hb dX3_texts_21 rfl hl (by decide) rfl (fun ls hl => ?_)
        refine zk_inc (a := kX) (d := 1) (lv' := [(2, .int (nI (kX + 1))), (1, .int (nI ((sumN (szF sg) kX) + (sg (10 + 76 * kX))))), (0, .ref b0)]) hx hb dX3_texts_22 hl (K := 2) rfl (by decide) (by decide) rfl (fun ls hl => ?_)
        refine lv_goto (tgt := 4) hx hb dX3_texts_25 (by decide) ?_
        exact ih4 (kX + 1) _ (by omega) (by omega) (lv_sub hl [2, 1, 0] rfl)
  exact lp4 _ 0 _ (Nat.lt_succ_self _) (by omega) (lv_sub hl [2, 1, 0] rfl)
set_option maxRecDepth 100000 in
theorem mwc_undo_0 : Cond.fieldLink RX3 55 "ExhibitTextsModel" "known" "I" ∈ wsX3_undo := by decide +kernel
set_option maxRecDepth 100000 in
theorem mic_undo_3 : ∀ w ∈ u_ws RX3 TX3 14, w ∈ wsX3_undo := by decide +kernel
set_option maxRecDepth 100000 in
theorem mwc_undo_2 : Cond.fieldLink RX3 7 "ExhibitTextsModel" "s" "[I" ∈ wsX3_undo := by decide +kernel
set_option maxRecDepth 100000 in
theorem mwc_undo_3 : Cond.fieldLink RX3 16 "ExhibitTextsModel" "before" "[I" ∈ wsX3_undo := by decide +kernel
set_option maxHeartbeats 4000000 in
set_option maxRecDepth 100000 in
/-- X3_undo: undo -/
theorem c_undo (l : Launch) (G : zG) (b0 : Nat) (b1 : Nat) (b2 : Nat) (b3 : Nat) (b4 : Nat) (b5 : Nat) (b6 : Nat) (kn : Nat) (ik : Nat) (ty : Nat) (ra : Int32) (rb : Int32) (rd : Nat) (iw : Nat) (fl : Int32) (sg : Nat → Nat) (be : Nat → Nat) (hkn : kn ≤ 4) : Met l yX3_undo wsX3_undo ({ frames := 0, cells := 0, slots := 0, locals := 0 } : Room) (zPc G [.ref b0] [(b0, .inr (3, [.ref b1, .ref b2, .ref b3, .int (nI kn), .ref b4, .int (nI ik), .ref b5, .int (nI ty), .int ra, .int rb, .int (nI rd), .int (nI iw), .ref b6, .int fl])), (b1, .inl (G.2.1, 618, .inl (arN sg))), (b3, .inl (G.2.1, 2472, .inl (arN be)))]) (va_Qi (fun (rR : Int32) (uU : Nat × (Nat → Nat) × (Nat → Nat)) => (kn = 0 ∧ rR = (-5) ∧ uU = (kn, sg, be)) ∨ (0 < kn ∧ rR = nI (kn - 1) ∧ uU = (kn - 1, cpF sg be 0 (618 * (kn - 1)) 618, be))) (fun uU tT => va_P G.1 vwCl ((fun (uU : Nat × (Nat → Nat) × (Nat → Nat)) => ([(b0, .inr (3, [.ref b1, .ref b2, .ref b3, .int (nI uU.1), .ref b4, .int (nI ik), .ref b5, .int (nI ty), .int ra, .int rb, .int (nI rd), .int (nI iw), .ref b6, .int fl])), (b1, .inl (G.2.1, 618, .inl (arN uU.2.1))), (b3, .inl (G.2.1, 2472, .inl (arN uU.2.2)))] : va_W)) uU) tT.heap) (zIn [(b0, .inr (3, [.ref b1, .ref b2, .ref b3, .int (nI kn), .ref b4, .int (nI ik), .ref b5, .int (nI ty), .int ra, .int rb, .int (nI rd), .int (nI iw), .ref b6, .int fl])), (b1, .inl (G.2.1, 618, .inl (arN sg))), (b3, .inl (G.2.1, 2472, .inl (arN be)))])) 0 0 (zIn [(b0, .inr (3, [.ref b1, .ref b2, .ref b3, .int (nI kn), .ref b4, .int (nI ik), .ref b5, .int (nI ty), .int ra, .int rb, .int (nI rd), .int (nI iw), .ref b6, .int fl])), (b1, .inl (G.2.1, 618, .inl (arN sg))), (b3, .inl (G.2.1, 2472, .inl (arN be)))]) := by
  refine zM (cc := cX3_undo) (maxL := 2) (ret := (some .int)) (by decide) rfl (Nat.le_of_ble_eq_true rfl) ?_
  intro pP eE sS mM below meth cC hx hb hr hts hown hlk hml hnm hK hN hP hD hS ls hl
  have hl : lv_has ls 2 [(0, .ref b0)] := hl
  refine lv_aload_n hx hb dX3_undo_0 rfl (lv_at hl 0 rfl) ?_
  refine va_get (D := G.1) (ci := 3) (v := .int (nI kn)) (C := RX3) (T := TX3) (N := 14) hx hb hts mic_undo_3 hown hK hP 0 rfl rfl 3 (by decide) (hts _ mwc_undo_0) (fun _ h9 => h9) rfl dX3_undo_1 ?_
  refine zk_zne (tgt := 10) hx hb dX3_undo_4 (by decide) (by omega) (fun c4 => ?_) (fun c4 => ?_)
  · refine lv_aload_n hx hb dX3_undo_10 rfl (lv_at hl 0 rfl) ?_
    refine lv_dup hx hb dX3_undo_11 rfl ?_
    refine va_get (D := G.1) (ci := 3) (v := .int (nI kn)) (C := RX3) (T := TX3) (N := 14) hx hb hts mic_undo_3 hown hK hP 0 rfl rfl 3 (by decide) (hts _ mwc_undo_0) (fun _ h9 => h9) rfl dX3_undo_12 ?_
    refine lv_iconst (v := nI 1) hx hb dX3_undo_15 (by decide) ?_
    refine zk_sub hx hb dX3_undo_16 (by omega) ?_
    refine zk_put (D := G.1) (ci := 3) (v := .int (nI (kn - 1))) (ty := .int) (C := RX3) (T := TX3) (N := 14) (ws2 := [(b0, .inr (3, [.ref b1, .ref b2, .ref b3, .int (nI (kn - 1)), .ref b4, .int (nI ik), .ref b5, .int (nI ty), .int ra, .int rb, .int (nI rd), .int (nI iw), .ref b6, .int fl])), (b1, .inl (G.2.1, 618, .inl (arN sg))), (b3, .inl (G.2.1, 2472, .inl (arN be)))]) hx hb hts mic_undo_3 tyX3 tyX3_ok nmX3 hown hK hP hD hS 0 rfl rfl 3 (by decide) (hts _ mwc_undo_0) (fun _ h9 => h9) rfl (by decide +kernel) rfl rfl (Nat.le_of_ble_eq_true rfl) rfl dX3_undo_17 (fun H locs hP hD hS => ?_)
    refine lv_iconst (v := nI 0) hx hb dX3_undo_20 (by decide) ?_
    refine lv_istore_n (lv' := [(1, .int (nI 0)), (0, .ref b0)]) hx hb dX3_undo_21 rfl hl (by decide) rfl (fun ls hl => ?_)
    have lp22 : ∀ (fu22 : Nat), ∀ (kX : Nat) (H : Heap) (locs : List Loc) (ls : Array Slot), (618 - kX) < fu22 → (kX ≤ 618) → va_P G.1 vwCl [(b0, .inr (3, [.ref b1, .ref b2, .ref b3, .int (nI (kn - 1)), .ref b4, .int (nI ik), .ref b5, .int (nI ty), .int ra, .int rb, .int (nI rd), .int (nI iw), .ref b6, .int fl])), (b1, .inl (G.2.1, 618, .inl (arN (cpF sg be 0 (618 * (kn - 1)) kX)))), (b3, .inl (G.2.1, 2472, .inl (arN be)))] H → va_D (zIn [(b0, .inr (3, [.ref b1, .ref b2, .ref b3, .int (nI kn), .ref b4, .int (nI ik), .ref b5, .int (nI ty), .int ra, .int rb, .int (nI rd), .int (nI iw), .ref b6, .int fl])), (b1, .inl (G.2.1, 618, .inl (arN sg))), (b3, .inl (G.2.1, 2472, .inl (arN be)))]) [(b0, .inr (3, [.ref b1, .ref b2, .ref b3, .int (nI (kn - 1)), .ref b4, .int (nI ik), .ref b5, .int (nI ty), .int ra, .int rb, .int (nI rd), .int (nI iw), .ref b6, .int fl])), (b1, .inl (G.2.1, 618, .inl (arN (cpF sg be 0 (618 * (kn - 1)) kX)))), (b3, .inl (G.2.1, 2472, .inl (arN be)))] → va_S (zIn [(b0, .inr (3, [.ref b1, .ref b2, .ref b3, .int (nI kn), .ref b4, .int (nI ik), .ref b5, .int (nI ty), .int ra, .int rb, .int (nI rd), .int (nI iw), .ref b6, .int fl])), (b1, .inl (G.2.1, 618, .inl (arN sg))), (b3, .inl (G.2.1, 2472, .inl (arN be)))]) sS.heap H locs → lv_has ls 2 [(0, .ref b0), (1, .int (nI kX))] → W pP l eE (headSpec wsX3_undo ({ frames := 0, cells := 0, slots := 0, locals := 0 } : Room)).room sS mM ([.ref b0] : List Value).toArray below meth cC H locs 0 0 (MQ below (va_Qi (fun (rR : Int32) (uU : Nat × (Nat → Nat) × (Nat → Nat)) => (kn = 0 ∧ rR = (-5) ∧ uU = (kn, sg, be)) ∨ (0 < kn ∧ rR = nI (kn - 1) ∧ uU = (kn - 1, cpF sg be 0 (618 * (kn - 1)) 618, be))) (fun uU tT => va_P G.1 vwCl ((fun (uU : Nat × (Nat → Nat) × (Nat → Nat)) => ([(b0, .inr (3, [.ref b1, .ref b2, .ref b3, .int (nI uU.1), .ref b4, .int (nI ik), .ref b5, .int (nI ty), .int ra, .int rb, .int (nI rd), .int (nI iw), .ref b6, .int fl])), (b1, .inl (G.2.1, 618, .inl (arN uU.2.1))), (b3, .inl (G.2.1, 2472, .inl (arN uU.2.2)))] : va_W)) uU) tT.heap) (zIn [(b0, .inr (3, [.ref b1, .ref b2, .ref b3, .int (nI kn), .ref b4, .int (nI ik), .ref b5, .int (nI ty), .int ra, .int rb, .int (nI rd), .int (nI iw), .ref b6, .int fl])), (b1, .inl (G.2.1, 618, .inl (arN sg))), (b3, .inl (G.2.1, 2472, .inl (arN be)))])) ([.ref b0] : List Value).toArray sS 0 0 (zIn [(b0, .inr (3, [.ref b1, .ref b2, .ref b3, .int (nI kn), .ref b4, .int (nI ik), .ref b5, .int (nI ty), .int ra, .int rb, .int (nI rd), .int (nI iw), .ref b6, .int fl])), (b1, .inl (G.2.1, 618, .inl (arN sg))), (b3, .inl (G.2.1, 2472, .inl (arN be)))])) (F0 mM 22 ls []) := by
      intro fu22
      induction fu22 with
      | zero => intro kX H locs ls hfu22; exact absurd hfu22 (Nat.not_lt_zero _)
      | succ fu22 ih22 =>
        intro kX H locs ls hfu22 hk hP hD hS hl
        refine lv_iload_n hx hb dX3_undo_22 rfl (lv_at hl 1 rfl) ?_
        refine lv_sipush (v := nI 618) hx hb dX3_undo_23 (by decide) ?_
        refine zk_ige (tgt := 56) hx hb dX3_undo_26 (by decide) (by omega) (by omega) (fun c26 => ?_) (fun c26 => ?_)
        · have hk9 : kX = 618 := by omega
          subst hk9
          refine lv_aload_n hx hb dX3_undo_56 rfl (lv_at hl 0 rfl) ?_
          refine va_get (D := G.1) (ci := 3) (v := .int (nI (kn - 1))) (C := RX3) (T := TX3) (N := 14) hx hb hts mic_undo_3 hown hK hP 0 rfl rfl 3 (by decide) (hts _ mwc_undo_0) (fun _ h9 => h9) rfl dX3_undo_57 ?_
          exact W.iret (v := nI (kn - 1)) hx hb hr (fun tT ht hW => ⟨⟨_, (kn - 1, cpF sg be 0 (618 * (kn - 1)) 618, be), rfl, Or.inr ⟨c4, rfl, rfl⟩, by show va_P G.1 vwCl _ tT.heap; rw [ht]; exact hP⟩, hS.F ht⟩) hS.2.2 dX3_undo_60
        · refine lv_aload_n hx hb dX3_undo_29 rfl (lv_at hl 0 rfl) ?_
          refine va_get (D := G.1) (ci := 3) (v := .ref b1) (C := RX3) (T := TX3) (N := 14) hx hb hts mic_undo_3 hown hK hP 0 rfl rfl 0 (by decide) (hts _ mwc_undo_2) (fun _ h9 => h9) rfl dX3_undo_30 ?_
          refine lv_iload_n hx hb dX3_undo_33 rfl (lv_at hl 1 rfl) ?_
          refine lv_aload_n hx hb dX3_undo_34 rfl (lv_at hl 0 rfl) ?_
          refine va_get (D := G.1) (ci := 3) (v := .ref b3) (C := RX3) (T := TX3) (N := 14) hx hb hts mic_undo_3 hown hK hP 0 rfl rfl 2 (by decide) (hts _ mwc_undo_3) (fun _ h9 => h9) rfl dX3_undo_35 ?_
          refine lv_sipush (v := nI 618) hx hb dX3_undo_38 (by decide) ?_
          refine lv_aload_n hx hb dX3_undo_41 rfl (lv_at hl 0 rfl) ?_
          refine va_get (D := G.1) (ci := 3) (v := .int (nI (kn - 1))) (C := RX3) (T := TX3) (N := 14) hx hb hts mic_undo_3 hown hK hP 0 rfl rfl 3 (by decide) (hts _ mwc_undo_0) (fun _ h9 => h9) rfl dX3_undo_42 ?_
          refine zk_mul hx hb dX3_undo_45 ?_
          refine lv_iload_n hx hb dX3_undo_46 rfl (lv_at hl 1 rfl) ?_
          refine zk_add hx hb dX3_undo_47 ?_
          refine zk_ald (f := be) (k := (618 * (kn - 1)) + kX) hx hb hK hP 2 0 rfl rfl (Nat.le_of_ble_eq_true rfl) (by omega) dX3_undo_48 ?_
          refine zk_ast (f := cpF sg be 0 (618 * (kn - 1)) kX) (k := kX) (v := be ((618 * (kn - 1)) + kX)) (ws2 := [(b0, .inr (3, [.ref b1, .ref b2, .ref b3, .int (nI (kn - 1)), .ref b4, .int (nI ik), .ref b5, .int (nI ty), .int ra, .int rb, .int (nI rd), .int (nI iw), .ref b6, .int fl])), (b1, .inl (G.2.1, 618, .inl (arN (arU (cpF sg be 0 (618 * (kn - 1)) kX) kX (be ((618 * (kn - 1)) + kX)))))), (b3, .inl (G.2.1, 2472, .inl (arN be)))]) hx hb hK hP hD hS 1 0 rfl rfl (Nat.le_of_ble_eq_true rfl) (by omega) rfl dX3_undo_49 (fun H locs hP hD hS => ?_)
          have en : arU (cpF sg be 0 (618 * (kn - 1)) kX) kX (be ((618 * (kn - 1)) + kX)) = cpF sg be 0 (618 * (kn - 1)) (kX + 1) := cpF_s (by omega) rfl
          rw [en] at hP hD
          refine zk_inc (a := kX) (d := 1) (lv' := [(1, .int (nI (kX + 1))), (0, .ref b0)]) hx hb dX3_undo_50 hl (K := 1) rfl (by decide) (by decide) rfl (fun ls hl => ?_)
          refine lv_goto (tgt := 22) hx hb dX3_undo_53 (by decide) ?_
          exact ih22 (kX + 1) _ _ _ (by omega) (by omega) hP hD hS (lv_sub hl [1, 0] rfl)
    have eq0 : sg = cpF sg be 0 (618 * (kn - 1)) 0 := cpF_0 _ _ _ _
    have hP : va_P G.1 vwCl [(b0, .inr (3, [.ref b1, .ref b2, .ref b3, .int (nI (kn - 1)), .ref b4, .int (nI ik), .ref b5, .int (nI ty), .int ra, .int rb, .int (nI rd), .int (nI iw), .ref b6, .int fl])), (b1, .inl (G.2.1, 618, .inl (arN (cpF sg be 0 (618 * (kn - 1)) 0)))), (b3, .inl (G.2.1, 2472, .inl (arN be)))] H := by rw [← eq0]; exact hP
    have hD : va_D (zIn [(b0, .inr (3, [.ref b1, .ref b2, .ref b3, .int (nI kn), .ref b4, .int (nI ik), .ref b5, .int (nI ty), .int ra, .int rb, .int (nI rd), .int (nI iw), .ref b6, .int fl])), (b1, .inl (G.2.1, 618, .inl (arN sg))), (b3, .inl (G.2.1, 2472, .inl (arN be)))]) [(b0, .inr (3, [.ref b1, .ref b2, .ref b3, .int (nI (kn - 1)), .ref b4, .int (nI ik), .ref b5, .int (nI ty), .int ra, .int rb, .int (nI rd), .int (nI iw), .ref b6, .int fl])), (b1, .inl (G.2.1, 618, .inl (arN (cpF sg be 0 (618 * (kn - 1)) 0)))), (b3, .inl (G.2.1, 2472, .inl (arN be)))] := by rw [← eq0]; exact hD
    exact lp22 _ 0 _ _ _ (Nat.lt_succ_self _) (by omega) hP hD hS (lv_sub hl [1, 0] rfl)
  · refine lv_bipush (v := (-5)) hx hb dX3_undo_7 (by decide) ?_
    exact W.iret (v := (-5)) hx hb hr (fun tT ht hW => ⟨⟨_, (kn, sg, be), rfl, Or.inl ⟨c4, rfl, rfl⟩, by show va_P G.1 vwCl _ tT.heap; rw [ht]; exact hP⟩, hS.F ht⟩) hS.2.2 dX3_undo_9
set_option maxRecDepth 100000 in
theorem mwc_keep_0 : Cond.fieldLink RX3 142 "ExhibitTextsModel" "isKept" "Z" ∈ wsX3_keep := by decide +kernel
set_option maxRecDepth 100000 in
theorem mic_keep_3 : ∀ w ∈ u_ws RX3 TX3 14, w ∈ wsX3_keep := by decide +kernel
set_option maxRecDepth 100000 in
theorem mwc_keep_2 : Cond.fieldLink RX3 19 "ExhibitTextsModel" "kept" "[I" ∈ wsX3_keep := by decide +kernel
set_option maxRecDepth 100000 in
theorem mwc_keep_3 : Cond.fieldLink RX3 7 "ExhibitTextsModel" "s" "[I" ∈ wsX3_keep := by decide +kernel
set_option maxHeartbeats 4000000 in
set_option maxRecDepth 100000 in
/-- X3_keep: keep -/
theorem c_keep (l : Launch) (G : zG) (b0 : Nat) (b1 : Nat) (b2 : Nat) (b3 : Nat) (b4 : Nat) (b5 : Nat) (b6 : Nat) (kn : Nat) (ik : Nat) (ty : Nat) (ra : Int32) (rb : Int32) (rd : Nat) (iw : Nat) (fl : Int32) (sg : Nat → Nat) (ka : Nat → Nat) : Met l yX3_keep wsX3_keep ({ frames := 2, cells := 0, slots := 0, locals := 42 } : Room) (zPc G [.ref b0] [(b0, .inr (3, [.ref b1, .ref b2, .ref b3, .int (nI kn), .ref b4, .int (nI ik), .ref b5, .int (nI ty), .int ra, .int rb, .int (nI rd), .int (nI iw), .ref b6, .int fl])), (b1, .inl (G.2.1, 618, .inl (arN sg))), (b4, .inl (G.2.1, 618, .inl (arN ka)))]) (va_Qi (fun (rR : Int32) (uU : Nat × (Nat → Nat)) => rR = nI (sumN (szF sg) 8) ∧ uU = (1, cpF ka sg 0 0 618)) (fun uU tT => va_P G.1 vwCl ((fun (uU : Nat × (Nat → Nat)) => ([(b0, .inr (3, [.ref b1, .ref b2, .ref b3, .int (nI kn), .ref b4, .int (nI uU.1), .ref b5, .int (nI ty), .int ra, .int rb, .int (nI rd), .int (nI iw), .ref b6, .int fl])), (b1, .inl (G.2.1, 618, .inl (arN sg))), (b4, .inl (G.2.1, 618, .inl (arN uU.2)))] : va_W)) uU) tT.heap) (zIn [(b0, .inr (3, [.ref b1, .ref b2, .ref b3, .int (nI kn), .ref b4, .int (nI ik), .ref b5, .int (nI ty), .int ra, .int rb, .int (nI rd), .int (nI iw), .ref b6, .int fl])), (b1, .inl (G.2.1, 618, .inl (arN sg))), (b4, .inl (G.2.1, 618, .inl (arN ka)))])) 0 0 (zIn [(b0, .inr (3, [.ref b1, .ref b2, .ref b3, .int (nI kn), .ref b4, .int (nI ik), .ref b5, .int (nI ty), .int ra, .int rb, .int (nI rd), .int (nI iw), .ref b6, .int fl])), (b1, .inl (G.2.1, 618, .inl (arN sg))), (b4, .inl (G.2.1, 618, .inl (arN ka)))]) := by
  refine zM (cc := cX3_keep) (maxL := 2) (ret := (some .int)) (by decide) rfl (Nat.le_of_ble_eq_true rfl) ?_
  intro pP eE sS mM below meth cC hx hb hr hts hown hlk hml hnm hK hN hP hD hS ls hl
  have hl : lv_has ls 2 [(0, .ref b0)] := hl
  refine lv_iconst (v := nI 0) hx hb dX3_keep_0 (by decide) ?_
  refine lv_istore_n (lv' := [(1, .int (nI 0)), (0, .ref b0)]) hx hb dX3_keep_1 rfl hl (by decide) rfl (fun ls hl => ?_)
  have lp2 : ∀ (fu2 : Nat), ∀ (kX : Nat) (H : Heap) (locs : List Loc) (ls : Array Slot), (618 - kX) < fu2 → (kX ≤ 618) → va_P G.1 vwCl [(b0, .inr (3, [.ref b1, .ref b2, .ref b3, .int (nI kn), .ref b4, .int (nI ik), .ref b5, .int (nI ty), .int ra, .int rb, .int (nI rd), .int (nI iw), .ref b6, .int fl])), (b1, .inl (G.2.1, 618, .inl (arN sg))), (b4, .inl (G.2.1, 618, .inl (arN (cpF ka sg 0 0 kX))))] H → va_D (zIn [(b0, .inr (3, [.ref b1, .ref b2, .ref b3, .int (nI kn), .ref b4, .int (nI ik), .ref b5, .int (nI ty), .int ra, .int rb, .int (nI rd), .int (nI iw), .ref b6, .int fl])), (b1, .inl (G.2.1, 618, .inl (arN sg))), (b4, .inl (G.2.1, 618, .inl (arN ka)))]) [(b0, .inr (3, [.ref b1, .ref b2, .ref b3, .int (nI kn), .ref b4, .int (nI ik), .ref b5, .int (nI ty), .int ra, .int rb, .int (nI rd), .int (nI iw), .ref b6, .int fl])), (b1, .inl (G.2.1, 618, .inl (arN sg))), (b4, .inl (G.2.1, 618, .inl (arN (cpF ka sg 0 0 kX))))] → va_S (zIn [(b0, .inr (3, [.ref b1, .ref b2, .ref b3, .int (nI kn), .ref b4, .int (nI ik), .ref b5, .int (nI ty), .int ra, .int rb, .int (nI rd), .int (nI iw), .ref b6, .int fl])), (b1, .inl (G.2.1, 618, .inl (arN sg))), (b4, .inl (G.2.1, 618, .inl (arN ka)))]) sS.heap H locs → lv_has ls 2 [(0, .ref b0), (1, .int (nI kX))] → W pP l eE (headSpec wsX3_keep ({ frames := 2, cells := 0, slots := 0, locals := 42 } : Room)).room sS mM ([.ref b0] : List Value).toArray below meth cC H locs 0 0 (MQ below (va_Qi (fun (rR : Int32) (uU : Nat × (Nat → Nat)) => rR = nI (sumN (szF sg) 8) ∧ uU = (1, cpF ka sg 0 0 618)) (fun uU tT => va_P G.1 vwCl ((fun (uU : Nat × (Nat → Nat)) => ([(b0, .inr (3, [.ref b1, .ref b2, .ref b3, .int (nI kn), .ref b4, .int (nI uU.1), .ref b5, .int (nI ty), .int ra, .int rb, .int (nI rd), .int (nI iw), .ref b6, .int fl])), (b1, .inl (G.2.1, 618, .inl (arN sg))), (b4, .inl (G.2.1, 618, .inl (arN uU.2)))] : va_W)) uU) tT.heap) (zIn [(b0, .inr (3, [.ref b1, .ref b2, .ref b3, .int (nI kn), .ref b4, .int (nI ik), .ref b5, .int (nI ty), .int ra, .int rb, .int (nI rd), .int (nI iw), .ref b6, .int fl])), (b1, .inl (G.2.1, 618, .inl (arN sg))), (b4, .inl (G.2.1, 618, .inl (arN ka)))])) ([.ref b0] : List Value).toArray sS 0 0 (zIn [(b0, .inr (3, [.ref b1, .ref b2, .ref b3, .int (nI kn), .ref b4, .int (nI ik), .ref b5, .int (nI ty), .int ra, .int rb, .int (nI rd), .int (nI iw), .ref b6, .int fl])), (b1, .inl (G.2.1, 618, .inl (arN sg))), (b4, .inl (G.2.1, 618, .inl (arN ka)))])) (F0 mM 2 ls []) := by
    intro fu2
    induction fu2 with
    | zero => intro kX H locs ls hfu2; exact absurd hfu2 (Nat.not_lt_zero _)
    | succ fu2 ih2 =>
      intro kX H locs ls hfu2 hk hP hD hS hl
      refine lv_iload_n hx hb dX3_keep_2 rfl (lv_at hl 1 rfl) ?_
      refine lv_sipush (v := nI 618) hx hb dX3_keep_3 (by decide) ?_
      refine zk_ige (tgt := 27) hx hb dX3_keep_6 (by decide) (by omega) (by omega) (fun c6 => ?_) (fun c6 => ?_)
      · have hk9 : kX = 618 := by omega
        subst hk9
        refine lv_aload_n hx hb dX3_keep_27 rfl (lv_at hl 0 rfl) ?_
        refine lv_iconst (v := nI 1) hx hb dX3_keep_28 (by decide) ?_
        refine zk_put (D := G.1) (ci := 3) (v := .int (nI 1)) (ty := .boolean) (C := RX3) (T := TX3) (N := 14) (ws2 := [(b0, .inr (3, [.ref b1, .ref b2, .ref b3, .int (nI kn), .ref b4, .int (nI 1), .ref b5, .int (nI ty), .int ra, .int rb, .int (nI rd), .int (nI iw), .ref b6, .int fl])), (b1, .inl (G.2.1, 618, .inl (arN sg))), (b4, .inl (G.2.1, 618, .inl (arN (cpF ka sg 0 0 618))))]) hx hb hts mic_keep_3 tyX3 tyX3_ok nmX3 hown hK hP hD hS 0 rfl rfl 5 (by decide) (hts _ mwc_keep_0) (fun _ h9 => h9) rfl (by decide +kernel) rfl rfl (Nat.le_of_ble_eq_true rfl) rfl dX3_keep_29 (fun H locs hP hD hS => ?_)
        refine lv_aload_n hx hb dX3_keep_32 rfl (lv_at hl 0 rfl) ?_
        refine zc_R (As := []) (rest := []) ⟨hx, hb, hml, hown, hts⟩ (c_texts l G b0 b1 b2 b3 b4 b5 b6 kn 1 ty ra rb rd iw fl sg ) (cwV 0 hts gX3_keep_X3_texts rfl rfl rfl (by decide +kernel) ⟨Nat.le_of_ble_eq_true rfl, Nat.le_of_ble_eq_true rfl⟩) hK hN hP hD [0, 1] rfl (by decide) (ci := 3) rfl rfl rfl hl.1 rfl (Nat.le_of_ble_eq_true rfl) dX3_keep_33 ⟨Nat.zero_le _, Nat.zero_le _⟩ (fun r33 h33 => ?_)
        subst h33
        exact W.iret (v := nI (sumN (szF sg) 8)) hx hb hr (fun tT ht hW => ⟨⟨_, (1, cpF ka sg 0 0 618), rfl, ⟨rfl, rfl⟩, by show va_P G.1 vwCl _ tT.heap; rw [ht]; exact hP⟩, hS.F ht⟩) hS.2.2 dX3_keep_36
      · refine lv_aload_n hx hb dX3_keep_9 rfl (lv_at hl 0 rfl) ?_
        refine va_get (D := G.1) (ci := 3) (v := .ref b4) (C := RX3) (T := TX3) (N := 14) hx hb hts mic_keep_3 hown hK hP 0 rfl rfl 4 (by decide) (hts _ mwc_keep_2) (fun _ h9 => h9) rfl dX3_keep_10 ?_
        refine lv_iload_n hx hb dX3_keep_13 rfl (lv_at hl 1 rfl) ?_
        refine lv_aload_n hx hb dX3_keep_14 rfl (lv_at hl 0 rfl) ?_
        refine va_get (D := G.1) (ci := 3) (v := .ref b1) (C := RX3) (T := TX3) (N := 14) hx hb hts mic_keep_3 hown hK hP 0 rfl rfl 0 (by decide) (hts _ mwc_keep_3) (fun _ h9 => h9) rfl dX3_keep_15 ?_
        refine lv_iload_n hx hb dX3_keep_18 rfl (lv_at hl 1 rfl) ?_
        refine zk_ald (f := sg) (k := kX) hx hb hK hP 1 0 rfl rfl (Nat.le_of_ble_eq_true rfl) (by omega) dX3_keep_19 ?_
        refine zk_ast (f := cpF ka sg 0 0 kX) (k := kX) (v := sg kX) (ws2 := [(b0, .inr (3, [.ref b1, .ref b2, .ref b3, .int (nI kn), .ref b4, .int (nI ik), .ref b5, .int (nI ty), .int ra, .int rb, .int (nI rd), .int (nI iw), .ref b6, .int fl])), (b1, .inl (G.2.1, 618, .inl (arN sg))), (b4, .inl (G.2.1, 618, .inl (arN (arU (cpF ka sg 0 0 kX) kX (sg kX)))))]) hx hb hK hP hD hS 2 0 rfl rfl (Nat.le_of_ble_eq_true rfl) (by omega) rfl dX3_keep_20 (fun H locs hP hD hS => ?_)
        have en : arU (cpF ka sg 0 0 kX) kX (sg kX) = cpF ka sg 0 0 (kX + 1) := cpF_s (by omega) (congrArg sg (by omega))
        rw [en] at hP hD
        refine zk_inc (a := kX) (d := 1) (lv' := [(1, .int (nI (kX + 1))), (0, .ref b0)]) hx hb dX3_keep_21 hl (K := 1) rfl (by decide) (by decide) rfl (fun ls hl => ?_)
        refine lv_goto (tgt := 2) hx hb dX3_keep_24 (by decide) ?_
        exact ih2 (kX + 1) _ _ _ (by omega) (by omega) hP hD hS (lv_sub hl [1, 0] rfl)
  have eq0 : ka = cpF ka sg 0 0 0 := cpF_0 _ _ _ _
  have hP : va_P G.1 vwCl [(b0, .inr (3, [.ref b1, .ref b2, .ref b3, .int (nI kn), .ref b4, .int (nI ik), .ref b5, .int (nI ty), .int ra, .int rb, .int (nI rd), .int (nI iw), .ref b6, .int fl])), (b1, .inl (G.2.1, 618, .inl (arN sg))), (b4, .inl (G.2.1, 618, .inl (arN (cpF ka sg 0 0 0))))] sS.heap := by rw [← eq0]; exact hP
  have hD : va_D (zIn [(b0, .inr (3, [.ref b1, .ref b2, .ref b3, .int (nI kn), .ref b4, .int (nI ik), .ref b5, .int (nI ty), .int ra, .int rb, .int (nI rd), .int (nI iw), .ref b6, .int fl])), (b1, .inl (G.2.1, 618, .inl (arN sg))), (b4, .inl (G.2.1, 618, .inl (arN ka)))]) [(b0, .inr (3, [.ref b1, .ref b2, .ref b3, .int (nI kn), .ref b4, .int (nI ik), .ref b5, .int (nI ty), .int ra, .int rb, .int (nI rd), .int (nI iw), .ref b6, .int fl])), (b1, .inl (G.2.1, 618, .inl (arN sg))), (b4, .inl (G.2.1, 618, .inl (arN (cpF ka sg 0 0 0))))] := by rw [← eq0]; exact hD
  exact lp2 _ 0 _ _ _ (Nat.lt_succ_self _) (by omega) hP hD hS (lv_sub hl [1, 0] rfl)
set_option maxRecDepth 100000 in
theorem mwc_restore_0 : Cond.fieldLink RX3 142 "ExhibitTextsModel" "isKept" "Z" ∈ wsX3_restore := by decide +kernel
set_option maxRecDepth 100000 in
theorem mic_restore_3 : ∀ w ∈ u_ws RX3 TX3 14, w ∈ wsX3_restore := by decide +kernel
set_option maxRecDepth 100000 in
theorem mwc_restore_2 : Cond.fieldLink RX3 7 "ExhibitTextsModel" "s" "[I" ∈ wsX3_restore := by decide +kernel
set_option maxRecDepth 100000 in
theorem mwc_restore_3 : Cond.fieldLink RX3 19 "ExhibitTextsModel" "kept" "[I" ∈ wsX3_restore := by decide +kernel
set_option maxHeartbeats 4000000 in
set_option maxRecDepth 100000 in
/-- X3_restore: restore -/
theorem c_restore (l : Launch) (G : zG) (b0 : Nat) (b1 : Nat) (b2 : Nat) (b3 : Nat) (b4 : Nat) (b5 : Nat) (b6 : Nat) (kn : Nat) (ik : Nat) (ty : Nat) (ra : Int32) (rb : Int32) (rd : Nat) (iw : Nat) (fl : Int32) (sg : Nat → Nat) (be : Nat → Nat) (ka : Nat → Nat) (hkn : kn ≤ 4) (hik : ik ≤ 1) : Met l yX3_restore wsX3_restore ({ frames := 2, cells := 0, slots := 0, locals := 42 } : Room) (zPc G [.ref b0] [(b0, .inr (3, [.ref b1, .ref b2, .ref b3, .int (nI kn), .ref b4, .int (nI ik), .ref b5, .int (nI ty), .int ra, .int rb, .int (nI rd), .int (nI iw), .ref b6, .int fl])), (b1, .inl (G.2.1, 618, .inl (arN sg))), (b3, .inl (G.2.1, 2472, .inl (arN be))), (b4, .inl (G.2.1, 618, .inl (arN ka)))]) (va_Qi (fun (rR : Int32) (uU : Nat × (Nat → Nat) × (Nat → Nat)) => (ik = 0 ∧ rR = (-5) ∧ uU = (kn, sg, be)) ∨ (0 < ik ∧ rR = nI (sumN (szF (cpF sg ka 0 0 618)) 8) ∧ uU = (knK kn, cpF sg ka 0 0 618, knB kn be sg))) (fun uU tT => va_P G.1 vwCl ((fun (uU : Nat × (Nat → Nat) × (Nat → Nat)) => ([(b0, .inr (3, [.ref b1, .ref b2, .ref b3, .int (nI uU.1), .ref b4, .int (nI ik), .ref b5, .int (nI ty), .int ra, .int rb, .int (nI rd), .int (nI iw), .ref b6, .int fl])), (b1, .inl (G.2.1, 618, .inl (arN uU.2.1))), (b3, .inl (G.2.1, 2472, .inl (arN uU.2.2))), (b4, .inl (G.2.1, 618, .inl (arN ka)))] : va_W)) uU) tT.heap) (zIn [(b0, .inr (3, [.ref b1, .ref b2, .ref b3, .int (nI kn), .ref b4, .int (nI ik), .ref b5, .int (nI ty), .int ra, .int rb, .int (nI rd), .int (nI iw), .ref b6, .int fl])), (b1, .inl (G.2.1, 618, .inl (arN sg))), (b3, .inl (G.2.1, 2472, .inl (arN be))), (b4, .inl (G.2.1, 618, .inl (arN ka)))])) 0 0 (zIn [(b0, .inr (3, [.ref b1, .ref b2, .ref b3, .int (nI kn), .ref b4, .int (nI ik), .ref b5, .int (nI ty), .int ra, .int rb, .int (nI rd), .int (nI iw), .ref b6, .int fl])), (b1, .inl (G.2.1, 618, .inl (arN sg))), (b3, .inl (G.2.1, 2472, .inl (arN be))), (b4, .inl (G.2.1, 618, .inl (arN ka)))]) := by
  refine zM (cc := cX3_restore) (maxL := 2) (ret := (some .int)) (by decide) rfl (Nat.le_of_ble_eq_true rfl) ?_
  intro pP eE sS mM below meth cC hx hb hr hts hown hlk hml hnm hK hN hP hD hS ls hl
  have hl : lv_has ls 2 [(0, .ref b0)] := hl
  refine lv_aload_n hx hb dX3_restore_0 rfl (lv_at hl 0 rfl) ?_
  refine va_get (D := G.1) (ci := 3) (v := .int (nI ik)) (C := RX3) (T := TX3) (N := 14) hx hb hts mic_restore_3 hown hK hP 0 rfl rfl 5 (by decide) (hts _ mwc_restore_0) (fun _ h9 => h9) rfl dX3_restore_1 ?_
  refine zk_zne (tgt := 10) hx hb dX3_restore_4 (by decide) (by omega) (fun c4 => ?_) (fun c4 => ?_)
  · refine lv_aload_n hx hb dX3_restore_10 rfl (lv_at hl 0 rfl) ?_
    refine zc_U (As := []) (rest := []) (ws2 := (fun (uU : Nat × (Nat → Nat)) => ([(b0, .inr (3, [.ref b1, .ref b2, .ref b3, .int (nI uU.1), .ref b4, .int (nI ik), .ref b5, .int (nI ty), .int ra, .int rb, .int (nI rd), .int (nI iw), .ref b6, .int fl])), (b1, .inl (G.2.1, 618, .inl (arN sg))), (b3, .inl (G.2.1, 2472, .inl (arN uU.2))), (b4, .inl (G.2.1, 618, .inl (arN ka)))] : va_W))) ⟨hx, hb, hml, hown, hts⟩ (c_know l G b0 b1 b2 b3 b4 b5 b6 kn ik ty ra rb rd iw fl sg be (by omega)) (cwV 0 hts gX3_restore_X3_know rfl rfl rfl (by decide +kernel) ⟨Nat.le_of_ble_eq_true rfl, Nat.le_of_ble_eq_true rfl⟩) hK hN hP hD hS [0, 1, 2] rfl (by decide) (ci := 3) rfl rfl (fun _ => rfl) (fun _ => rfl) rfl hl.1 rfl (Nat.le_of_ble_eq_true rfl) dX3_restore_11 ⟨Nat.zero_le _, Nat.zero_le _⟩ (fun u11 H locs h11 hP hD hS => ?_)
    subst h11
    have hP : va_P G.1 vwCl [(b0, .inr (3, [.ref b1, .ref b2, .ref b3, .int (nI (knK kn)), .ref b4, .int (nI ik), .ref b5, .int (nI ty), .int ra, .int rb, .int (nI rd), .int (nI iw), .ref b6, .int fl])), (b1, .inl (G.2.1, 618, .inl (arN sg))), (b3, .inl (G.2.1, 2472, .inl (arN (knB kn be sg)))), (b4, .inl (G.2.1, 618, .inl (arN ka)))] H := hP
    have hD : va_D (zIn [(b0, .inr (3, [.ref b1, .ref b2, .ref b3, .int (nI kn), .ref b4, .int (nI ik), .ref b5, .int (nI ty), .int ra, .int rb, .int (nI rd), .int (nI iw), .ref b6, .int fl])), (b1, .inl (G.2.1, 618, .inl (arN sg))), (b3, .inl (G.2.1, 2472, .inl (arN be))), (b4, .inl (G.2.1, 618, .inl (arN ka)))]) [(b0, .inr (3, [.ref b1, .ref b2, .ref b3, .int (nI (knK kn)), .ref b4, .int (nI ik), .ref b5, .int (nI ty), .int ra, .int rb, .int (nI rd), .int (nI iw), .ref b6, .int fl])), (b1, .inl (G.2.1, 618, .inl (arN sg))), (b3, .inl (G.2.1, 2472, .inl (arN (knB kn be sg)))), (b4, .inl (G.2.1, 618, .inl (arN ka)))] := hD
    refine lv_iconst (v := nI 0) hx hb dX3_restore_14 (by decide) ?_
    refine lv_istore_n (lv' := [(1, .int (nI 0)), (0, .ref b0)]) hx hb dX3_restore_15 rfl hl (by decide) rfl (fun ls hl => ?_)
    have lp16 : ∀ (fu16 : Nat), ∀ (kX : Nat) (H : Heap) (locs : List Loc) (ls : Array Slot), (618 - kX) < fu16 → (kX ≤ 618) → va_P G.1 vwCl [(b0, .inr (3, [.ref b1, .ref b2, .ref b3, .int (nI (knK kn)), .ref b4, .int (nI ik), .ref b5, .int (nI ty), .int ra, .int rb, .int (nI rd), .int (nI iw), .ref b6, .int fl])), (b1, .inl (G.2.1, 618, .inl (arN (cpF sg ka 0 0 kX)))), (b3, .inl (G.2.1, 2472, .inl (arN (knB kn be sg)))), (b4, .inl (G.2.1, 618, .inl (arN ka)))] H → va_D (zIn [(b0, .inr (3, [.ref b1, .ref b2, .ref b3, .int (nI kn), .ref b4, .int (nI ik), .ref b5, .int (nI ty), .int ra, .int rb, .int (nI rd), .int (nI iw), .ref b6, .int fl])), (b1, .inl (G.2.1, 618, .inl (arN sg))), (b3, .inl (G.2.1, 2472, .inl (arN be))), (b4, .inl (G.2.1, 618, .inl (arN ka)))]) [(b0, .inr (3, [.ref b1, .ref b2, .ref b3, .int (nI (knK kn)), .ref b4, .int (nI ik), .ref b5, .int (nI ty), .int ra, .int rb, .int (nI rd), .int (nI iw), .ref b6, .int fl])), (b1, .inl (G.2.1, 618, .inl (arN (cpF sg ka 0 0 kX)))), (b3, .inl (G.2.1, 2472, .inl (arN (knB kn be sg)))), (b4, .inl (G.2.1, 618, .inl (arN ka)))] → va_S (zIn [(b0, .inr (3, [.ref b1, .ref b2, .ref b3, .int (nI kn), .ref b4, .int (nI ik), .ref b5, .int (nI ty), .int ra, .int rb, .int (nI rd), .int (nI iw), .ref b6, .int fl])), (b1, .inl (G.2.1, 618, .inl (arN sg))), (b3, .inl (G.2.1, 2472, .inl (arN be))), (b4, .inl (G.2.1, 618, .inl (arN ka)))]) sS.heap H locs → lv_has ls 2 [(0, .ref b0), (1, .int (nI kX))] → W pP l eE (headSpec wsX3_restore ({ frames := 2, cells := 0, slots := 0, locals := 42 } : Room)).room sS mM ([.ref b0] : List Value).toArray below meth cC H locs 0 0 (MQ below (va_Qi (fun (rR : Int32) (uU : Nat × (Nat → Nat) × (Nat → Nat)) => (ik = 0 ∧ rR = (-5) ∧ uU = (kn, sg, be)) ∨ (0 < ik ∧ rR = nI (sumN (szF (cpF sg ka 0 0 618)) 8) ∧ uU = (knK kn, cpF sg ka 0 0 618, knB kn be sg))) (fun uU tT => va_P G.1 vwCl ((fun (uU : Nat × (Nat → Nat) × (Nat → Nat)) => ([(b0, .inr (3, [.ref b1, .ref b2, .ref b3, .int (nI uU.1), .ref b4, .int (nI ik), .ref b5, .int (nI ty), .int ra, .int rb, .int (nI rd), .int (nI iw), .ref b6, .int fl])), (b1, .inl (G.2.1, 618, .inl (arN uU.2.1))), (b3, .inl (G.2.1, 2472, .inl (arN uU.2.2))), (b4, .inl (G.2.1, 618, .inl (arN ka)))] : va_W)) uU) tT.heap) (zIn [(b0, .inr (3, [.ref b1, .ref b2, .ref b3, .int (nI kn), .ref b4, .int (nI ik), .ref b5, .int (nI ty), .int ra, .int rb, .int (nI rd), .int (nI iw), .ref b6, .int fl])), (b1, .inl (G.2.1, 618, .inl (arN sg))), (b3, .inl (G.2.1, 2472, .inl (arN be))), (b4, .inl (G.2.1, 618, .inl (arN ka)))])) ([.ref b0] : List Value).toArray sS 0 0 (zIn [(b0, .inr (3, [.ref b1, .ref b2, .ref b3, .int (nI kn), .ref b4, .int (nI ik), .ref b5, .int (nI ty), .int ra, .int rb, .int (nI rd), .int (nI iw), .ref b6, .int fl])), (b1, .inl (G.2.1, 618, .inl (arN sg))), (b3, .inl (G.2.1, 2472, .inl (arN be))), (b4, .inl (G.2.1, 618, .inl (arN ka)))])) (F0 mM 16 ls []) := by
      intro fu16
      induction fu16 with
      | zero => intro kX H locs ls hfu16; exact absurd hfu16 (Nat.not_lt_zero _)
      | succ fu16 ih16 =>
        intro kX H locs ls hfu16 hk hP hD hS hl
        refine lv_iload_n hx hb dX3_restore_16 rfl (lv_at hl 1 rfl) ?_
        refine lv_sipush (v := nI 618) hx hb dX3_restore_17 (by decide) ?_
        refine zk_ige (tgt := 41) hx hb dX3_restore_20 (by decide) (by omega) (by omega) (fun c20 => ?_) (fun c20 => ?_)
        · have hk9 : kX = 618 := by omega
          subst hk9
          refine lv_aload_n hx hb dX3_restore_41 rfl (lv_at hl 0 rfl) ?_
          refine zc_R (As := []) (rest := []) ⟨hx, hb, hml, hown, hts⟩ (c_texts l G b0 b1 b2 b3 b4 b5 b6 (knK kn) ik ty ra rb rd iw fl (cpF sg ka 0 0 618) ) (cwV 0 hts gX3_restore_X3_texts rfl rfl rfl (by decide +kernel) ⟨Nat.le_of_ble_eq_true rfl, Nat.le_of_ble_eq_true rfl⟩) hK hN hP hD [0, 1] rfl (by decide) (ci := 3) rfl rfl rfl hl.1 rfl (Nat.le_of_ble_eq_true rfl) dX3_restore_42 ⟨Nat.zero_le _, Nat.zero_le _⟩ (fun r42 h42 => ?_)
          subst h42
          exact W.iret (v := nI (sumN (szF (cpF sg ka 0 0 618)) 8)) hx hb hr (fun tT ht hW => ⟨⟨_, (knK kn, cpF sg ka 0 0 618, knB kn be sg), rfl, Or.inr ⟨c4, rfl, rfl⟩, by show va_P G.1 vwCl _ tT.heap; rw [ht]; exact hP⟩, hS.F ht⟩) hS.2.2 dX3_restore_45
        · refine lv_aload_n hx hb dX3_restore_23 rfl (lv_at hl 0 rfl) ?_
          refine va_get (D := G.1) (ci := 3) (v := .ref b1) (C := RX3) (T := TX3) (N := 14) hx hb hts mic_restore_3 hown hK hP 0 rfl rfl 0 (by decide) (hts _ mwc_restore_2) (fun _ h9 => h9) rfl dX3_restore_24 ?_
          refine lv_iload_n hx hb dX3_restore_27 rfl (lv_at hl 1 rfl) ?_
          refine lv_aload_n hx hb dX3_restore_28 rfl (lv_at hl 0 rfl) ?_
          refine va_get (D := G.1) (ci := 3) (v := .ref b4) (C := RX3) (T := TX3) (N := 14) hx hb hts mic_restore_3 hown hK hP 0 rfl rfl 4 (by decide) (hts _ mwc_restore_3) (fun _ h9 => h9) rfl dX3_restore_29 ?_
          refine lv_iload_n hx hb dX3_restore_32 rfl (lv_at hl 1 rfl) ?_
          refine zk_ald (f := ka) (k := kX) hx hb hK hP 3 0 rfl rfl (Nat.le_of_ble_eq_true rfl) (by omega) dX3_restore_33 ?_
          refine zk_ast (f := cpF sg ka 0 0 kX) (k := kX) (v := ka kX) (ws2 := [(b0, .inr (3, [.ref b1, .ref b2, .ref b3, .int (nI (knK kn)), .ref b4, .int (nI ik), .ref b5, .int (nI ty), .int ra, .int rb, .int (nI rd), .int (nI iw), .ref b6, .int fl])), (b1, .inl (G.2.1, 618, .inl (arN (arU (cpF sg ka 0 0 kX) kX (ka kX))))), (b3, .inl (G.2.1, 2472, .inl (arN (knB kn be sg)))), (b4, .inl (G.2.1, 618, .inl (arN ka)))]) hx hb hK hP hD hS 1 0 rfl rfl (Nat.le_of_ble_eq_true rfl) (by omega) rfl dX3_restore_34 (fun H locs hP hD hS => ?_)
          have en : arU (cpF sg ka 0 0 kX) kX (ka kX) = cpF sg ka 0 0 (kX + 1) := cpF_s (by omega) (congrArg ka (by omega))
          rw [en] at hP hD
          refine zk_inc (a := kX) (d := 1) (lv' := [(1, .int (nI (kX + 1))), (0, .ref b0)]) hx hb dX3_restore_35 hl (K := 1) rfl (by decide) (by decide) rfl (fun ls hl => ?_)
          refine lv_goto (tgt := 16) hx hb dX3_restore_38 (by decide) ?_
          exact ih16 (kX + 1) _ _ _ (by omega) (by omega) hP hD hS (lv_sub hl [1, 0] rfl)
    have eq0 : sg = cpF sg ka 0 0 0 := cpF_0 _ _ _ _
    have hP : va_P G.1 vwCl [(b0, .inr (3, [.ref b1, .ref b2, .ref b3, .int (nI (knK kn)), .ref b4, .int (nI ik), .ref b5, .int (nI ty), .int ra, .int rb, .int (nI rd), .int (nI iw), .ref b6, .int fl])), (b1, .inl (G.2.1, 618, .inl (arN (cpF sg ka 0 0 0)))), (b3, .inl (G.2.1, 2472, .inl (arN (knB kn be sg)))), (b4, .inl (G.2.1, 618, .inl (arN ka)))] H := by rw [← eq0]; exact hP
    have hD : va_D (zIn [(b0, .inr (3, [.ref b1, .ref b2, .ref b3, .int (nI kn), .ref b4, .int (nI ik), .ref b5, .int (nI ty), .int ra, .int rb, .int (nI rd), .int (nI iw), .ref b6, .int fl])), (b1, .inl (G.2.1, 618, .inl (arN sg))), (b3, .inl (G.2.1, 2472, .inl (arN be))), (b4, .inl (G.2.1, 618, .inl (arN ka)))]) [(b0, .inr (3, [.ref b1, .ref b2, .ref b3, .int (nI (knK kn)), .ref b4, .int (nI ik), .ref b5, .int (nI ty), .int ra, .int rb, .int (nI rd), .int (nI iw), .ref b6, .int fl])), (b1, .inl (G.2.1, 618, .inl (arN (cpF sg ka 0 0 0)))), (b3, .inl (G.2.1, 2472, .inl (arN (knB kn be sg)))), (b4, .inl (G.2.1, 618, .inl (arN ka)))] := by rw [← eq0]; exact hD
    exact lp16 _ 0 _ _ _ (Nat.lt_succ_self _) (by omega) hP hD hS (lv_sub hl [1, 0] rfl)
  · refine lv_bipush (v := (-5)) hx hb dX3_restore_7 (by decide) ?_
    exact W.iret (v := (-5)) hx hb hr (fun tT ht hW => ⟨⟨_, (kn, sg, be), rfl, Or.inl ⟨c4, rfl, rfl⟩, by show va_P G.1 vwCl _ tT.heap; rw [ht]; exact hP⟩, hS.F ht⟩) hS.2.2 dX3_restore_9
