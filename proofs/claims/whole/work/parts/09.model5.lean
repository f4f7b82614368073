set_option maxRecDepth 100000 in
theorem mwc_sign0_0 : Cond.fieldLink RX3 83 "ExhibitTextsModel" "reading" "I" ∈ wsX3_sign := by decide +kernel
set_option maxRecDepth 100000 in
theorem mic_sign0_3 : ∀ w ∈ u_ws RX3 TX3 14, w ∈ wsX3_sign := by decide +kernel
set_option maxRecDepth 100000 in
theorem mwc_sign0_2 : Cond.fieldLink RX3 86 "ExhibitTextsModel" "typed" "I" ∈ wsX3_sign := by decide +kernel
set_option maxRecDepth 100000 in
theorem mwc_sign0_3 : Cond.fieldLink RX3 89 "ExhibitTextsModel" "isWrong" "Z" ∈ wsX3_sign := by decide +kernel
set_option maxRecDepth 100000 in
theorem mwc_sign0_4 : Cond.fieldLink RX3 22 "ExhibitTextsModel" "pad" "[I" ∈ wsX3_sign := by decide +kernel
set_option maxHeartbeats 4000000 in
set_option maxRecDepth 100000 in
/-- X3_sign: a sign that is due, while nothing is wrong -/
theorem c_sign0 (l : Launch) (G : zG) (b0 : Nat) (b1 : Nat) (b2 : Nat) (b3 : Nat) (b4 : Nat) (b5 : Nat) (b6 : Nat) (kn : Nat) (ik : Nat) (ty : Nat) (ra : Int32) (rb : Int32) (rd : Nat) (fl : Int32) (pd : Nat → Nat) (lo : Nat) (hi : Nat) (hty : ty ≤ 60) (hrd : rd ≤ ty) (hpd : ∀ j : Nat, pd j < 65536) (hlo : 0 < lo) (hlo2 : lo < 1000) (hhi : hi < 1000) : Met l yX3_sign wsX3_sign ({ frames := 1, cells := 0, slots := 0, locals := 22 } : Room) (zPc G [.ref b0, .int (nI lo), .int (nI hi)] [(b0, .inr (3, [.ref b1, .ref b2, .ref b3, .int (nI kn), .ref b4, .int (nI ik), .ref b5, .int (nI ty), .int ra, .int rb, .int (nI rd), .int (nI 0), .ref b6, .int fl])), (b5, .inl (G.2.1, 60, .inl (arN pd)))]) (va_Qi (fun (rR : Int32) (uU : Nat × Nat) => (rd < ty ∧ lo ≤ pd rd ∧ pd rd ≤ hi ∧ rR = nI (pd rd) ∧ uU = (rd + 1, 0)) ∨ (∃ (cX : Nat), ¬ (rd < ty ∧ lo ≤ pd rd ∧ pd rd ≤ hi) ∧ rR = nI cX ∧ uU = (rd, 1))) (fun uU tT => va_P G.1 vwCl ((fun (uU : Nat × Nat) => ([(b0, .inr (3, [.ref b1, .ref b2, .ref b3, .int (nI kn), .ref b4, .int (nI ik), .ref b5, .int (nI ty), .int ra, .int rb, .int (nI uU.1), .int (nI uU.2), .ref b6, .int fl])), (b5, .inl (G.2.1, 60, .inl (arN pd)))] : va_W)) uU) tT.heap) (zIn [(b0, .inr (3, [.ref b1, .ref b2, .ref b3, .int (nI kn), .ref b4, .int (nI ik), .ref b5, .int (nI ty), .int ra, .int rb, .int (nI rd), .int (nI 0), .ref b6, .int fl])), (b5, .inl (G.2.1, 60, .inl (arN pd)))])) 0 0 (zIn [(b0, .inr (3, [.ref b1, .ref b2, .ref b3, .int (nI kn), .ref b4, .int (nI ik), .ref b5, .int (nI ty), .int ra, .int rb, .int (nI rd), .int (nI 0), .ref b6, .int fl])), (b5, .inl (G.2.1, 60, .inl (arN pd)))]) := by
  refine zM (cc := cX3_sign) (maxL := 4) (ret := (some .int)) (by decide) rfl (Nat.le_of_ble_eq_true rfl) ?_
  intro pP eE sS mM below meth cC hx hb hr hts hown hlk hml hnm hK hN hP hD hS ls hl
  have hl : lv_has ls 4 [(0, .ref b0), (1, .int (nI lo)), (2, .int (nI hi))] := hl
  refine lv_aload_n hx hb dX3_sign_0 rfl (lv_at hl 0 rfl) ?_
  refine va_get (D := G.1) (ci := 3) (v := .int (nI rd)) (C := RX3) (T := TX3) (N := 14) hx hb hts mic_sign0_3 hown hK hP 0 rfl rfl 10 (by decide) (hts _ mwc_sign0_0) (fun _ h9 => h9) rfl dX3_sign_1 ?_
  refine lv_aload_n hx hb dX3_sign_4 rfl (lv_at hl 0 rfl) ?_
  refine va_get (D := G.1) (ci := 3) (v := .int (nI ty)) (C := RX3) (T := TX3) (N := 14) hx hb hts mic_sign0_3 hown hK hP 0 rfl rfl 7 (by decide) (hts _ mwc_sign0_2) (fun _ h9 => h9) rfl dX3_sign_5 ?_
  refine zk_ige (tgt := 23) hx hb dX3_sign_8 (by decide) (by omega) (by omega) (fun c8 => ?_) (fun c8 => ?_)
  · refine lv_iconst (v := nI 0) hx hb dX3_sign_23 (by decide) ?_
    refine lv_istore_n (lv' := [(3, .int (nI 0)), (0, .ref b0), (1, .int (nI lo)), (2, .int (nI hi))]) hx hb dX3_sign_24 rfl hl (by decide) rfl (fun ls hl => ?_)
    refine lv_aload_n hx hb dX3_sign_25 rfl (lv_at hl 1 rfl) ?_
    refine lv_aload_n hx hb dX3_sign_26 rfl (lv_at hl 1 rfl) ?_
    refine va_get (D := G.1) (ci := 3) (v := .int (nI 0)) (C := RX3) (T := TX3) (N := 14) hx hb hts mic_sign0_3 hown hK hP 0 rfl rfl 11 (by decide) (hts _ mwc_sign0_3) (fun _ h9 => h9) rfl dX3_sign_27 ?_
    refine lv_if_ne (tgt := 42) hx hb dX3_sign_30 (by decide) (fun q => absurd (by decide) q) (fun _ => ?_)
    refine lv_iload_n hx hb dX3_sign_33 rfl (lv_at hl 0 rfl) ?_
    refine lv_iload_n hx hb dX3_sign_34 rfl (lv_at hl 2 rfl) ?_
    refine lv_iload_n hx hb dX3_sign_35 rfl (lv_at hl 3 rfl) ?_
    have hpr := hpd rd
    refine zc_S (As := [.int (nI 0), .int (nI lo), .int (nI hi)]) (rest := [.ref b0]) ⟨hx, hb, hml, hown, hts⟩ (c_in_n l 0 lo hi (by omega) (by omega) (by omega)) (va_cwS 3 hts gX3_sign_X3_in rfl rfl rfl (by decide +kernel) ⟨Nat.le_of_ble_eq_true rfl, Nat.le_of_ble_eq_true rfl⟩) rfl hl.1 rfl (Nat.le_of_ble_eq_true rfl) dX3_sign_36 ⟨Nat.zero_le _, Nat.zero_le _⟩ (fun r36 h36 => ?_)
    rcases h36 with ⟨h36_0, h36_1, rfl⟩ | ⟨h36_0, rfl⟩
    · refine lv_if_ne (tgt := 46) hx hb dX3_sign_39 (by decide) (fun _ => ?_) (fun q => absurd q (by decide))
      refine lv_iconst (v := nI 0) hx hb dX3_sign_46 (by decide) ?_
      refine zk_put (D := G.1) (ci := 3) (v := .int (nI 0)) (ty := .boolean) (C := RX3) (T := TX3) (N := 14) (ws2 := [(b0, .inr (3, [.ref b1, .ref b2, .ref b3, .int (nI kn), .ref b4, .int (nI ik), .ref b5, .int (nI ty), .int ra, .int rb, .int (nI rd), .int (nI 0), .ref b6, .int fl])), (b5, .inl (G.2.1, 60, .inl (arN pd)))]) hx hb hts mic_sign0_3 tyX3 tyX3_ok nmX3 hown hK hP hD hS 0 rfl rfl 11 (by decide) (hts _ mwc_sign0_3) (fun _ h9 => h9) rfl (by decide +kernel) rfl rfl (Nat.le_of_ble_eq_true rfl) rfl dX3_sign_47 (fun H locs hP hD hS => ?_)
      refine lv_aload_n hx hb dX3_sign_50 rfl (lv_at hl 1 rfl) ?_
      refine lv_dup hx hb dX3_sign_51 rfl ?_
      refine va_get (D := G.1) (ci := 3) (v := .int (nI rd)) (C := RX3) (T := TX3) (N := 14) hx hb hts mic_sign0_3 hown hK hP 0 rfl rfl 10 (by decide) (hts _ mwc_sign0_0) (fun _ h9 => h9) rfl dX3_sign_52 ?_
      refine lv_aload_n hx hb dX3_sign_55 rfl (lv_at hl 1 rfl) ?_
      refine va_get (D := G.1) (ci := 3) (v := .int (nI 0)) (C := RX3) (T := TX3) (N := 14) hx hb hts mic_sign0_3 hown hK hP 0 rfl rfl 11 (by decide) (hts _ mwc_sign0_3) (fun _ h9 => h9) rfl dX3_sign_56 ?_
      refine lv_if_eq (tgt := 66) hx hb dX3_sign_59 (by decide) (fun _ => ?_) (fun q => absurd (by decide) q)
      refine lv_iconst (v := nI 1) hx hb dX3_sign_66 (by decide) ?_
      refine zk_add hx hb dX3_sign_67 ?_
      refine zk_put (D := G.1) (ci := 3) (v := .int (nI (rd + 1))) (ty := .int) (C := RX3) (T := TX3) (N := 14) (ws2 := [(b0, .inr (3, [.ref b1, .ref b2, .ref b3, .int (nI kn), .ref b4, .int (nI ik), .ref b5, .int (nI ty), .int ra, .int rb, .int (nI (rd + 1)), .int (nI 0), .ref b6, .int fl])), (b5, .inl (G.2.1, 60, .inl (arN pd)))]) hx hb hts mic_sign0_3 tyX3 tyX3_ok nmX3 hown hK hP hD hS 0 rfl rfl 10 (by decide) (hts _ mwc_sign0_0) (fun _ h9 => h9) rfl (by decide +kernel) rfl rfl (Nat.le_of_ble_eq_true rfl) rfl dX3_sign_68 (fun H locs hP hD hS => ?_)
      refine lv_iload_n hx hb dX3_sign_71 rfl (lv_at hl 0 rfl) ?_
      exact W.iret (v := nI 0) hx hb hr (fun tT ht hW => ⟨⟨_, (rd + 1, 0), rfl, absurd h36_0 (by omega), by show va_P G.1 vwCl _ tT.heap; rw [ht]; exact hP⟩, hS.F ht⟩) hS.2.2 dX3_sign_72
    · refine lv_if_ne (tgt := 46) hx hb dX3_sign_39 (by decide) (fun q => absurd (by decide) q) (fun _ => ?_)
      refine lv_iconst (v := nI 1) hx hb dX3_sign_42 (by decide) ?_
      refine lv_goto (tgt := 47) hx hb dX3_sign_43 (by decide) ?_
      refine zk_put (D := G.1) (ci := 3) (v := .int (nI 1)) (ty := .boolean) (C := RX3) (T := TX3) (N := 14) (ws2 := [(b0, .inr (3, [.ref b1, .ref b2, .ref b3, .int (nI kn), .ref b4, .int (nI ik), .ref b5, .int (nI ty), .int ra, .int rb, .int (nI rd), .int (nI 1), .ref b6, .int fl])), (b5, .inl (G.2.1, 60, .inl (arN pd)))]) hx hb hts mic_sign0_3 tyX3 tyX3_ok nmX3 hown hK hP hD hS 0 rfl rfl 11 (by decide) (hts _ mwc_sign0_3) (fun _ h9 => h9) rfl (by decide +kernel) rfl rfl (Nat.le_of_ble_eq_true rfl) rfl dX3_sign_47 (fun H locs hP hD hS => ?_)
      refine lv_aload_n hx hb dX3_sign_50 rfl (lv_at hl 1 rfl) ?_
      refine lv_dup hx hb dX3_sign_51 rfl ?_
      refine va_get (D := G.1) (ci := 3) (v := .int (nI rd)) (C := RX3) (T := TX3) (N := 14) hx hb hts mic_sign0_3 hown hK hP 0 rfl rfl 10 (by decide) (hts _ mwc_sign0_0) (fun _ h9 => h9) rfl dX3_sign_52 ?_
      refine lv_aload_n hx hb dX3_sign_55 rfl (lv_at hl 1 rfl) ?_
      refine va_get (D := G.1) (ci := 3) (v := .int (nI 1)) (C := RX3) (T := TX3) (N := 14) hx hb hts mic_sign0_3 hown hK hP 0 rfl rfl 11 (by decide) (hts _ mwc_sign0_3) (fun _ h9 => h9) rfl dX3_sign_56 ?_
      refine lv_if_eq (tgt := 66) hx hb dX3_sign_59 (by decide) (fun q => absurd q (by decide)) (fun _ => ?_)
      refine lv_iconst (v := nI 0) hx hb dX3_sign_62 (by decide) ?_
      refine lv_goto (tgt := 67) hx hb dX3_sign_63 (by decide) ?_
      refine zk_add hx hb dX3_sign_67 ?_
      refine zk_put (D := G.1) (ci := 3) (v := .int (nI (rd + 0))) (ty := .int) (C := RX3) (T := TX3) (N := 14) (ws2 := [(b0, .inr (3, [.ref b1, .ref b2, .ref b3, .int (nI kn), .ref b4, .int (nI ik), .ref b5, .int (nI ty), .int ra, .int rb, .int (nI (rd + 0)), .int (nI 1), .ref b6, .int fl])), (b5, .inl (G.2.1, 60, .inl (arN pd)))]) hx hb hts mic_sign0_3 tyX3 tyX3_ok nmX3 hown hK hP hD hS 0 rfl rfl 10 (by decide) (hts _ mwc_sign0_0) (fun _ h9 => h9) rfl (by decide +kernel) rfl rfl (Nat.le_of_ble_eq_true rfl) rfl dX3_sign_68 (fun H locs hP hD hS => ?_)
      refine lv_iload_n hx hb dX3_sign_71 rfl (lv_at hl 0 rfl) ?_
      exact W.iret (v := nI 0) hx hb hr (fun tT ht hW => ⟨⟨_, (rd + 0, 1), rfl, Or.inr ⟨_, fun q => absurd q.1 (by omega), rfl, rfl⟩, by show va_P G.1 vwCl _ tT.heap; rw [ht]; exact hP⟩, hS.F ht⟩) hS.2.2 dX3_sign_72
  · refine lv_aload_n hx hb dX3_sign_11 rfl (lv_at hl 0 rfl) ?_
    refine va_get (D := G.1) (ci := 3) (v := .ref b5) (C := RX3) (T := TX3) (N := 14) hx hb hts mic_sign0_3 hown hK hP 0 rfl rfl 6 (by decide) (hts _ mwc_sign0_4) (fun _ h9 => h9) rfl dX3_sign_12 ?_
    refine lv_aload_n hx hb dX3_sign_15 rfl (lv_at hl 0 rfl) ?_
    refine va_get (D := G.1) (ci := 3) (v := .int (nI rd)) (C := RX3) (T := TX3) (N := 14) hx hb hts mic_sign0_3 hown hK hP 0 rfl rfl 10 (by decide) (hts _ mwc_sign0_0) (fun _ h9 => h9) rfl dX3_sign_16 ?_
    refine zk_ald (f := pd) (k := rd) hx hb hK hP 1 0 rfl rfl (Nat.le_of_ble_eq_true rfl) (by omega) dX3_sign_19 ?_
    refine lv_goto (tgt := 24) hx hb dX3_sign_20 (by decide) ?_
    refine lv_istore_n (lv' := [(3, .int (nI (pd rd))), (0, .ref b0), (1, .int (nI lo)), (2, .int (nI hi))]) hx hb dX3_sign_24 rfl hl (by decide) rfl (fun ls hl => ?_)
    refine lv_aload_n hx hb dX3_sign_25 rfl (lv_at hl 1 rfl) ?_
    refine lv_aload_n hx hb dX3_sign_26 rfl (lv_at hl 1 rfl) ?_
    refine va_get (D := G.1) (ci := 3) (v := .int (nI 0)) (C := RX3) (T := TX3) (N := 14) hx hb hts mic_sign0_3 hown hK hP 0 rfl rfl 11 (by decide) (hts _ mwc_sign0_3) (fun _ h9 => h9) rfl dX3_sign_27 ?_
    refine lv_if_ne (tgt := 42) hx hb dX3_sign_30 (by decide) (fun q => absurd (by decide) q) (fun _ => ?_)
    refine lv_iload_n hx hb dX3_sign_33 rfl (lv_at hl 0 rfl) ?_
    refine lv_iload_n hx hb dX3_sign_34 rfl (lv_at hl 2 rfl) ?_
    refine lv_iload_n hx hb dX3_sign_35 rfl (lv_at hl 3 rfl) ?_
    have hpr := hpd rd
    refine zc_S (As := [.int (nI (pd rd)), .int (nI lo), .int (nI hi)]) (rest := [.ref b0]) ⟨hx, hb, hml, hown, hts⟩ (c_in_n l (pd rd) lo hi (by omega) (by omega) (by omega)) (va_cwS 3 hts gX3_sign_X3_in rfl rfl rfl (by decide +kernel) ⟨Nat.le_of_ble_eq_true rfl, Nat.le_of_ble_eq_true rfl⟩) rfl hl.1 rfl (Nat.le_of_ble_eq_true rfl) dX3_sign_36 ⟨Nat.zero_le _, Nat.zero_le _⟩ (fun r36 h36 => ?_)
    rcases h36 with ⟨h36_0, h36_1, rfl⟩ | ⟨h36_0, rfl⟩
    · refine lv_if_ne (tgt := 46) hx hb dX3_sign_39 (by decide) (fun _ => ?_) (fun q => absurd q (by decide))
      refine lv_iconst (v := nI 0) hx hb dX3_sign_46 (by decide) ?_
      refine zk_put (D := G.1) (ci := 3) (v := .int (nI 0)) (ty := .boolean) (C := RX3) (T := TX3) (N := 14) (ws2 := [(b0, .inr (3, [.ref b1, .ref b2, .ref b3, .int (nI kn), .ref b4, .int (nI ik), .ref b5, .int (nI ty), .int ra, .int rb, .int (nI rd), .int (nI 0), .ref b6, .int fl])), (b5, .inl (G.2.1, 60, .inl (arN pd)))]) hx hb hts mic_sign0_3 tyX3 tyX3_ok nmX3 hown hK hP hD hS 0 rfl rfl 11 (by decide) (hts _ mwc_sign0_3) (fun _ h9 => h9) rfl (by decide +kernel) rfl rfl (Nat.le_of_ble_eq_true rfl) rfl dX3_sign_47 (fun H locs hP hD hS => ?_)
      refine lv_aload_n hx hb dX3_sign_50 rfl (lv_at hl 1 rfl) ?_
      refine lv_dup hx hb dX3_sign_51 rfl ?_
      refine va_get (D := G.1) (ci := 3) (v := .int (nI rd)) (C := RX3) (T := TX3) (N := 14) hx hb hts mic_sign0_3 hown hK hP 0 rfl rfl 10 (by decide) (hts _ mwc_sign0_0) (fun _ h9 => h9) rfl dX3_sign_52 ?_
      refine lv_aload_n hx hb dX3_sign_55 rfl (lv_at hl 1 rfl) ?_
      refine va_get (D := G.1) (ci := 3) (v := .int (nI 0)) (C := RX3) (T := TX3) (N := 14) hx hb hts mic_sign0_3 hown hK hP 0 rfl rfl 11 (by decide) (hts _ mwc_sign0_3) (fun _ h9 => h9) rfl dX3_sign_56 ?_
      refine lv_if_eq (tgt := 66) hx hb dX3_sign_59 (by decide) (fun _ => ?_) (fun q => absurd (by decide) q)
      refine lv_iconst (v := nI 1) hx hb dX3_sign_66 (by decide) ?_
      refine zk_add hx hb dX3_sign_67 ?_
      refine zk_put (D := G.1) (ci := 3) (v := .int (nI (rd + 1))) (ty := .int) (C := RX3) (T := TX3) (N := 14) (ws2 := [(b0, .inr (3, [.ref b1, .ref b2, .ref b3, .int (nI kn), .ref b4, .int (nI ik), .ref b5, .int (nI ty), .int ra, .int rb, .int (nI (rd + 1)), .int (nI 0), .ref b6, .int fl])), (b5, .inl (G.2.1, 60, .inl (arN pd)))]) hx hb hts mic_sign0_3 tyX3 tyX3_ok nmX3 hown hK hP hD hS 0 rfl rfl 10 (by decide) (hts _ mwc_sign0_0) (fun _ h9 => h9) rfl (by decide +kernel) rfl rfl (Nat.le_of_ble_eq_true rfl) rfl dX3_sign_68 (fun H locs hP hD hS => ?_)
      refine lv_iload_n hx hb dX3_sign_71 rfl (lv_at hl 0 rfl) ?_
      exact W.iret (v := nI (pd rd)) hx hb hr (fun tT ht hW => ⟨⟨_, (rd + 1, 0), rfl, Or.inl ⟨c8, h36_0, h36_1, rfl, rfl⟩, by show va_P G.1 vwCl _ tT.heap; rw [ht]; exact hP⟩, hS.F ht⟩) hS.2.2 dX3_sign_72
    · refine lv_if_ne (tgt := 46) hx hb dX3_sign_39 (by decide) (fun q => absurd (by decide) q) (fun _ => ?_)
      refine lv_iconst (v := nI 1) hx hb dX3_sign_42 (by decide) ?_
      refine lv_goto (tgt := 47) hx hb dX3_sign_43 (by decide) ?_
      refine zk_put (D := G.1) (ci := 3) (v := .int (nI 1)) (ty := .boolean) (C := RX3) (T := TX3) (N := 14) (ws2 := [(b0, .inr (3, [.ref b1, .ref b2, .ref b3, .int (nI kn), .ref b4, .int (nI ik), .ref b5, .int (nI ty), .int ra, .int rb, .int (nI rd), .int (nI 1), .ref b6, .int fl])), (b5, .inl (G.2.1, 60, .inl (arN pd)))]) hx hb hts mic_sign0_3 tyX3 tyX3_ok nmX3 hown hK hP hD hS 0 rfl rfl 11 (by decide) (hts _ mwc_sign0_3) (fun _ h9 => h9) rfl (by decide +kernel) rfl rfl (Nat.le_of_ble_eq_true rfl) rfl dX3_sign_47 (fun H locs hP hD hS => ?_)
      refine lv_aload_n hx hb dX3_sign_50 rfl (lv_at hl 1 rfl) ?_
      refine lv_dup hx hb dX3_sign_51 rfl ?_
      refine va_get (D := G.1) (ci := 3) (v := .int (nI rd)) (C := RX3) (T := TX3) (N := 14) hx hb hts mic_sign0_3 hown hK hP 0 rfl rfl 10 (by decide) (hts _ mwc_sign0_0) (fun _ h9 => h9) rfl dX3_sign_52 ?_
      refine lv_aload_n hx hb dX3_sign_55 rfl (lv_at hl 1 rfl) ?_
      refine va_get (D := G.1) (ci := 3) (v := .int (nI 1)) (C := RX3) (T := TX3) (N := 14) hx hb hts mic_sign0_3 hown hK hP 0 rfl rfl 11 (by decide) (hts _ mwc_sign0_3) (fun _ h9 => h9) rfl dX3_sign_56 ?_
      refine lv_if_eq (tgt := 66) hx hb dX3_sign_59 (by decide) (fun q => absurd q (by decide)) (fun _ => ?_)
      refine lv_iconst (v := nI 0) hx hb dX3_sign_62 (by decide) ?_
      refine lv_goto (tgt := 67) hx hb dX3_sign_63 (by decide) ?_
      refine zk_add hx hb dX3_sign_67 ?_
      refine zk_put (D := G.1) (ci := 3) (v := .int (nI (rd + 0))) (ty := .int) (C := RX3) (T := TX3) (N := 14) (ws2 := [(b0, .inr (3, [.ref b1, .ref b2, .ref b3, .int (nI kn), .ref b4, .int (nI ik), .ref b5, .int (nI ty), .int ra, .int rb, .int (nI (rd + 0)), .int (nI 1), .ref b6, .int fl])), (b5, .inl (G.2.1, 60, .inl (arN pd)))]) hx hb hts mic_sign0_3 tyX3 tyX3_ok nmX3 hown hK hP hD hS 0 rfl rfl 10 (by decide) (hts _ mwc_sign0_0) (fun _ h9 => h9) rfl (by decide +kernel) rfl rfl (Nat.le_of_ble_eq_true rfl) rfl dX3_sign_68 (fun H locs hP hD hS => ?_)
      refine lv_iload_n hx hb dX3_sign_71 rfl (lv_at hl 0 rfl) ?_
      exact W.iret (v := nI (pd rd)) hx hb hr (fun tT ht hW => ⟨⟨_, (rd + 0, 1), rfl, Or.inr ⟨_, fun q => h36_0 q.2, rfl, rfl⟩, by show va_P G.1 vwCl _ tT.heap; rw [ht]; exact hP⟩, hS.F ht⟩) hS.2.2 dX3_sign_72
set_option maxRecDepth 100000 in
theorem mwc_sign1_0 : Cond.fieldLink RX3 83 "ExhibitTextsModel" "reading" "I" ∈ wsX3_sign := by decide +kernel
set_option maxRecDepth 100000 in
theorem mic_sign1_3 : ∀ w ∈ u_ws RX3 TX3 14, w ∈ wsX3_sign := by decide +kernel
set_option maxRecDepth 100000 in
theorem mwc_sign1_2 : Cond.fieldLink RX3 86 "ExhibitTextsModel" "typed" "I" ∈ wsX3_sign := by decide +kernel
set_option maxRecDepth 100000 in
theorem mwc_sign1_3 : Cond.fieldLink RX3 89 "ExhibitTextsModel" "isWrong" "Z" ∈ wsX3_sign := by decide +kernel
set_option maxRecDepth 100000 in
theorem mwc_sign1_4 : Cond.fieldLink RX3 22 "ExhibitTextsModel" "pad" "[I" ∈ wsX3_sign := by decide +kernel
set_option maxHeartbeats 4000000 in
set_option maxRecDepth 100000 in
/-- X3_sign: the same where something is wrong -/
theorem c_sign1 (l : Launch) (G : zG) (b0 : Nat) (b1 : Nat) (b2 : Nat) (b3 : Nat) (b4 : Nat) (b5 : Nat) (b6 : Nat) (kn : Nat) (ik : Nat) (ty : Nat) (ra : Int32) (rb : Int32) (rd : Nat) (fl : Int32) (pd : Nat → Nat) (lo : Nat) (hi : Nat) (hty : ty ≤ 60) (hrd : rd ≤ ty) (hpd : ∀ j : Nat, pd j < 65536) : Met l yX3_sign wsX3_sign ({ frames := 1, cells := 0, slots := 0, locals := 22 } : Room) (zPc G [.ref b0, .int (nI lo), .int (nI hi)] [(b0, .inr (3, [.ref b1, .ref b2, .ref b3, .int (nI kn), .ref b4, .int (nI ik), .ref b5, .int (nI ty), .int ra, .int rb, .int (nI rd), .int (nI 1), .ref b6, .int fl])), (b5, .inl (G.2.1, 60, .inl (arN pd)))]) (va_Qi (fun (rR : Int32) (uU : Nat × Nat) => ∃ (cX : Nat), rR = nI cX ∧ uU = (rd, 1)) (fun uU tT => va_P G.1 vwCl ((fun (uU : Nat × Nat) => ([(b0, .inr (3, [.ref b1, .ref b2, .ref b3, .int (nI kn), .ref b4, .int (nI ik), .ref b5, .int (nI ty), .int ra, .int rb, .int (nI uU.1), .int (nI uU.2), .ref b6, .int fl])), (b5, .inl (G.2.1, 60, .inl (arN pd)))] : va_W)) uU) tT.heap) (zIn [(b0, .inr (3, [.ref b1, .ref b2, .ref b3, .int (nI kn), .ref b4, .int (nI ik), .ref b5, .int (nI ty), .int ra, .int rb, .int (nI rd), .int (nI 1), .ref b6, .int fl])), (b5, .inl (G.2.1, 60, .inl (arN pd)))])) 0 0 (zIn [(b0, .inr (3, [.ref b1, .ref b2, .ref b3, .int (nI kn), .ref b4, .int (nI ik), .ref b5, .int (nI ty), .int ra, .int rb, .int (nI rd), .int (nI 1), .ref b6, .int fl])), (b5, .inl (G.2.1, 60, .inl (arN pd)))]) := by
  refine zM (cc := cX3_sign) (maxL := 4) (ret := (some .int)) (by decide) rfl (Nat.le_of_ble_eq_true rfl) ?_
  intro pP eE sS mM below meth cC hx hb hr hts hown hlk hml hnm hK hN hP hD hS ls hl
  have hl : lv_has ls 4 [(0, .ref b0), (1, .int (nI lo)), (2, .int (nI hi))] := hl
  refine lv_aload_n hx hb dX3_sign_0 rfl (lv_at hl 0 rfl) ?_
  refine va_get (D := G.1) (ci := 3) (v := .int (nI rd)) (C := RX3) (T := TX3) (N := 14) hx hb hts mic_sign1_3 hown hK hP 0 rfl rfl 10 (by decide) (hts _ mwc_sign1_0) (fun _ h9 => h9) rfl dX3_sign_1 ?_
  refine lv_aload_n hx hb dX3_sign_4 rfl (lv_at hl 0 rfl) ?_
  refine va_get (D := G.1) (ci := 3) (v := .int (nI ty)) (C := RX3) (T := TX3) (N := 14) hx hb hts mic_sign1_3 hown hK hP 0 rfl rfl 7 (by decide) (hts _ mwc_sign1_2) (fun _ h9 => h9) rfl dX3_sign_5 ?_
  refine zk_ige (tgt := 23) hx hb dX3_sign_8 (by decide) (by omega) (by omega) (fun c8 => ?_) (fun c8 => ?_)
  · refine lv_iconst (v := nI 0) hx hb dX3_sign_23 (by decide) ?_
    refine lv_istore_n (lv' := [(3, .int (nI 0)), (0, .ref b0), (1, .int (nI lo)), (2, .int (nI hi))]) hx hb dX3_sign_24 rfl hl (by decide) rfl (fun ls hl => ?_)
    refine lv_aload_n hx hb dX3_sign_25 rfl (lv_at hl 1 rfl) ?_
    refine lv_aload_n hx hb dX3_sign_26 rfl (lv_at hl 1 rfl) ?_
    refine va_get (D := G.1) (ci := 3) (v := .int (nI 1)) (C := RX3) (T := TX3) (N := 14) hx hb hts mic_sign1_3 hown hK hP 0 rfl rfl 11 (by decide) (hts _ mwc_sign1_3) (fun _ h9 => h9) rfl dX3_sign_27 ?_
    refine lv_if_ne (tgt := 42) hx hb dX3_sign_30 (by decide) (fun _ => ?_) (fun q => absurd q (by decide))
    refine lv_iconst (v := nI 1) hx hb dX3_sign_42 (by decide) ?_
    refine lv_goto (tgt := 47) hx hb dX3_sign_43 (by decide) ?_
    refine zk_put (D := G.1) (ci := 3) (v := .int (nI 1)) (ty := .boolean) (C := RX3) (T := TX3) (N := 14) (ws2 := [(b0, .inr (3, [.ref b1, .ref b2, .ref b3, .int (nI kn), .ref b4, .int (nI ik), .ref b5, .int (nI ty), .int ra, .int rb, .int (nI rd), .int (nI 1), .ref b6, .int fl])), (b5, .inl (G.2.1, 60, .inl (arN pd)))]) hx hb hts mic_sign1_3 tyX3 tyX3_ok nmX3 hown hK hP hD hS 0 rfl rfl 11 (by decide) (hts _ mwc_sign1_3) (fun _ h9 => h9) rfl (by decide +kernel) rfl rfl (Nat.le_of_ble_eq_true rfl) rfl dX3_sign_47 (fun H locs hP hD hS => ?_)
    refine lv_aload_n hx hb dX3_sign_50 rfl (lv_at hl 1 rfl) ?_
    refine lv_dup hx hb dX3_sign_51 rfl ?_
    refine va_get (D := G.1) (ci := 3) (v := .int (nI rd)) (C := RX3) (T := TX3) (N := 14) hx hb hts mic_sign1_3 hown hK hP 0 rfl rfl 10 (by decide) (hts _ mwc_sign1_0) (fun _ h9 => h9) rfl dX3_sign_52 ?_
    refine lv_aload_n hx hb dX3_sign_55 rfl (lv_at hl 1 rfl) ?_
    refine va_get (D := G.1) (ci := 3) (v := .int (nI 1)) (C := RX3) (T := TX3) (N := 14) hx hb hts mic_sign1_3 hown hK hP 0 rfl rfl 11 (by decide) (hts _ mwc_sign1_3) (fun _ h9 => h9) rfl dX3_sign_56 ?_
    refine lv_if_eq (tgt := 66) hx hb dX3_sign_59 (by decide) (fun q => absurd q (by decide)) (fun _ => ?_)
    refine lv_iconst (v := nI 0) hx hb dX3_sign_62 (by decide) ?_
    refine lv_goto (tgt := 67) hx hb dX3_sign_63 (by decide) ?_
    refine zk_add hx hb dX3_sign_67 ?_
    refine zk_put (D := G.1) (ci := 3) (v := .int (nI (rd + 0))) (ty := .int) (C := RX3) (T := TX3) (N := 14) (ws2 := [(b0, .inr (3, [.ref b1, .ref b2, .ref b3, .int (nI kn), .ref b4, .int (nI ik), .ref b5, .int (nI ty), .int ra, .int rb, .int (nI (rd + 0)), .int (nI 1), .ref b6, .int fl])), (b5, .inl (G.2.1, 60, .inl (arN pd)))]) hx hb hts mic_sign1_3 tyX3 tyX3_ok nmX3 hown hK hP hD hS 0 rfl rfl 10 (by decide) (hts _ mwc_sign1_0) (fun _ h9 => h9) rfl (by decide +kernel) rfl rfl (Nat.le_of_ble_eq_true rfl) rfl dX3_sign_68 (fun H locs hP hD hS => ?_)
    refine lv_iload_n hx hb dX3_sign_71 rfl (lv_at hl 0 rfl) ?_
    exact W.iret (v := nI 0) hx hb hr (fun tT ht hW => ⟨⟨_, (rd + 0, 1), rfl, ⟨_, rfl, rfl⟩, by show va_P G.1 vwCl _ tT.heap; rw [ht]; exact hP⟩, hS.F ht⟩) hS.2.2 dX3_sign_72
  · refine lv_aload_n hx hb dX3_sign_11 rfl (lv_at hl 0 rfl) ?_
    refine va_get (D := G.1) (ci := 3) (v := .ref b5) (C := RX3) (T := TX3) (N := 14) hx hb hts mic_sign1_3 hown hK hP 0 rfl rfl 6 (by decide) (hts _ mwc_sign1_4) (fun _ h9 => h9) rfl dX3_sign_12 ?_
    refine lv_aload_n hx hb dX3_sign_15 rfl (lv_at hl 0 rfl) ?_
    refine va_get (D := G.1) (ci := 3) (v := .int (nI rd)) (C := RX3) (T := TX3) (N := 14) hx hb hts mic_sign1_3 hown hK hP 0 rfl rfl 10 (by decide) (hts _ mwc_sign1_0) (fun _ h9 => h9) rfl dX3_sign_16 ?_
    refine zk_ald (f := pd) (k := rd) hx hb hK hP 1 0 rfl rfl (Nat.le_of_ble_eq_true rfl) (by omega) dX3_sign_19 ?_
    refine lv_goto (tgt := 24) hx hb dX3_sign_20 (by decide) ?_
    refine lv_istore_n (lv' := [(3, .int (nI (pd rd))), (0, .ref b0), (1, .int (nI lo)), (2, .int (nI hi))]) hx hb dX3_sign_24 rfl hl (by decide) rfl (fun ls hl => ?_)
    refine lv_aload_n hx hb dX3_sign_25 rfl (lv_at hl 1 rfl) ?_
    refine lv_aload_n hx hb dX3_sign_26 rfl (lv_at hl 1 rfl) ?_
    refine va_get (D := G.1) (ci := 3) (v := .int (nI 1)) (C := RX3) (T := TX3) (N := 14) hx hb hts mic_sign1_3 hown hK hP 0 rfl rfl 11 (by decide) (hts _ mwc_sign1_3) (fun _ h9 => h9) rfl dX3_sign_27 ?_
    refine lv_if_ne (tgt := 42) hx hb dX3_sign_30 (by decide) (fun _ => ?_) (fun q => absurd q (by decide))
    refine lv_iconst (v := nI 1) hx hb dX3_sign_42 (by decide) ?_
    refine lv_goto (tgt := 47) hx hb dX3_sign_43 (by decide) ?_
    refine zk_put (D := G.1) (ci := 3) (v := .int (nI 1)) (ty := .boolean) (C := RX3) (T := TX3) (N := 14) (ws2 := [(b0, .inr (3, [.ref b1, .ref b2, .ref b3, .int (nI kn), .ref b4, .int (nI ik), .ref b5, .int (nI ty), .int ra, .int rb, .int (nI rd), .int (nI 1), .ref b6, .int fl])), (b5, .inl (G.2.1, 60, .inl (arN pd)))]) hx hb hts mic_sign1_3 tyX3 tyX3_ok nmX3 hown hK hP hD hS 0 rfl rfl 11 (by decide) (hts _ mwc_sign1_3) (fun _ h9 => h9) rfl (by decide +kernel) rfl rfl (Nat.le_of_ble_eq_true rfl) rfl dX3_sign_47 (fun H locs hP hD hS => ?_)
    refine lv_aload_n hx hb dX3_sign_50 rfl (lv_at hl 1 rfl) ?_
    refine lv_dup hx hb dX3_sign_51 rfl ?_
    refine va_get (D := G.1) (ci := 3) (v := .int (nI rd)) (C := RX3) (T := TX3) (N := 14) hx hb hts mic_sign1_3 hown hK hP 0 rfl rfl 10 (by decide) (hts _ mwc_sign1_0) (fun _ h9 => h9) rfl dX3_sign_52 ?_
    refine lv_aload_n hx hb dX3_sign_55 rfl (lv_at hl 1 rfl) ?_
    refine va_get (D := G.1) (ci := 3) (v := .int (nI 1)) (C := RX3) (T := TX3) (N := 14) hx hb hts mic_sign1_3 hown hK hP 0 rfl rfl 11 (by decide) (hts _ mwc_sign1_3) (fun _ h9 => h9) rfl dX3_sign_56 ?_
    refine lv_if_eq (tgt := 66) hx hb dX3_sign_59 (by decide) (fun q => absurd q (by decide)) (fun _ => ?_)
    refine lv_iconst (v := nI 0) hx hb dX3_sign_62 (by decide) ?_
    refine lv_goto (tgt := 67) hx hb dX3_sign_63 (by decide) ?_
    refine zk_add hx hb dX3_sign_67 ?_
    refine zk_put (D := G.1) (ci := 3) (v := .int (nI (rd + 0))) (ty := .int) (C := RX3) (T := TX3) (N := 14) (ws2 := [(b0, .inr (3, [.ref b1, .ref b2, .ref b3, .int (nI kn), .ref b4, .int (nI ik), .ref b5, .int (nI ty), .int ra, .int rb, .int (nI (rd + 0)), .int (nI 1), .ref b6, .int fl])), (b5, .inl (G.2.1, 60, .inl (arN pd)))]) hx hb hts mic_sign1_3 tyX3 tyX3_ok nmX3 hown hK hP hD hS 0 rfl rfl 10 (by decide) (hts _ mwc_sign1_0) (fun _ h9 => h9) rfl (by decide +kernel) rfl rfl (Nat.le_of_ble_eq_true rfl) rfl dX3_sign_68 (fun H locs hP hD hS => ?_)
    refine lv_iload_n hx hb dX3_sign_71 rfl (lv_at hl 0 rfl) ?_
    exact W.iret (v := nI (pd rd)) hx hb hr (fun tT ht hW => ⟨⟨_, (rd + 0, 1), rfl, ⟨_, rfl, rfl⟩, by show va_P G.1 vwCl _ tT.heap; rw [ht]; exact hP⟩, hS.F ht⟩) hS.2.2 dX3_sign_72
set_option maxRecDepth 100000 in
theorem mwc_isNext0_0 : Cond.fieldLink RX3 89 "ExhibitTextsModel" "isWrong" "Z" ∈ wsX3_isNext := by decide +kernel
set_option maxRecDepth 100000 in
theorem mic_isNext0_3 : ∀ w ∈ u_ws RX3 TX3 14, w ∈ wsX3_isNext := by decide +kernel
set_option maxRecDepth 100000 in
theorem mwc_isNext0_2 : Cond.fieldLink RX3 83 "ExhibitTextsModel" "reading" "I" ∈ wsX3_isNext := by decide +kernel
set_option maxRecDepth 100000 in
theorem mwc_isNext0_3 : Cond.fieldLink RX3 86 "ExhibitTextsModel" "typed" "I" ∈ wsX3_isNext := by decide +kernel
set_option maxRecDepth 100000 in
theorem mwc_isNext0_4 : Cond.fieldLink RX3 22 "ExhibitTextsModel" "pad" "[I" ∈ wsX3_isNext := by decide +kernel
set_option maxHeartbeats 4000000 in
set_option maxRecDepth 100000 in
/-- X3_isNext: whether a sign is next -/
theorem c_isNext0 (l : Launch) (G : zG) (b0 : Nat) (b1 : Nat) (b2 : Nat) (b3 : Nat) (b4 : Nat) (b5 : Nat) (b6 : Nat) (kn : Nat) (ik : Nat) (ty : Nat) (ra : Int32) (rb : Int32) (rd : Nat) (fl : Int32) (pd : Nat → Nat) (lo : Nat) (hi : Nat) (hty : ty ≤ 60) (hrd : rd ≤ ty) (hpd : ∀ j : Nat, pd j < 65536) (hlo : 0 < lo) (hlo2 : lo < 1000) (hhi : hi < 1000) : Met l yX3_isNext wsX3_isNext ({ frames := 1, cells := 0, slots := 0, locals := 22 } : Room) (zPc G [.ref b0, .int (nI lo), .int (nI hi)] [(b0, .inr (3, [.ref b1, .ref b2, .ref b3, .int (nI kn), .ref b4, .int (nI ik), .ref b5, .int (nI ty), .int ra, .int rb, .int (nI rd), .int (nI 0), .ref b6, .int fl])), (b5, .inl (G.2.1, 60, .inl (arN pd)))]) (vp_Si (fun (rR : Int32) => (rd < ty ∧ lo ≤ pd rd ∧ pd rd ≤ hi ∧ rR = nI 1) ∨ (¬ (rd < ty ∧ lo ≤ pd rd ∧ pd rd ≤ hi) ∧ rR = nI 0))) 0 0 (fun _ => False) := by
  refine zR (cc := cX3_isNext) (maxL := 3) (ret := (some .boolean)) (by decide) rfl (Nat.le_of_ble_eq_true rfl) ?_
  intro pP eE sS mM below meth cC hx hb hr hts hown hlk hml hK hN hP hD ls hl
  have hl : lv_has ls 3 [(0, .ref b0), (1, .int (nI lo)), (2, .int (nI hi))] := hl
  refine lv_aload_n hx hb dX3_isNext_0 rfl (lv_at hl 0 rfl) ?_
  refine va_get (D := G.1) (ci := 3) (v := .int (nI 0)) (C := RX3) (T := TX3) (N := 14) hx hb hts mic_isNext0_3 hown hK hP 0 rfl rfl 11 (by decide) (hts _ mwc_isNext0_0) (fun _ h9 => h9) rfl dX3_isNext_1 ?_
  refine lv_if_ne (tgt := 39) hx hb dX3_isNext_4 (by decide) (fun q => absurd (by decide) q) (fun _ => ?_)
  refine lv_aload_n hx hb dX3_isNext_7 rfl (lv_at hl 0 rfl) ?_
  refine va_get (D := G.1) (ci := 3) (v := .int (nI rd)) (C := RX3) (T := TX3) (N := 14) hx hb hts mic_isNext0_3 hown hK hP 0 rfl rfl 10 (by decide) (hts _ mwc_isNext0_2) (fun _ h9 => h9) rfl dX3_isNext_8 ?_
  refine lv_aload_n hx hb dX3_isNext_11 rfl (lv_at hl 0 rfl) ?_
  refine va_get (D := G.1) (ci := 3) (v := .int (nI ty)) (C := RX3) (T := TX3) (N := 14) hx hb hts mic_isNext0_3 hown hK hP 0 rfl rfl 7 (by decide) (hts _ mwc_isNext0_3) (fun _ h9 => h9) rfl dX3_isNext_12 ?_
  refine zk_ige (tgt := 39) hx hb dX3_isNext_15 (by decide) (by omega) (by omega) (fun c15 => ?_) (fun c15 => ?_)
  · refine lv_iconst (v := nI 0) hx hb dX3_isNext_39 (by decide) ?_
    exact W.zret (ty := .boolean) (v := nI 0) hx hb hr (rfl) (fun tT ht hW => ⟨_, rfl, Or.inr ⟨fun q => absurd q.1 (by omega), rfl⟩, ht⟩) (fun _ h => absurd h List.not_mem_nil) dX3_isNext_40
  · refine lv_aload_n hx hb dX3_isNext_18 rfl (lv_at hl 0 rfl) ?_
    refine va_get (D := G.1) (ci := 3) (v := .ref b5) (C := RX3) (T := TX3) (N := 14) hx hb hts mic_isNext0_3 hown hK hP 0 rfl rfl 6 (by decide) (hts _ mwc_isNext0_4) (fun _ h9 => h9) rfl dX3_isNext_19 ?_
    refine lv_aload_n hx hb dX3_isNext_22 rfl (lv_at hl 0 rfl) ?_
    refine va_get (D := G.1) (ci := 3) (v := .int (nI rd)) (C := RX3) (T := TX3) (N := 14) hx hb hts mic_isNext0_3 hown hK hP 0 rfl rfl 10 (by decide) (hts _ mwc_isNext0_2) (fun _ h9 => h9) rfl dX3_isNext_23 ?_
    refine zk_ald (f := pd) (k := rd) hx hb hK hP 1 0 rfl rfl (Nat.le_of_ble_eq_true rfl) (by omega) dX3_isNext_26 ?_
    refine lv_iload_n hx hb dX3_isNext_27 rfl (lv_at hl 1 rfl) ?_
    refine lv_iload_n hx hb dX3_isNext_28 rfl (lv_at hl 2 rfl) ?_
    have hpr := hpd rd
    refine zc_S (As := [.int (nI (pd rd)), .int (nI lo), .int (nI hi)]) (rest := []) ⟨hx, hb, hml, hown, hts⟩ (c_in_n l (pd rd) lo hi (by omega) (by omega) (by omega)) (va_cwS 3 hts gX3_isNext_X3_in rfl rfl rfl (by decide +kernel) ⟨Nat.le_of_ble_eq_true rfl, Nat.le_of_ble_eq_true rfl⟩) rfl hl.1 rfl (Nat.le_of_ble_eq_true rfl) dX3_isNext_29 ⟨Nat.zero_le _, Nat.zero_le _⟩ (fun r29 h29 => ?_)
    rcases h29 with ⟨h29_0, h29_1, rfl⟩ | ⟨h29_0, rfl⟩
    · refine lv_if_eq (tgt := 39) hx hb dX3_isNext_32 (by decide) (fun q => absurd q (by decide)) (fun _ => ?_)
      refine lv_iconst (v := nI 1) hx hb dX3_isNext_35 (by decide) ?_
      refine lv_goto (tgt := 40) hx hb dX3_isNext_36 (by decide) ?_
      exact W.zret (ty := .boolean) (v := nI 1) hx hb hr (rfl) (fun tT ht hW => ⟨_, rfl, Or.inl ⟨c15, h29_0, h29_1, rfl⟩, ht⟩) (fun _ h => absurd h List.not_mem_nil) dX3_isNext_40
    · refine lv_if_eq (tgt := 39) hx hb dX3_isNext_32 (by decide) (fun _ => ?_) (fun q => absurd (by decide) q)
      refine lv_iconst (v := nI 0) hx hb dX3_isNext_39 (by decide) ?_
      exact W.zret (ty := .boolean) (v := nI 0) hx hb hr (rfl) (fun tT ht hW => ⟨_, rfl, Or.inr ⟨fun q => h29_0 q.2, rfl⟩, ht⟩) (fun _ h => absurd h List.not_mem_nil) dX3_isNext_40
set_option maxRecDepth 100000 in
theorem mwc_isNext1_0 : Cond.fieldLink RX3 89 "ExhibitTextsModel" "isWrong" "Z" ∈ wsX3_isNext := by decide +kernel
set_option maxRecDepth 100000 in
theorem mic_isNext1_3 : ∀ w ∈ u_ws RX3 TX3 14, w ∈ wsX3_isNext := by decide +kernel
set_option maxHeartbeats 4000000 in
set_option maxRecDepth 100000 in
/-- X3_isNext: the same where something is wrong -/
theorem c_isNext1 (l : Launch) (G : zG) (b0 : Nat) (b1 : Nat) (b2 : Nat) (b3 : Nat) (b4 : Nat) (b5 : Nat) (b6 : Nat) (kn : Nat) (ik : Nat) (ty : Nat) (ra : Int32) (rb : Int32) (rd : Nat) (fl : Int32) (pd : Nat → Nat) (lo : Nat) (hi : Nat) : Met l yX3_isNext wsX3_isNext ({ frames := 1, cells := 0, slots := 0, locals := 22 } : Room) (zPc G [.ref b0, .int (nI lo), .int (nI hi)] [(b0, .inr (3, [.ref b1, .ref b2, .ref b3, .int (nI kn), .ref b4, .int (nI ik), .ref b5, .int (nI ty), .int ra, .int rb, .int (nI rd), .int (nI 1), .ref b6, .int fl])), (b5, .inl (G.2.1, 60, .inl (arN pd)))]) (vp_Si (fun (rR : Int32) => rR = nI 0)) 0 0 (fun _ => False) := by
  refine zR (cc := cX3_isNext) (maxL := 3) (ret := (some .boolean)) (by decide) rfl (Nat.le_of_ble_eq_true rfl) ?_
  intro pP eE sS mM below meth cC hx hb hr hts hown hlk hml hK hN hP hD ls hl
  have hl : lv_has ls 3 [(0, .ref b0), (1, .int (nI lo)), (2, .int (nI hi))] := hl
  refine lv_aload_n hx hb dX3_isNext_0 rfl (lv_at hl 0 rfl) ?_
  refine va_get (D := G.1) (ci := 3) (v := .int (nI 1)) (C := RX3) (T := TX3) (N := 14) hx hb hts mic_isNext1_3 hown hK hP 0 rfl rfl 11 (by decide) (hts _ mwc_isNext1_0) (fun _ h9 => h9) rfl dX3_isNext_1 ?_
  refine lv_if_ne (tgt := 39) hx hb dX3_isNext_4 (by decide) (fun _ => ?_) (fun q => absurd q (by decide))
  refine lv_iconst (v := nI 0) hx hb dX3_isNext_39 (by decide) ?_
  exact W.zret (ty := .boolean) (v := nI 0) hx hb hr (rfl) (fun tT ht hW => ⟨_, rfl, rfl, ht⟩) (fun _ h => absurd h List.not_mem_nil) dX3_isNext_40
set_option maxRecDepth 100000 in
theorem mwc_number0_0 : Cond.fieldLink RX3 22 "ExhibitTextsModel" "pad" "[I" ∈ wsX3_number := by decide +kernel
set_option maxRecDepth 100000 in
theorem mic_number0_3 : ∀ w ∈ u_ws RX3 TX3 14, w ∈ wsX3_number := by decide +kernel
set_option maxRecDepth 100000 in
theorem mwc_number0_2 : Cond.fieldLink RX3 83 "ExhibitTextsModel" "reading" "I" ∈ wsX3_number := by decide +kernel
set_option maxHeartbeats 4000000 in
set_option maxRecDepth 100000 in
/-- X3_number: a number -/
theorem c_number0 (l : Launch) (G : zG) (b0 : Nat) (b1 : Nat) (b2 : Nat) (b3 : Nat) (b4 : Nat) (b5 : Nat) (b6 : Nat) (kn : Nat) (ik : Nat) (ty : Nat) (ra : Int32) (rb : Int32) (rd : Nat) (fl : Int32) (pd : Nat → Nat) (lo : Nat) (hi : Nat) (hty : ty ≤ 60) (hrd : rd ≤ ty) (hpd : ∀ j : Nat, pd j < 65536) (hlo : lo ≤ 1) (hhi : 9 ≤ hi) (hhi2 : hi ≤ 999) : Met l yX3_number wsX3_number ({ frames := 2, cells := 0, slots := 0, locals := 45 } : Room) (zPc G [.ref b0, .int (nI lo), .int (nI hi)] [(b0, .inr (3, [.ref b1, .ref b2, .ref b3, .int (nI kn), .ref b4, .int (nI ik), .ref b5, .int (nI ty), .int ra, .int rb, .int (nI rd), .int (nI 0), .ref b6, .int fl])), (b5, .inl (G.2.1, 60, .inl (arN pd)))]) (va_Qi (fun (rR : Int32) (uU : Nat × Nat) => (rd < ty ∧ 48 + lo ≤ pd rd ∧ pd rd ≤ 57 ∧ rR = nI ((dgP pd ty hi (pd rd - 48) (rd + 1)).1) ∧ uU = ((dgP pd ty hi (pd rd - 48) (rd + 1)).2, 0)) ∨ (∃ (gX : Int32), ¬ (rd < ty ∧ 48 + lo ≤ pd rd ∧ pd rd ≤ 57) ∧ rR = gX ∧ uU = (rd, 1))) (fun uU tT => va_P G.1 vwCl ((fun (uU : Nat × Nat) => ([(b0, .inr (3, [.ref b1, .ref b2, .ref b3, .int (nI kn), .ref b4, .int (nI ik), .ref b5, .int (nI ty), .int ra, .int rb, .int (nI uU.1), .int (nI uU.2), .ref b6, .int fl])), (b5, .inl (G.2.1, 60, .inl (arN pd)))] : va_W)) uU) tT.heap) (zIn [(b0, .inr (3, [.ref b1, .ref b2, .ref b3, .int (nI kn), .ref b4, .int (nI ik), .ref b5, .int (nI ty), .int ra, .int rb, .int (nI rd), .int (nI 0), .ref b6, .int fl])), (b5, .inl (G.2.1, 60, .inl (arN pd)))])) 0 0 (zIn [(b0, .inr (3, [.ref b1, .ref b2, .ref b3, .int (nI kn), .ref b4, .int (nI ik), .ref b5, .int (nI ty), .int ra, .int rb, .int (nI rd), .int (nI 0), .ref b6, .int fl])), (b5, .inl (G.2.1, 60, .inl (arN pd)))]) := by
  refine zM (cc := cX3_number) (maxL := 4) (ret := (some .int)) (by decide) rfl (Nat.le_of_ble_eq_true rfl) ?_
  intro pP eE sS mM below meth cC hx hb hr hts hown hlk hml hnm hK hN hP hD hS ls hl
  have hl : lv_has ls 4 [(0, .ref b0), (1, .int (nI lo)), (2, .int (nI hi))] := hl
  refine lv_aload_n hx hb dX3_number_0 rfl (lv_at hl 0 rfl) ?_
  refine lv_bipush (v := nI 48) hx hb dX3_number_1 (by decide) ?_
  refine lv_iload_n hx hb dX3_number_3 rfl (lv_at hl 1 rfl) ?_
  refine zk_add hx hb dX3_number_4 ?_
  refine lv_bipush (v := nI 57) hx hb dX3_number_5 (by decide) ?_
  refine zc_V (As := [.int (nI (48 + lo)), .int (nI 57)]) (rest := []) (ws2 := (fun (uU : Nat × Nat) => ([(b0, .inr (3, [.ref b1, .ref b2, .ref b3, .int (nI kn), .ref b4, .int (nI ik), .ref b5, .int (nI ty), .int ra, .int rb, .int (nI uU.1), .int (nI uU.2), .ref b6, .int fl])), (b5, .inl (G.2.1, 60, .inl (arN pd)))] : va_W))) ⟨hx, hb, hml, hown, hts⟩ (c_sign0 l G b0 b1 b2 b3 b4 b5 b6 kn ik ty ra rb rd fl pd (48 + lo) 57 (by omega) (by omega) (by omega) (by omega) (by omega) (by omega)) (cwV 2 hts gX3_number_X3_sign rfl rfl rfl (by decide +kernel) ⟨Nat.le_of_ble_eq_true rfl, Nat.le_of_ble_eq_true rfl⟩) hK hN hP hD hS [0, 1] rfl (by decide) (ci := 3) rfl rfl (fun _ => rfl) (fun _ => rfl) rfl hl.1 rfl (Nat.le_of_ble_eq_true rfl) dX3_number_7 ⟨Nat.zero_le _, Nat.zero_le _⟩ (fun r7 u7 H locs h7 hP hD hS => ?_)
  rcases h7 with ⟨h7_0, h7_1, h7_2, rfl, rfl⟩ | ⟨cX_7, h7_0, rfl, rfl⟩
  · have hP : va_P G.1 vwCl [(b0, .inr (3, [.ref b1, .ref b2, .ref b3, .int (nI kn), .ref b4, .int (nI ik), .ref b5, .int (nI ty), .int ra, .int rb, .int (nI (rd + 1)), .int (nI 0), .ref b6, .int fl])), (b5, .inl (G.2.1, 60, .inl (arN pd)))] H := hP
    have hD : va_D (zIn [(b0, .inr (3, [.ref b1, .ref b2, .ref b3, .int (nI kn), .ref b4, .int (nI ik), .ref b5, .int (nI ty), .int ra, .int rb, .int (nI rd), .int (nI 0), .ref b6, .int fl])), (b5, .inl (G.2.1, 60, .inl (arN pd)))]) [(b0, .inr (3, [.ref b1, .ref b2, .ref b3, .int (nI kn), .ref b4, .int (nI ik), .ref b5, .int (nI ty), .int ra, .int rb, .int (nI (rd + 1)), .int (nI 0), .ref b6, .int fl])), (b5, .inl (G.2.1, 60, .inl (arN pd)))] := hD
    refine lv_bipush (v := nI 48) hx hb dX3_number_10 (by decide) ?_
    refine zk_sub hx hb dX3_number_12 (by omega) ?_
    refine lv_istore_n (lv' := [(3, .int (nI ((pd rd) - 48))), (0, .ref b0), (1, .int (nI lo)), (2, .int (nI hi))]) hx hb dX3_number_13 rfl hl (by decide) rfl (fun ls hl => ?_)
    have lp14 : ∀ (fu14 : Nat), ∀ (vX : Nat) (pX : Nat) (H : Heap) (locs : List Loc) (ls : Array Slot), (ty - pX) < fu14 → (vX ≤ hi) → (pX ≤ ty) → (dgP pd ty hi vX pX = dgP pd ty hi (pd rd - 48) (rd + 1)) → va_P G.1 vwCl [(b0, .inr (3, [.ref b1, .ref b2, .ref b3, .int (nI kn), .ref b4, .int (nI ik), .ref b5, .int (nI ty), .int ra, .int rb, .int (nI pX), .int (nI 0), .ref b6, .int fl])), (b5, .inl (G.2.1, 60, .inl (arN pd)))] H → va_D (zIn [(b0, .inr (3, [.ref b1, .ref b2, .ref b3, .int (nI kn), .ref b4, .int (nI ik), .ref b5, .int (nI ty), .int ra, .int rb, .int (nI rd), .int (nI 0), .ref b6, .int fl])), (b5, .inl (G.2.1, 60, .inl (arN pd)))]) [(b0, .inr (3, [.ref b1, .ref b2, .ref b3, .int (nI kn), .ref b4, .int (nI ik), .ref b5, .int (nI ty), .int ra, .int rb, .int (nI pX), .int (nI 0), .ref b6, .int fl])), (b5, .inl (G.2.1, 60, .inl (arN pd)))] → va_S (zIn [(b0, .inr (3, [.ref b1, .ref b2, .ref b3, .int (nI kn), .ref b4, .int (nI ik), .ref b5, .int (nI ty), .int ra, .int rb, .int (nI rd), .int (nI 0), .ref b6, .int fl])), (b5, .inl (G.2.1, 60, .inl (arN pd)))]) sS.heap H locs → lv_has ls 4 [(0, .ref b0), (1, .int (nI lo)), (2, .int (nI hi)), (3, .int (nI vX))] → W pP l eE (headSpec wsX3_number ({ frames := 2, cells := 0, slots := 0, locals := 45 } : Room)).room sS mM ([.ref b0, .int (nI lo), .int (nI hi)] : List Value).toArray below meth cC H locs 0 0 (MQ below (va_Qi (fun (rR : Int32) (uU : Nat × Nat) => (rd < ty ∧ 48 + lo ≤ pd rd ∧ pd rd ≤ 57 ∧ rR = nI ((dgP pd ty hi (pd rd - 48) (rd + 1)).1) ∧ uU = ((dgP pd ty hi (pd rd - 48) (rd + 1)).2, 0)) ∨ (∃ (gX : Int32), ¬ (rd < ty ∧ 48 + lo ≤ pd rd ∧ pd rd ≤ 57) ∧ rR = gX ∧ uU = (rd, 1))) (fun uU tT => va_P G.1 vwCl ((fun (uU : Nat × Nat) => ([(b0, .inr (3, [.ref b1, .ref b2, .ref b3, .int (nI kn), .ref b4, .int (nI ik), .ref b5, .int (nI ty), .int ra, .int rb, .int (nI uU.1), .int (nI uU.2), .ref b6, .int fl])), (b5, .inl (G.2.1, 60, .inl (arN pd)))] : va_W)) uU) tT.heap) (zIn [(b0, .inr (3, [.ref b1, .ref b2, .ref b3, .int (nI kn), .ref b4, .int (nI ik), .ref b5, .int (nI ty), .int ra, .int rb, .int (nI rd), .int (nI 0), .ref b6, .int fl])), (b5, .inl (G.2.1, 60, .inl (arN pd)))])) ([.ref b0, .int (nI lo), .int (nI hi)] : List Value).toArray sS 0 0 (zIn [(b0, .inr (3, [.ref b1, .ref b2, .ref b3, .int (nI kn), .ref b4, .int (nI ik), .ref b5, .int (nI ty), .int ra, .int rb, .int (nI rd), .int (nI 0), .ref b6, .int fl])), (b5, .inl (G.2.1, 60, .inl (arN pd)))])) (F0 mM 14 ls []) := by
      intro fu14
      induction fu14 with
      | zero => intro vX pX H locs ls hfu14; exact absurd hfu14 (Nat.not_lt_zero _)
      | succ fu14 ih14 =>
        intro vX pX H locs ls hfu14 hv hp hdg hP hD hS hl
        refine lv_iload_n hx hb dX3_number_14 rfl (lv_at hl 3 rfl) ?_
        refine zk_zle (tgt := 70) hx hb dX3_number_15 (by decide) (by omega) (fun c15 => ?_) (fun c15 => ?_)
        · refine lv_iload_n hx hb dX3_number_70 rfl (lv_at hl 3 rfl) ?_
          exact W.iret (v := nI vX) hx hb hr (fun tT ht hW => ⟨⟨_, (pX, 0), rfl, Or.inl ⟨h7_0, h7_1, h7_2, by rw [← hdg, dgP_n (fun q => absurd q.2.2 (by omega))], by rw [← hdg, dgP_n (fun q => absurd q.2.2 (by omega))]⟩, by show va_P G.1 vwCl _ tT.heap; rw [ht]; exact hP⟩, hS.F ht⟩) hS.2.2 dX3_number_71
        · refine lv_aload_n hx hb dX3_number_18 rfl (lv_at hl 0 rfl) ?_
          refine lv_bipush (v := nI 48) hx hb dX3_number_19 (by decide) ?_
          refine lv_bipush (v := nI 57) hx hb dX3_number_21 (by decide) ?_
          refine zc_R (As := [.int (nI 48), .int (nI 57)]) (rest := []) ⟨hx, hb, hml, hown, hts⟩ (c_isNext0 l G b0 b1 b2 b3 b4 b5 b6 kn ik ty ra rb pX fl pd 48 57 (by omega) (by omega) (by omega) (by omega) (by omega) (by omega)) (cwV 2 hts gX3_number_X3_isNext rfl rfl rfl (by decide +kernel) ⟨Nat.le_of_ble_eq_true rfl, Nat.le_of_ble_eq_true rfl⟩) hK hN hP hD [0, 1] rfl (by decide) (ci := 3) rfl rfl rfl hl.1 rfl (Nat.le_of_ble_eq_true rfl) dX3_number_23 ⟨Nat.zero_le _, Nat.zero_le _⟩ (fun r23 h23 => ?_)
          rcases h23 with ⟨h23_0, h23_1, h23_2, rfl⟩ | ⟨h23_0, rfl⟩
          · refine lv_if_eq (tgt := 70) hx hb dX3_number_26 (by decide) (fun q => absurd q (by decide)) (fun _ => ?_)
            refine lv_bipush (v := nI 10) hx hb dX3_number_29 (by decide) ?_
            refine lv_iload_n hx hb dX3_number_31 rfl (lv_at hl 3 rfl) ?_
            refine zk_mul hx hb dX3_number_32 ?_
            refine lv_aload_n hx hb dX3_number_33 rfl (lv_at hl 0 rfl) ?_
            have hpr := hpd pX
            refine va_get (D := G.1) (ci := 3) (v := .ref b5) (C := RX3) (T := TX3) (N := 14) hx hb hts mic_number0_3 hown hK hP 0 rfl rfl 6 (by decide) (hts _ mwc_number0_0) (fun _ h9 => h9) rfl dX3_number_34 ?_
            refine lv_aload_n hx hb dX3_number_37 rfl (lv_at hl 0 rfl) ?_
            refine va_get (D := G.1) (ci := 3) (v := .int (nI pX)) (C := RX3) (T := TX3) (N := 14) hx hb hts mic_number0_3 hown hK hP 0 rfl rfl 10 (by decide) (hts _ mwc_number0_2) (fun _ h9 => h9) rfl dX3_number_38 ?_
            refine zk_ald (f := pd) (k := pX) hx hb hK hP 1 0 rfl rfl (Nat.le_of_ble_eq_true rfl) (by omega) dX3_number_41 ?_
            refine zk_add hx hb dX3_number_42 ?_
            refine lv_bipush (v := nI 48) hx hb dX3_number_43 (by decide) ?_
            refine zk_sub hx hb dX3_number_45 (by omega) ?_
            refine lv_iload_n hx hb dX3_number_46 rfl (lv_at hl 2 rfl) ?_
            refine zk_igt (tgt := 70) hx hb dX3_number_47 (by decide) (by omega) (by omega) (fun c47 => ?_) (fun c47 => ?_)
            · refine lv_iload_n hx hb dX3_number_70 rfl (lv_at hl 3 rfl) ?_
              exact W.iret (v := nI vX) hx hb hr (fun tT ht hW => ⟨⟨_, (pX, 0), rfl, Or.inl ⟨h7_0, h7_1, h7_2, by rw [← hdg, dgP_n (fun q => absurd q.1 (by omega))], by rw [← hdg, dgP_n (fun q => absurd q.1 (by omega))]⟩, by show va_P G.1 vwCl _ tT.heap; rw [ht]; exact hP⟩, hS.F ht⟩) hS.2.2 dX3_number_71
            · refine lv_bipush (v := nI 10) hx hb dX3_number_50 (by decide) ?_
              refine lv_iload_n hx hb dX3_number_52 rfl (lv_at hl 3 rfl) ?_
              refine zk_mul hx hb dX3_number_53 ?_
              refine lv_aload_n hx hb dX3_number_54 rfl (lv_at hl 0 rfl) ?_
              refine lv_bipush (v := nI 48) hx hb dX3_number_55 (by decide) ?_
              refine lv_bipush (v := nI 57) hx hb dX3_number_57 (by decide) ?_
              refine zc_V (As := [.int (nI 48), .int (nI 57)]) (rest := [.int (nI (10 * vX))]) (ws2 := (fun (uU : Nat × Nat) => ([(b0, .inr (3, [.ref b1, .ref b2, .ref b3, .int (nI kn), .ref b4, .int (nI ik), .ref b5, .int (nI ty), .int ra, .int rb, .int (nI uU.1), .int (nI uU.2), .ref b6, .int fl])), (b5, .inl (G.2.1, 60, .inl (arN pd)))] : va_W))) ⟨hx, hb, hml, hown, hts⟩ (c_sign0 l G b0 b1 b2 b3 b4 b5 b6 kn ik ty ra rb pX fl pd 48 57 (by omega) (by omega) (by omega) (by omega) (by omega) (by omega)) (cwV 2 hts gX3_number_X3_sign rfl rfl rfl (by decide +kernel) ⟨Nat.le_of_ble_eq_true rfl, Nat.le_of_ble_eq_true rfl⟩) hK hN hP hD hS [0, 1] rfl (by decide) (ci := 3) rfl rfl (fun _ => rfl) (fun _ => rfl) rfl hl.1 rfl (Nat.le_of_ble_eq_true rfl) dX3_number_59 ⟨Nat.zero_le _, Nat.zero_le _⟩ (fun r59 u59 H locs h59 hP hD hS => ?_)
              rcases h59 with ⟨h59_0, h59_1, h59_2, rfl, rfl⟩ | ⟨cX_59, h59_0, rfl, rfl⟩
              · have hP : va_P G.1 vwCl [(b0, .inr (3, [.ref b1, .ref b2, .ref b3, .int (nI kn), .ref b4, .int (nI ik), .ref b5, .int (nI ty), .int ra, .int rb, .int (nI (pX + 1)), .int (nI 0), .ref b6, .int fl])), (b5, .inl (G.2.1, 60, .inl (arN pd)))] H := hP
                have hD : va_D (zIn [(b0, .inr (3, [.ref b1, .ref b2, .ref b3, .int (nI kn), .ref b4, .int (nI ik), .ref b5, .int (nI ty), .int ra, .int rb, .int (nI rd), .int (nI 0), .ref b6, .int fl])), (b5, .inl (G.2.1, 60, .inl (arN pd)))]) [(b0, .inr (3, [.ref b1, .ref b2, .ref b3, .int (nI kn), .ref b4, .int (nI ik), .ref b5, .int (nI ty), .int ra, .int rb, .int (nI (pX + 1)), .int (nI 0), .ref b6, .int fl])), (b5, .inl (G.2.1, 60, .inl (arN pd)))] := hD
                refine zk_add hx hb dX3_number_62 ?_
                refine lv_bipush (v := nI 48) hx hb dX3_number_63 (by decide) ?_
                refine zk_sub hx hb dX3_number_65 (by omega) ?_
                refine lv_istore_n (lv' := [(3, .int (nI (((10 * vX) + (pd pX)) - 48))), (0, .ref b0), (1, .int (nI lo)), (2, .int (nI hi))]) hx hb dX3_number_66 rfl hl (by decide) rfl (fun ls hl => ?_)
                refine lv_goto (tgt := 14) hx hb dX3_number_67 (by decide) ?_
                exact ih14 (((10 * vX) + (pd pX)) - 48) (pX + 1) _ _ _ (by omega) (by omega) (by omega) (by rw [← hdg]; exact (dgP_y ⟨c15, ⟨h23_0, h23_1, h23_2⟩, c47⟩).symm) hP hD hS (lv_sub hl [1, 2, 3, 0] rfl)
              · have hP : va_P G.1 vwCl [(b0, .inr (3, [.ref b1, .ref b2, .ref b3, .int (nI kn), .ref b4, .int (nI ik), .ref b5, .int (nI ty), .int ra, .int rb, .int (nI pX), .int (nI 1), .ref b6, .int fl])), (b5, .inl (G.2.1, 60, .inl (arN pd)))] H := hP
                have hD : va_D (zIn [(b0, .inr (3, [.ref b1, .ref b2, .ref b3, .int (nI kn), .ref b4, .int (nI ik), .ref b5, .int (nI ty), .int ra, .int rb, .int (nI rd), .int (nI 0), .ref b6, .int fl])), (b5, .inl (G.2.1, 60, .inl (arN pd)))]) [(b0, .inr (3, [.ref b1, .ref b2, .ref b3, .int (nI kn), .ref b4, .int (nI ik), .ref b5, .int (nI ty), .int ra, .int rb, .int (nI pX), .int (nI 1), .ref b6, .int fl])), (b5, .inl (G.2.1, 60, .inl (arN pd)))] := hD
                exact absurd ⟨h23_0, h23_1, h23_2⟩ h59_0
          · refine lv_if_eq (tgt := 70) hx hb dX3_number_26 (by decide) (fun _ => ?_) (fun q => absurd (by decide) q)
            refine lv_iload_n hx hb dX3_number_70 rfl (lv_at hl 3 rfl) ?_
            exact W.iret (v := nI vX) hx hb hr (fun tT ht hW => ⟨⟨_, (pX, 0), rfl, Or.inl ⟨h7_0, h7_1, h7_2, by rw [← hdg, dgP_n (fun q => absurd q.1 (by omega))], by rw [← hdg, dgP_n (fun q => absurd q.1 (by omega))]⟩, by show va_P G.1 vwCl _ tT.heap; rw [ht]; exact hP⟩, hS.F ht⟩) hS.2.2 dX3_number_71
    exact lp14 _ ((pd rd) - 48) (rd + 1) _ _ _ (Nat.lt_succ_self _) (by omega) (by omega) rfl hP hD hS (lv_sub hl [1, 2, 3, 0] rfl)
  · have hP : va_P G.1 vwCl [(b0, .inr (3, [.ref b1, .ref b2, .ref b3, .int (nI kn), .ref b4, .int (nI ik), .ref b5, .int (nI ty), .int ra, .int rb, .int (nI rd), .int (nI 1), .ref b6, .int fl])), (b5, .inl (G.2.1, 60, .inl (arN pd)))] H := hP
    have hD : va_D (zIn [(b0, .inr (3, [.ref b1, .ref b2, .ref b3, .int (nI kn), .ref b4, .int (nI ik), .ref b5, .int (nI ty), .int ra, .int rb, .int (nI rd), .int (nI 0), .ref b6, .int fl])), (b5, .inl (G.2.1, 60, .inl (arN pd)))]) [(b0, .inr (3, [.ref b1, .ref b2, .ref b3, .int (nI kn), .ref b4, .int (nI ik), .ref b5, .int (nI ty), .int ra, .int rb, .int (nI rd), .int (nI 1), .ref b6, .int fl])), (b5, .inl (G.2.1, 60, .inl (arN pd)))] := hD
    refine lv_bipush (v := nI 48) hx hb dX3_number_10 (by decide) ?_
    refine lv_isub hx hb dX3_number_12 ?_
    refine lv_istore_n (lv' := [(3, .int ((nI cX_7) - (nI 48))), (0, .ref b0), (1, .int (nI lo)), (2, .int (nI hi))]) hx hb dX3_number_13 rfl hl (by decide) rfl (fun ls hl => ?_)
    refine lv_iload_n hx hb dX3_number_14 rfl (lv_at hl 0 rfl) ?_
    refine lv_if_le (tgt := 70) hx hb dX3_number_15 (by decide) (fun c15 => ?_) (fun c15 => ?_)
    · refine lv_iload_n hx hb dX3_number_70 rfl (lv_at hl 0 rfl) ?_
      exact W.iret (v := (nI cX_7) - (nI 48)) hx hb hr (fun tT ht hW => ⟨⟨_, (rd, 1), rfl, Or.inr ⟨_, h7_0, rfl, rfl⟩, by show va_P G.1 vwCl _ tT.heap; rw [ht]; exact hP⟩, hS.F ht⟩) hS.2.2 dX3_number_71
    · refine lv_aload_n hx hb dX3_number_18 rfl (lv_at hl 1 rfl) ?_
      refine lv_bipush (v := nI 48) hx hb dX3_number_19 (by decide) ?_
      refine lv_bipush (v := nI 57) hx hb dX3_number_21 (by decide) ?_
      refine zc_R (As := [.int (nI 48), .int (nI 57)]) (rest := []) ⟨hx, hb, hml, hown, hts⟩ (c_isNext1 l G b0 b1 b2 b3 b4 b5 b6 kn ik ty ra rb rd fl pd 48 57 ) (cwV 2 hts gX3_number_X3_isNext rfl rfl rfl (by decide +kernel) ⟨Nat.le_of_ble_eq_true rfl, Nat.le_of_ble_eq_true rfl⟩) hK hN hP hD [0, 1] rfl (by decide) (ci := 3) rfl rfl rfl hl.1 rfl (Nat.le_of_ble_eq_true rfl) dX3_number_23 ⟨Nat.zero_le _, Nat.zero_le _⟩ (fun r23 h23 => ?_)
      subst h23
      refine lv_if_eq (tgt := 70) hx hb dX3_number_26 (by decide) (fun _ => ?_) (fun q => absurd (by decide) q)
      refine lv_iload_n hx hb dX3_number_70 rfl (lv_at hl 0 rfl) ?_
      exact W.iret (v := (nI cX_7) - (nI 48)) hx hb hr (fun tT ht hW => ⟨⟨_, (rd, 1), rfl, Or.inr ⟨_, h7_0, rfl, rfl⟩, by show va_P G.1 vwCl _ tT.heap; rw [ht]; exact hP⟩, hS.F ht⟩) hS.2.2 dX3_number_71
set_option maxHeartbeats 4000000 in
set_option maxRecDepth 100000 in
/-- X3_number: the same where something is wrong -/
theorem c_number1 (l : Launch) (G : zG) (b0 : Nat) (b1 : Nat) (b2 : Nat) (b3 : Nat) (b4 : Nat) (b5 : Nat) (b6 : Nat) (kn : Nat) (ik : Nat) (ty : Nat) (ra : Int32) (rb : Int32) (rd : Nat) (fl : Int32) (pd : Nat → Nat) (lo : Nat) (hi : Nat) (hty : ty ≤ 60) (hrd : rd ≤ ty) (hpd : ∀ j : Nat, pd j < 65536) : Met l yX3_number wsX3_number ({ frames := 2, cells := 0, slots := 0, locals := 45 } : Room) (zPc G [.ref b0, .int (nI lo), .int (nI hi)] [(b0, .inr (3, [.ref b1, .ref b2, .ref b3, .int (nI kn), .ref b4, .int (nI ik), .ref b5, .int (nI ty), .int ra, .int rb, .int (nI rd), .int (nI 1), .ref b6, .int fl])), (b5, .inl (G.2.1, 60, .inl (arN pd)))]) (va_Qi (fun (rR : Int32) (uU : Nat × Nat) => ∃ (gX : Int32), rR = gX ∧ uU = (rd, 1)) (fun uU tT => va_P G.1 vwCl ((fun (uU : Nat × Nat) => ([(b0, .inr (3, [.ref b1, .ref b2, .ref b3, .int (nI kn), .ref b4, .int (nI ik), .ref b5, .int (nI ty), .int ra, .int rb, .int (nI uU.1), .int (nI uU.2), .ref b6, .int fl])), (b5, .inl (G.2.1, 60, .inl (arN pd)))] : va_W)) uU) tT.heap) (zIn [(b0, .inr (3, [.ref b1, .ref b2, .ref b3, .int (nI kn), .ref b4, .int (nI ik), .ref b5, .int (nI ty), .int ra, .int rb, .int (nI rd), .int (nI 1), .ref b6, .int fl])), (b5, .inl (G.2.1, 60, .inl (arN pd)))])) 0 0 (zIn [(b0, .inr (3, [.ref b1, .ref b2, .ref b3, .int (nI kn), .ref b4, .int (nI ik), .ref b5, .int (nI ty), .int ra, .int rb, .int (nI rd), .int (nI 1), .ref b6, .int fl])), (b5, .inl (G.2.1, 60, .inl (arN pd)))]) := by
  refine zM (cc := cX3_number) (maxL := 4) (ret := (some .int)) (by decide) rfl (Nat.le_of_ble_eq_true rfl) ?_
  intro pP eE sS mM below meth cC hx hb hr hts hown hlk hml hnm hK hN hP hD hS ls hl
  have hl : lv_has ls 4 [(0, .ref b0), (1, .int (nI lo)), (2, .int (nI hi))] := hl
  refine lv_aload_n hx hb dX3_number_0 rfl (lv_at hl 0 rfl) ?_
  refine lv_bipush (v := nI 48) hx hb dX3_number_1 (by decide) ?_
  refine lv_iload_n hx hb dX3_number_3 rfl (lv_at hl 1 rfl) ?_
  refine zk_add hx hb dX3_number_4 ?_
  refine lv_bipush (v := nI 57) hx hb dX3_number_5 (by decide) ?_
  refine zc_V (As := [.int (nI (48 + lo)), .int (nI 57)]) (rest := []) (ws2 := (fun (uU : Nat × Nat) => ([(b0, .inr (3, [.ref b1, .ref b2, .ref b3, .int (nI kn), .ref b4, .int (nI ik), .ref b5, .int (nI ty), .int ra, .int rb, .int (nI uU.1), .int (nI uU.2), .ref b6, .int fl])), (b5, .inl (G.2.1, 60, .inl (arN pd)))] : va_W))) ⟨hx, hb, hml, hown, hts⟩ (c_sign1 l G b0 b1 b2 b3 b4 b5 b6 kn ik ty ra rb rd fl pd (48 + lo) 57 (by omega) (by omega) (by omega)) (cwV 2 hts gX3_number_X3_sign rfl rfl rfl (by decide +kernel) ⟨Nat.le_of_ble_eq_true rfl, Nat.le_of_ble_eq_true rfl⟩) hK hN hP hD hS [0, 1] rfl (by decide) (ci := 3) rfl rfl (fun _ => rfl) (fun _ => rfl) rfl hl.1 rfl (Nat.le_of_ble_eq_true rfl) dX3_number_7 ⟨Nat.zero_le _, Nat.zero_le _⟩ (fun r7 u7 H locs h7 hP hD hS => ?_)
  obtain ⟨cX_7, rfl, rfl⟩ := h7
  have hP : va_P G.1 vwCl [(b0, .inr (3, [.ref b1, .ref b2, .ref b3, .int (nI kn), .ref b4, .int (nI ik), .ref b5, .int (nI ty), .int ra, .int rb, .int (nI rd), .int (nI 1), .ref b6, .int fl])), (b5, .inl (G.2.1, 60, .inl (arN pd)))] H := hP
  have hD : va_D (zIn [(b0, .inr (3, [.ref b1, .ref b2, .ref b3, .int (nI kn), .ref b4, .int (nI ik), .ref b5, .int (nI ty), .int ra, .int rb, .int (nI rd), .int (nI 1), .ref b6, .int fl])), (b5, .inl (G.2.1, 60, .inl (arN pd)))]) [(b0, .inr (3, [.ref b1, .ref b2, .ref b3, .int (nI kn), .ref b4, .int (nI ik), .ref b5, .int (nI ty), .int ra, .int rb, .int (nI rd), .int (nI 1), .ref b6, .int fl])), (b5, .inl (G.2.1, 60, .inl (arN pd)))] := hD
  refine lv_bipush (v := nI 48) hx hb dX3_number_10 (by decide) ?_
  refine lv_isub hx hb dX3_number_12 ?_
  refine lv_istore_n (lv' := [(3, .int ((nI cX_7) - (nI 48))), (0, .ref b0), (1, .int (nI lo)), (2, .int (nI hi))]) hx hb dX3_number_13 rfl hl (by decide) rfl (fun ls hl => ?_)
  refine lv_iload_n hx hb dX3_number_14 rfl (lv_at hl 0 rfl) ?_
  refine lv_if_le (tgt := 70) hx hb dX3_number_15 (by decide) (fun c15 => ?_) (fun c15 => ?_)
  · refine lv_iload_n hx hb dX3_number_70 rfl (lv_at hl 0 rfl) ?_
    exact W.iret (v := (nI cX_7) - (nI 48)) hx hb hr (fun tT ht hW => ⟨⟨_, (rd, 1), rfl, ⟨_, rfl, rfl⟩, by show va_P G.1 vwCl _ tT.heap; rw [ht]; exact hP⟩, hS.F ht⟩) hS.2.2 dX3_number_71
  · refine lv_aload_n hx hb dX3_number_18 rfl (lv_at hl 1 rfl) ?_
    refine lv_bipush (v := nI 48) hx hb dX3_number_19 (by decide) ?_
    refine lv_bipush (v := nI 57) hx hb dX3_number_21 (by decide) ?_
    refine zc_R (As := [.int (nI 48), .int (nI 57)]) (rest := []) ⟨hx, hb, hml, hown, hts⟩ (c_isNext1 l G b0 b1 b2 b3 b4 b5 b6 kn ik ty ra rb rd fl pd 48 57 ) (cwV 2 hts gX3_number_X3_isNext rfl rfl rfl (by decide +kernel) ⟨Nat.le_of_ble_eq_true rfl, Nat.le_of_ble_eq_true rfl⟩) hK hN hP hD [0, 1] rfl (by decide) (ci := 3) rfl rfl rfl hl.1 rfl (Nat.le_of_ble_eq_true rfl) dX3_number_23 ⟨Nat.zero_le _, Nat.zero_le _⟩ (fun r23 h23 => ?_)
    subst h23
    refine lv_if_eq (tgt := 70) hx hb dX3_number_26 (by decide) (fun _ => ?_) (fun q => absurd (by decide) q)
    refine lv_iload_n hx hb dX3_number_70 rfl (lv_at hl 0 rfl) ?_
    exact W.iret (v := (nI cX_7) - (nI 48)) hx hb hr (fun tT ht hW => ⟨⟨_, (rd, 1), rfl, ⟨_, rfl, rfl⟩, by show va_P G.1 vwCl _ tT.heap; rw [ht]; exact hP⟩, hS.F ht⟩) hS.2.2 dX3_number_71
set_option maxHeartbeats 4000000 in
set_option maxRecDepth 100000 in
/-- X3_letters: letters -/
theorem c_letters0 (l : Launch) (G : zG) (b0 : Nat) (b1 : Nat) (b2 : Nat) (b3 : Nat) (b4 : Nat) (b5 : Nat) (b6 : Nat) (kn : Nat) (ik : Nat) (ty : Nat) (ra : Int32) (rb : Int32) (rd : Nat) (fl : Int32) (pd : Nat → Nat) (hty : ty ≤ 60) (hrd : rd ≤ ty) (hpd : ∀ j : Nat, pd j < 65536) : Met l yX3_letters wsX3_letters ({ frames := 2, cells := 0, slots := 0, locals := 45 } : Room) (zPc G [.ref b0] [(b0, .inr (3, [.ref b1, .ref b2, .ref b3, .int (nI kn), .ref b4, .int (nI ik), .ref b5, .int (nI ty), .int ra, .int rb, .int (nI rd), .int (nI 0), .ref b6, .int fl])), (b5, .inl (G.2.1, 60, .inl (arN pd)))]) (va_Qi (fun (rR : Int32) (uU : Nat × Nat) => rR = nI ((ltP pd ty 0 97 rd).1) ∧ uU = ((ltP pd ty 0 97 rd).2, 0)) (fun uU tT => va_P G.1 vwCl ((fun (uU : Nat × Nat) => ([(b0, .inr (3, [.ref b1, .ref b2, .ref b3, .int (nI kn), .ref b4, .int (nI ik), .ref b5, .int (nI ty), .int ra, .int rb, .int (nI uU.1), .int (nI uU.2), .ref b6, .int fl])), (b5, .inl (G.2.1, 60, .inl (arN pd)))] : va_W)) uU) tT.heap) (zIn [(b0, .inr (3, [.ref b1, .ref b2, .ref b3, .int (nI kn), .ref b4, .int (nI ik), .ref b5, .int (nI ty), .int ra, .int rb, .int (nI rd), .int (nI 0), .ref b6, .int fl])), (b5, .inl (G.2.1, 60, .inl (arN pd)))])) 0 0 (zIn [(b0, .inr (3, [.ref b1, .ref b2, .ref b3, .int (nI kn), .ref b4, .int (nI ik), .ref b5, .int (nI ty), .int ra, .int rb, .int (nI rd), .int (nI 0), .ref b6, .int fl])), (b5, .inl (G.2.1, 60, .inl (arN pd)))]) := by
  refine zM (cc := cX3_letters) (maxL := 4) (ret := (some .int)) (by decide) rfl (Nat.le_of_ble_eq_true rfl) ?_
  intro pP eE sS mM below meth cC hx hb hr hts hown hlk hml hnm hK hN hP hD hS ls hl
  have hl : lv_has ls 4 [(0, .ref b0)] := hl
  refine lv_iconst (v := nI 0) hx hb dX3_letters_0 (by decide) ?_
  refine lv_istore_n (lv' := [(1, .int (nI 0)), (0, .ref b0)]) hx hb dX3_letters_1 rfl hl (by decide) rfl (fun ls hl => ?_)
  refine lv_bipush (v := nI 97) hx hb dX3_letters_2 (by decide) ?_
  refine lv_istore_n (lv' := [(2, .int (nI 97)), (1, .int (nI 0)), (0, .ref b0)]) hx hb dX3_letters_4 rfl hl (by decide) rfl (fun ls hl => ?_)
  have lp5 : ∀ (fu5 : Nat), ∀ (aX : Nat) (xX : Nat) (pX : Nat) (H : Heap) (locs : List Loc) (ls : Array Slot), (ty - pX) < fu5 → (aX ≤ 65535) → (97 ≤ xX) → (xX ≤ 113) → (pX ≤ ty) → (ltP pd ty aX xX pX = ltP pd ty 0 97 rd) → va_P G.1 vwCl [(b0, .inr (3, [.ref b1, .ref b2, .ref b3, .int (nI kn), .ref b4, .int (nI ik), .ref b5, .int (nI ty), .int ra, .int rb, .int (nI pX), .int (nI 0), .ref b6, .int fl])), (b5, .inl (G.2.1, 60, .inl (arN pd)))] H → va_D (zIn [(b0, .inr (3, [.ref b1, .ref b2, .ref b3, .int (nI kn), .ref b4, .int (nI ik), .ref b5, .int (nI ty), .int ra, .int rb, .int (nI rd), .int (nI 0), .ref b6, .int fl])), (b5, .inl (G.2.1, 60, .inl (arN pd)))]) [(b0, .inr (3, [.ref b1, .ref b2, .ref b3, .int (nI kn), .ref b4, .int (nI ik), .ref b5, .int (nI ty), .int ra, .int rb, .int (nI pX), .int (nI 0), .ref b6, .int fl])), (b5, .inl (G.2.1, 60, .inl (arN pd)))] → va_S (zIn [(b0, .inr (3, [.ref b1, .ref b2, .ref b3, .int (nI kn), .ref b4, .int (nI ik), .ref b5, .int (nI ty), .int ra, .int rb, .int (nI rd), .int (nI 0), .ref b6, .int fl])), (b5, .inl (G.2.1, 60, .inl (arN pd)))]) sS.heap H locs → lv_has ls 4 [(0, .ref b0), (1, .int (nI aX)), (2, .int (nI xX))] → W pP l eE (headSpec wsX3_letters ({ frames := 2, cells := 0, slots := 0, locals := 45 } : Room)).room sS mM ([.ref b0] : List Value).toArray below meth cC H locs 0 0 (MQ below (va_Qi (fun (rR : Int32) (uU : Nat × Nat) => rR = nI ((ltP pd ty 0 97 rd).1) ∧ uU = ((ltP pd ty 0 97 rd).2, 0)) (fun uU tT => va_P G.1 vwCl ((fun (uU : Nat × Nat) => ([(b0, .inr (3, [.ref b1, .ref b2, .ref b3, .int (nI kn), .ref b4, .int (nI ik), .ref b5, .int (nI ty), .int ra, .int rb, .int (nI uU.1), .int (nI uU.2), .ref b6, .int fl])), (b5, .inl (G.2.1, 60, .inl (arN pd)))] : va_W)) uU) tT.heap) (zIn [(b0, .inr (3, [.ref b1, .ref b2, .ref b3, .int (nI kn), .ref b4, .int (nI ik), .ref b5, .int (nI ty), .int ra, .int rb, .int (nI rd), .int (nI 0), .ref b6, .int fl])), (b5, .inl (G.2.1, 60, .inl (arN pd)))])) ([.ref b0] : List Value).toArray sS 0 0 (zIn [(b0, .inr (3, [.ref b1, .ref b2, .ref b3, .int (nI kn), .ref b4, .int (nI ik), .ref b5, .int (nI ty), .int ra, .int rb, .int (nI rd), .int (nI 0), .ref b6, .int fl])), (b5, .inl (G.2.1, 60, .inl (arN pd)))])) (F0 mM 5 ls []) := by
    intro fu5
    induction fu5 with
    | zero => intro aX xX pX H locs ls hfu5; exact absurd hfu5 (Nat.not_lt_zero _)
    | succ fu5 ih5 =>
      intro aX xX pX H locs ls hfu5 ha hx1 hx2 hp hlt hP hD hS hl
      refine lv_aload_n hx hb dX3_letters_5 rfl (lv_at hl 0 rfl) ?_
      refine lv_iload_n hx hb dX3_letters_6 rfl (lv_at hl 2 rfl) ?_
      refine lv_bipush (v := nI 112) hx hb dX3_letters_7 (by decide) ?_
      refine zc_R (As := [.int (nI xX), .int (nI 112)]) (rest := []) ⟨hx, hb, hml, hown, hts⟩ (c_isNext0 l G b0 b1 b2 b3 b4 b5 b6 kn ik ty ra rb pX fl pd xX 112 (by omega) (by omega) (by omega) (by omega) (by omega) (by omega)) (cwV 2 hts gX3_letters_X3_isNext rfl rfl rfl (by decide +kernel) ⟨Nat.le_of_ble_eq_true rfl, Nat.le_of_ble_eq_true rfl⟩) hK hN hP hD [0, 1] rfl (by decide) (ci := 3) rfl rfl rfl hl.1 rfl (Nat.le_of_ble_eq_true rfl) dX3_letters_9 ⟨Nat.zero_le _, Nat.zero_le _⟩ (fun r9 h9 => ?_)
      rcases h9 with ⟨h9_0, h9_1, h9_2, rfl⟩ | ⟨h9_0, rfl⟩
      · refine lv_if_eq (tgt := 39) hx hb dX3_letters_12 (by decide) (fun q => absurd q (by decide)) (fun _ => ?_)
        refine lv_aload_n hx hb dX3_letters_15 rfl (lv_at hl 0 rfl) ?_
        refine lv_iload_n hx hb dX3_letters_16 rfl (lv_at hl 2 rfl) ?_
        refine lv_bipush (v := nI 112) hx hb dX3_letters_17 (by decide) ?_
        refine zc_V (As := [.int (nI xX), .int (nI 112)]) (rest := []) (ws2 := (fun (uU : Nat × Nat) => ([(b0, .inr (3, [.ref b1, .ref b2, .ref b3, .int (nI kn), .ref b4, .int (nI ik), .ref b5, .int (nI ty), .int ra, .int rb, .int (nI uU.1), .int (nI uU.2), .ref b6, .int fl])), (b5, .inl (G.2.1, 60, .inl (arN pd)))] : va_W))) ⟨hx, hb, hml, hown, hts⟩ (c_sign0 l G b0 b1 b2 b3 b4 b5 b6 kn ik ty ra rb pX fl pd xX 112 (by omega) (by omega) (by omega) (by omega) (by omega) (by omega)) (cwV 2 hts gX3_letters_X3_sign rfl rfl rfl (by decide +kernel) ⟨Nat.le_of_ble_eq_true rfl, Nat.le_of_ble_eq_true rfl⟩) hK hN hP hD hS [0, 1] rfl (by decide) (ci := 3) rfl rfl (fun _ => rfl) (fun _ => rfl) rfl hl.1 rfl (Nat.le_of_ble_eq_true rfl) dX3_letters_19 ⟨Nat.zero_le _, Nat.zero_le _⟩ (fun r19 u19 H locs h19 hP hD hS => ?_)
        rcases h19 with ⟨h19_0, h19_1, h19_2, rfl, rfl⟩ | ⟨cX_19, h19_0, rfl, rfl⟩
        · have hP : va_P G.1 vwCl [(b0, .inr (3, [.ref b1, .ref b2, .ref b3, .int (nI kn), .ref b4, .int (nI ik), .ref b5, .int (nI ty), .int ra, .int rb, .int (nI (pX + 1)), .int (nI 0), .ref b6, .int fl])), (b5, .inl (G.2.1, 60, .inl (arN pd)))] H := hP
          have hD : va_D (zIn [(b0, .inr (3, [.ref b1, .ref b2, .ref b3, .int (nI kn), .ref b4, .int (nI ik), .ref b5, .int (nI ty), .int ra, .int rb, .int (nI rd), .int (nI 0), .ref b6, .int fl])), (b5, .inl (G.2.1, 60, .inl (arN pd)))]) [(b0, .inr (3, [.ref b1, .ref b2, .ref b3, .int (nI kn), .ref b4, .int (nI ik), .ref b5, .int (nI ty), .int ra, .int rb, .int (nI (pX + 1)), .int (nI 0), .ref b6, .int fl])), (b5, .inl (G.2.1, 60, .inl (arN pd)))] := hD
          refine lv_istore_n (lv' := [(3, .int (nI (pd pX))), (0, .ref b0), (1, .int (nI aX)), (2, .int (nI xX))]) hx hb dX3_letters_22 rfl hl (by decide) rfl (fun ls hl => ?_)
          refine lv_iload_n hx hb dX3_letters_23 rfl (lv_at hl 2 rfl) ?_
          refine lv_iconst (v := nI 1) hx hb dX3_letters_24 (by decide) ?_
          refine lv_iload_n hx hb dX3_letters_25 rfl (lv_at hl 0 rfl) ?_
          refine lv_bipush (v := nI 97) hx hb dX3_letters_26 (by decide) ?_
          refine zk_sub hx hb dX3_letters_28 (by omega) ?_
          refine lv_ishl hx hb dX3_letters_29 ?_
          refine zk_top (y := nI (2 ^ (pd pX - 97))) (zA_shl1 _ (by omega)) ?_
          refine zk_or hx hb dX3_letters_30 ?_
          refine lv_istore_n (lv' := [(1, .int (nI (aX ||| (2 ^ (pd pX - 97))))), (3, .int (nI (pd pX))), (0, .ref b0), (2, .int (nI xX))]) hx hb dX3_letters_31 rfl hl (by decide) rfl (fun ls hl => ?_)
          refine lv_iload_n hx hb dX3_letters_32 rfl (lv_at hl 1 rfl) ?_
          refine lv_iconst (v := nI 1) hx hb dX3_letters_33 (by decide) ?_
          refine zk_add hx hb dX3_letters_34 ?_
          refine lv_istore_n (lv' := [(2, .int (nI ((pd pX) + 1))), (1, .int (nI (aX ||| (2 ^ (pd pX - 97))))), (3, .int (nI (pd pX))), (0, .ref b0)]) hx hb dX3_letters_35 rfl hl (by decide) rfl (fun ls hl => ?_)
          refine lv_goto (tgt := 5) hx hb dX3_letters_36 (by decide) ?_
          exact ih5 (aX ||| (2 ^ (pd pX - 97))) ((pd pX) + 1) (pX + 1) _ _ _ (by omega) (or_le ha (pow_le16 (by omega))) (by omega) (by omega) (by omega) (by rw [← hlt]; exact (ltP_y ⟨h9_0, h9_1, h9_2⟩).symm) hP hD hS (lv_sub hl [3, 1, 0] rfl)
        · have hP : va_P G.1 vwCl [(b0, .inr (3, [.ref b1, .ref b2, .ref b3, .int (nI kn), .ref b4, .int (nI ik), .ref b5, .int (nI ty), .int ra, .int rb, .int (nI pX), .int (nI 1), .ref b6, .int fl])), (b5, .inl (G.2.1, 60, .inl (arN pd)))] H := hP
          have hD : va_D (zIn [(b0, .inr (3, [.ref b1, .ref b2, .ref b3, .int (nI kn), .ref b4, .int (nI ik), .ref b5, .int (nI ty), .int ra, .int rb, .int (nI rd), .int (nI 0), .ref b6, .int fl])), (b5, .inl (G.2.1, 60, .inl (arN pd)))]) [(b0, .inr (3, [.ref b1, .ref b2, .ref b3, .int (nI kn), .ref b4, .int (nI ik), .ref b5, .int (nI ty), .int ra, .int rb, .int (nI pX), .int (nI 1), .ref b6, .int fl])), (b5, .inl (G.2.1, 60, .inl (arN pd)))] := hD
          exact absurd ⟨h9_0, h9_1, h9_2⟩ h19_0
      · refine lv_if_eq (tgt := 39) hx hb dX3_letters_12 (by decide) (fun _ => ?_) (fun q => absurd (by decide) q)
        refine lv_iload_n hx hb dX3_letters_39 rfl (lv_at hl 1 rfl) ?_
        exact W.iret (v := nI aX) hx hb hr (fun tT ht hW => ⟨⟨_, (pX, 0), rfl, ⟨by rw [← hlt, ltP_n h9_0], by rw [← hlt, ltP_n h9_0]⟩, by show va_P G.1 vwCl _ tT.heap; rw [ht]; exact hP⟩, hS.F ht⟩) hS.2.2 dX3_letters_40
  exact lp5 _ 0 97 rd _ _ _ (Nat.lt_succ_self _) (by omega) (by omega) (by omega) (by omega) rfl hP hD hS (lv_sub hl [2, 1, 0] rfl)
set_option maxHeartbeats 4000000 in
set_option maxRecDepth 100000 in
/-- X3_letters: the same where something is wrong -/
theorem c_letters1 (l : Launch) (G : zG) (b0 : Nat) (b1 : Nat) (b2 : Nat) (b3 : Nat) (b4 : Nat) (b5 : Nat) (b6 : Nat) (kn : Nat) (ik : Nat) (ty : Nat) (ra : Int32) (rb : Int32) (rd : Nat) (fl : Int32) (pd : Nat → Nat) : Met l yX3_letters wsX3_letters ({ frames := 2, cells := 0, slots := 0, locals := 45 } : Room) (zPc G [.ref b0] [(b0, .inr (3, [.ref b1, .ref b2, .ref b3, .int (nI kn), .ref b4, .int (nI ik), .ref b5, .int (nI ty), .int ra, .int rb, .int (nI rd), .int (nI 1), .ref b6, .int fl])), (b5, .inl (G.2.1, 60, .inl (arN pd)))]) (vp_Si (fun (rR : Int32) => rR = nI 0)) 0 0 (fun _ => False) := by
  refine zR (cc := cX3_letters) (maxL := 4) (ret := (some .int)) (by decide) rfl (Nat.le_of_ble_eq_true rfl) ?_
  intro pP eE sS mM below meth cC hx hb hr hts hown hlk hml hK hN hP hD ls hl
  have hl : lv_has ls 4 [(0, .ref b0)] := hl
  refine lv_iconst (v := nI 0) hx hb dX3_letters_0 (by decide) ?_
  refine lv_istore_n (lv' := [(1, .int (nI 0)), (0, .ref b0)]) hx hb dX3_letters_1 rfl hl (by decide) rfl (fun ls hl => ?_)
  refine lv_bipush (v := nI 97) hx hb dX3_letters_2 (by decide) ?_
  refine lv_istore_n (lv' := [(2, .int (nI 97)), (1, .int (nI 0)), (0, .ref b0)]) hx hb dX3_letters_4 rfl hl (by decide) rfl (fun ls hl => ?_)
  refine lv_aload_n hx hb dX3_letters_5 rfl (lv_at hl 2 rfl) ?_
  refine lv_iload_n hx hb dX3_letters_6 rfl (lv_at hl 0 rfl) ?_
  refine lv_bipush (v := nI 112) hx hb dX3_letters_7 (by decide) ?_
  refine zc_R (As := [.int (nI 97), .int (nI 112)]) (rest := []) ⟨hx, hb, hml, hown, hts⟩ (c_isNext1 l G b0 b1 b2 b3 b4 b5 b6 kn ik ty ra rb rd fl pd 97 112 ) (cwV 2 hts gX3_letters_X3_isNext rfl rfl rfl (by decide +kernel) ⟨Nat.le_of_ble_eq_true rfl, Nat.le_of_ble_eq_true rfl⟩) hK hN hP hD [0, 1] rfl (by decide) (ci := 3) rfl rfl rfl hl.1 rfl (Nat.le_of_ble_eq_true rfl) dX3_letters_9 ⟨Nat.zero_le _, Nat.zero_le _⟩ (fun r9 h9 => ?_)
  subst h9
  refine lv_if_eq (tgt := 39) hx hb dX3_letters_12 (by decide) (fun _ => ?_) (fun q => absurd (by decide) q)
  refine lv_iload_n hx hb dX3_letters_39 rfl (lv_at hl 1 rfl) ?_
  exact W.iret (v := nI 0) hx hb hr (fun tT ht hW => ⟨_, rfl, rfl, ht⟩) (fun _ h => absurd h List.not_mem_nil) dX3_letters_40
