set_option maxRecDepth 100000 in
theorem mwc_text_0 : Cond.fieldLink RX3 7 "ExhibitTextsModel" "s" "[I" ∈ wsX3_text := by decide +kernel
set_option maxRecDepth 100000 in
theorem mic_text_3 : ∀ w ∈ u_ws RX3 TX3 14, w ∈ wsX3_text := by decide +kernel
set_option maxHeartbeats 4000000 in
set_option maxRecDepth 100000 in
/-- X3_text: text -/
theorem c_text (l : Launch) (G : zG) (b0 : Nat) (b1 : Nat) (b2 : Nat) (b3 : Nat) (b4 : Nat) (b5 : Nat) (b6 : Nat) (kn : Nat) (ik : Nat) (ty : Nat) (ra : Int32) (rb : Int32) (rd : Nat) (iw : Nat) (fl : Int32) (sg : Nat → Nat) (x : Int32) (y : Int32) (z : Int32) (hM : mOK sg) : Met l yX3_text wsX3_text ({ frames := 3, cells := 0, slots := 0, locals := 65 } : Room) (zPc G [.ref b0, .int x, .int y, .int z] [(b0, .inr (3, [.ref b1, .ref b2, .ref b3, .int (nI kn), .ref b4, .int (nI ik), .ref b5, .int (nI ty), .int ra, .int rb, .int (nI rd), .int (nI iw), .ref b6, .int fl])), (b1, .inl (G.2.1, 618, .inl (arN sg)))]) (vp_Si (fun (rR : Int32) => (¬ pTn (szF sg) x y ∧ rR = (-1)) ∨ (∃ (eX : Nat) (tX : Nat), eX < 8 ∧ tX < sg (10 + 76 * eX) ∧ x = nI eX ∧ y = nI tX ∧ z = nI 0 ∧ rR = nI (sg (11 + 76 * eX + 15 * tX + 0))) ∨ (∃ (eX : Nat) (tX : Nat), eX < 8 ∧ tX < sg (10 + 76 * eX) ∧ x = nI eX ∧ y = nI tX ∧ z = nI 1 ∧ rR = nI (sg (11 + 76 * eX + 15 * tX + 1))) ∨ (∃ (eX : Nat) (tX : Nat), eX < 8 ∧ tX < sg (10 + 76 * eX) ∧ x = nI eX ∧ y = nI tX ∧ z = nI 2 ∧ rR = nI (sg (11 + 76 * eX + 15 * tX + 2))) ∨ (∃ (eX : Nat) (tX : Nat), eX < 8 ∧ tX < sg (10 + 76 * eX) ∧ x = nI eX ∧ y = nI tX ∧ z = nI 3 ∧ rR = nI (sg (11 + 76 * eX + 15 * tX + 3))) ∨ (∃ (eX : Nat) (tX : Nat), eX < 8 ∧ tX < sg (10 + 76 * eX) ∧ x = nI eX ∧ y = nI tX ∧ z = nI 4 ∧ rR = nI (rdg sg eX tX)) ∨ (∃ (eX : Nat) (tX : Nat), eX < 8 ∧ tX < sg (10 + 76 * eX) ∧ x = nI eX ∧ y = nI tX ∧ z = nI 5 ∧ rR = nI (sg (11 + 76 * eX + 15 * tX + 5))) ∨ (∃ (eX : Nat) (tX : Nat), eX < 8 ∧ tX < sg (10 + 76 * eX) ∧ x = nI eX ∧ y = nI tX ∧ z = nI 6 ∧ rR = nI (sg (11 + 76 * eX + 15 * tX + 4))) ∨ (∃ (eX : Nat) (tX : Nat), eX < 8 ∧ tX < sg (10 + 76 * eX) ∧ x = nI eX ∧ y = nI tX ∧ (¬ ∃ k : Nat, k < 7 ∧ z = nI k) ∧ rR = (-2)))) 0 0 (fun _ => False) := by
  refine zR (cc := cX3_text) (maxL := 4) (ret := (some .int)) (by decide) rfl (Nat.le_of_ble_eq_true rfl) ?_
  intro pP eE sS mM below meth cC hx hb hr hts hown hlk hml hK hN hP hD ls hl
  have hl : lv_has ls 4 [(0, .ref b0), (1, .int x), (2, .int y), (3, .int z)] := hl
  refine lv_aload_n hx hb dX3_text_0 rfl (lv_at hl 0 rfl) ?_
  refine lv_iload_n hx hb dX3_text_1 rfl (lv_at hl 1 rfl) ?_
  refine lv_iload_n hx hb dX3_text_2 rfl (lv_at hl 2 rfl) ?_
  refine zc_R (As := [.int x, .int y]) (rest := []) ⟨hx, hb, hml, hown, hts⟩ (c_isText l G b0 b1 b2 b3 b4 b5 b6 kn ik ty ra rb rd iw fl sg x y (by omega)) (cwV 2 hts gX3_text_X3_isText rfl rfl rfl (by decide +kernel) ⟨Nat.le_of_ble_eq_true rfl, Nat.le_of_ble_eq_true rfl⟩) hK hN hP hD [0, 1] rfl (by decide) (ci := 3) rfl rfl rfl hl.1 rfl (Nat.le_of_ble_eq_true rfl) dX3_text_3 ⟨Nat.zero_le _, Nat.zero_le _⟩ (fun r3 h3 => ?_)
  rcases h3 with ⟨eX_3, tX_3, h3_0, h3_1, rfl, rfl, rfl⟩ | ⟨h3_0, rfl⟩
  · have hz := hM.2.1 eX_3 h3_0
    refine lv_if_ne (tgt := 11) hx hb dX3_text_6 (by decide) (fun _ => ?_) (fun q => absurd q (by decide))
    refine lv_iload_n hx hb dX3_text_11 rfl (lv_at hl 3 rfl) ?_
    rcases sw_in (n := 7) z with ⟨swX, hsw, hswe⟩ | hno
    · subst hswe
      rcases (show swX = 0 ∨ swX = 1 ∨ swX = 2 ∨ swX = 3 ∨ swX = 4 ∨ swX = 5 ∨ swX = 6 from by omega) with rfl | rfl | rfl | rfl | rfl | rfl | rfl
      · refine lv_tableIn (x := nI 0) (off := 44) (tgt := 56) hx hb dX3_text_12 (by decide) (by decide) (by decide) (by decide) ?_
        refine lv_aload_n hx hb dX3_text_56 rfl (lv_at hl 0 rfl) ?_
        refine va_get (D := G.1) (ci := 3) (v := .ref b1) (C := RX3) (T := TX3) (N := 14) hx hb hts mic_text_3 hown hK hP 0 rfl rfl 0 (by decide) (hts _ mwc_text_0) (fun _ h9 => h9) rfl dX3_text_57 ?_
        refine lv_iload_n hx hb dX3_text_60 rfl (lv_at hl 1 rfl) ?_
        refine lv_iload_n hx hb dX3_text_61 rfl (lv_at hl 2 rfl) ?_
        refine lv_iload_n hx hb dX3_text_62 rfl (lv_at hl 3 rfl) ?_
        refine zc_S (As := [.int (nI eX_3), .int (nI tX_3), .int (nI 0)]) (rest := [.ref b1]) ⟨hx, hb, hml, hown, hts⟩ (c_of l eX_3 tX_3 0 ) (va_cwS 3 hts gX3_text_X3_of rfl rfl rfl (by decide +kernel) ⟨Nat.le_of_ble_eq_true rfl, Nat.le_of_ble_eq_true rfl⟩) rfl hl.1 rfl (Nat.le_of_ble_eq_true rfl) dX3_text_63 ⟨Nat.zero_le _, Nat.zero_le _⟩ (fun r63 h63 => ?_)
        subst h63
        refine zk_ald (f := sg) (k := 11 + 76 * eX_3 + 15 * tX_3 + 0) hx hb hK hP 1 0 rfl rfl (Nat.le_of_ble_eq_true rfl) (by omega) dX3_text_66 ?_
        exact W.iret (v := nI (sg (11 + 76 * eX_3 + 15 * tX_3 + 0))) hx hb hr (fun tT ht hW => ⟨_, rfl, Or.inr (Or.inl ⟨eX_3, tX_3, h3_0, h3_1, rfl, rfl, rfl, rfl⟩), ht⟩) (fun _ h => absurd h List.not_mem_nil) dX3_text_67
      · refine lv_tableIn (x := nI 1) (off := 44) (tgt := 56) hx hb dX3_text_12 (by decide) (by decide) (by decide) (by decide) ?_
        refine lv_aload_n hx hb dX3_text_56 rfl (lv_at hl 0 rfl) ?_
        refine va_get (D := G.1) (ci := 3) (v := .ref b1) (C := RX3) (T := TX3) (N := 14) hx hb hts mic_text_3 hown hK hP 0 rfl rfl 0 (by decide) (hts _ mwc_text_0) (fun _ h9 => h9) rfl dX3_text_57 ?_
        refine lv_iload_n hx hb dX3_text_60 rfl (lv_at hl 1 rfl) ?_
        refine lv_iload_n hx hb dX3_text_61 rfl (lv_at hl 2 rfl) ?_
        refine lv_iload_n hx hb dX3_text_62 rfl (lv_at hl 3 rfl) ?_
        refine zc_S (As := [.int (nI eX_3), .int (nI tX_3), .int (nI 1)]) (rest := [.ref b1]) ⟨hx, hb, hml, hown, hts⟩ (c_of l eX_3 tX_3 1 ) (va_cwS 3 hts gX3_text_X3_of rfl rfl rfl (by decide +kernel) ⟨Nat.le_of_ble_eq_true rfl, Nat.le_of_ble_eq_true rfl⟩) rfl hl.1 rfl (Nat.le_of_ble_eq_true rfl) dX3_text_63 ⟨Nat.zero_le _, Nat.zero_le _⟩ (fun r63 h63 => ?_)
        subst h63
        refine zk_ald (f := sg) (k := 11 + 76 * eX_3 + 15 * tX_3 + 1) hx hb hK hP 1 0 rfl rfl (Nat.le_of_ble_eq_true rfl) (by omega) dX3_text_66 ?_
        exact W.iret (v := nI (sg (11 + 76 * eX_3 + 15 * tX_3 + 1))) hx hb hr (fun tT ht hW => ⟨_, rfl, Or.inr (Or.inr (Or.inl ⟨eX_3, tX_3, h3_0, h3_1, rfl, rfl, rfl, rfl⟩)), ht⟩) (fun _ h => absurd h List.not_mem_nil) dX3_text_67
      · refine lv_tableIn (x := nI 2) (off := 44) (tgt := 56) hx hb dX3_text_12 (by decide) (by decide) (by decide) (by decide) ?_
        refine lv_aload_n hx hb dX3_text_56 rfl (lv_at hl 0 rfl) ?_
        refine va_get (D := G.1) (ci := 3) (v := .ref b1) (C := RX3) (T := TX3) (N := 14) hx hb hts mic_text_3 hown hK hP 0 rfl rfl 0 (by decide) (hts _ mwc_text_0) (fun _ h9 => h9) rfl dX3_text_57 ?_
        refine lv_iload_n hx hb dX3_text_60 rfl (lv_at hl 1 rfl) ?_
        refine lv_iload_n hx hb dX3_text_61 rfl (lv_at hl 2 rfl) ?_
        refine lv_iload_n hx hb dX3_text_62 rfl (lv_at hl 3 rfl) ?_
        refine zc_S (As := [.int (nI eX_3), .int (nI tX_3), .int (nI 2)]) (rest := [.ref b1]) ⟨hx, hb, hml, hown, hts⟩ (c_of l eX_3 tX_3 2 ) (va_cwS 3 hts gX3_text_X3_of rfl rfl rfl (by decide +kernel) ⟨Nat.le_of_ble_eq_true rfl, Nat.le_of_ble_eq_true rfl⟩) rfl hl.1 rfl (Nat.le_of_ble_eq_true rfl) dX3_text_63 ⟨Nat.zero_le _, Nat.zero_le _⟩ (fun r63 h63 => ?_)
        subst h63
        refine zk_ald (f := sg) (k := 11 + 76 * eX_3 + 15 * tX_3 + 2) hx hb hK hP 1 0 rfl rfl (Nat.le_of_ble_eq_true rfl) (by omega) dX3_text_66 ?_
        exact W.iret (v := nI (sg (11 + 76 * eX_3 + 15 * tX_3 + 2))) hx hb hr (fun tT ht hW => ⟨_, rfl, Or.inr (Or.inr (Or.inr (Or.inl ⟨eX_3, tX_3, h3_0, h3_1, rfl, rfl, rfl, rfl⟩))), ht⟩) (fun _ h => absurd h List.not_mem_nil) dX3_text_67
      · refine lv_tableIn (x := nI 3) (off := 44) (tgt := 56) hx hb dX3_text_12 (by decide) (by decide) (by decide) (by decide) ?_
        refine lv_aload_n hx hb dX3_text_56 rfl (lv_at hl 0 rfl) ?_
        refine va_get (D := G.1) (ci := 3) (v := .ref b1) (C := RX3) (T := TX3) (N := 14) hx hb hts mic_text_3 hown hK hP 0 rfl rfl 0 (by decide) (hts _ mwc_text_0) (fun _ h9 => h9) rfl dX3_text_57 ?_
        refine lv_iload_n hx hb dX3_text_60 rfl (lv_at hl 1 rfl) ?_
        refine lv_iload_n hx hb dX3_text_61 rfl (lv_at hl 2 rfl) ?_
        refine lv_iload_n hx hb dX3_text_62 rfl (lv_at hl 3 rfl) ?_
        refine zc_S (As := [.int (nI eX_3), .int (nI tX_3), .int (nI 3)]) (rest := [.ref b1]) ⟨hx, hb, hml, hown, hts⟩ (c_of l eX_3 tX_3 3 ) (va_cwS 3 hts gX3_text_X3_of rfl rfl rfl (by decide +kernel) ⟨Nat.le_of_ble_eq_true rfl, Nat.le_of_ble_eq_true rfl⟩) rfl hl.1 rfl (Nat.le_of_ble_eq_true rfl) dX3_text_63 ⟨Nat.zero_le _, Nat.zero_le _⟩ (fun r63 h63 => ?_)
        subst h63
        refine zk_ald (f := sg) (k := 11 + 76 * eX_3 + 15 * tX_3 + 3) hx hb hK hP 1 0 rfl rfl (Nat.le_of_ble_eq_true rfl) (by omega) dX3_text_66 ?_
        exact W.iret (v := nI (sg (11 + 76 * eX_3 + 15 * tX_3 + 3))) hx hb hr (fun tT ht hW => ⟨_, rfl, Or.inr (Or.inr (Or.inr (Or.inr (Or.inl ⟨eX_3, tX_3, h3_0, h3_1, rfl, rfl, rfl, rfl⟩)))), ht⟩) (fun _ h => absurd h List.not_mem_nil) dX3_text_67
      · refine lv_tableIn (x := nI 4) (off := 56) (tgt := 68) hx hb dX3_text_12 (by decide) (by decide) (by decide) (by decide) ?_
        refine lv_aload_n hx hb dX3_text_68 rfl (lv_at hl 0 rfl) ?_
        refine lv_iload_n hx hb dX3_text_69 rfl (lv_at hl 1 rfl) ?_
        refine lv_iload_n hx hb dX3_text_70 rfl (lv_at hl 2 rfl) ?_
        refine zc_R (As := [.int (nI eX_3), .int (nI tX_3)]) (rest := []) ⟨hx, hb, hml, hown, hts⟩ (c_readingAge l G b0 b1 b2 b3 b4 b5 b6 kn ik ty ra rb rd iw fl sg eX_3 tX_3 (by omega) (by omega) (hM.2.2 _ _ h3_0 h3_1)) (cwV 2 hts gX3_text_X3_readingAge rfl rfl rfl (by decide +kernel) ⟨Nat.le_of_ble_eq_true rfl, Nat.le_of_ble_eq_true rfl⟩) hK hN hP hD [0, 1] rfl (by decide) (ci := 3) rfl rfl rfl hl.1 rfl (Nat.le_of_ble_eq_true rfl) dX3_text_71 ⟨Nat.zero_le _, Nat.zero_le _⟩ (fun r71 h71 => ?_)
        subst h71
        exact W.iret (v := nI (rdg sg eX_3 tX_3)) hx hb hr (fun tT ht hW => ⟨_, rfl, Or.inr (Or.inr (Or.inr (Or.inr (Or.inr (Or.inl ⟨eX_3, tX_3, h3_0, h3_1, rfl, rfl, rfl, rfl⟩))))), ht⟩) (fun _ h => absurd h List.not_mem_nil) dX3_text_74
      · refine lv_tableIn (x := nI 5) (off := 63) (tgt := 75) hx hb dX3_text_12 (by decide) (by decide) (by decide) (by decide) ?_
        refine lv_aload_n hx hb dX3_text_75 rfl (lv_at hl 0 rfl) ?_
        refine va_get (D := G.1) (ci := 3) (v := .ref b1) (C := RX3) (T := TX3) (N := 14) hx hb hts mic_text_3 hown hK hP 0 rfl rfl 0 (by decide) (hts _ mwc_text_0) (fun _ h9 => h9) rfl dX3_text_76 ?_
        refine lv_iload_n hx hb dX3_text_79 rfl (lv_at hl 1 rfl) ?_
        refine lv_iload_n hx hb dX3_text_80 rfl (lv_at hl 2 rfl) ?_
        refine lv_iconst (v := nI 5) hx hb dX3_text_81 (by decide) ?_
        refine zc_S (As := [.int (nI eX_3), .int (nI tX_3), .int (nI 5)]) (rest := [.ref b1]) ⟨hx, hb, hml, hown, hts⟩ (c_of l eX_3 tX_3 5 ) (va_cwS 3 hts gX3_text_X3_of rfl rfl rfl (by decide +kernel) ⟨Nat.le_of_ble_eq_true rfl, Nat.le_of_ble_eq_true rfl⟩) rfl hl.1 rfl (Nat.le_of_ble_eq_true rfl) dX3_text_82 ⟨Nat.zero_le _, Nat.zero_le _⟩ (fun r82 h82 => ?_)
        subst h82
        refine zk_ald (f := sg) (k := 11 + 76 * eX_3 + 15 * tX_3 + 5) hx hb hK hP 1 0 rfl rfl (Nat.le_of_ble_eq_true rfl) (by omega) dX3_text_85 ?_
        exact W.iret (v := nI (sg (11 + 76 * eX_3 + 15 * tX_3 + 5))) hx hb hr (fun tT ht hW => ⟨_, rfl, Or.inr (Or.inr (Or.inr (Or.inr (Or.inr (Or.inr (Or.inl ⟨eX_3, tX_3, h3_0, h3_1, rfl, rfl, rfl, rfl⟩)))))), ht⟩) (fun _ h => absurd h List.not_mem_nil) dX3_text_86
      · refine lv_tableIn (x := nI 6) (off := 75) (tgt := 87) hx hb dX3_text_12 (by decide) (by decide) (by decide) (by decide) ?_
        refine lv_aload_n hx hb dX3_text_87 rfl (lv_at hl 0 rfl) ?_
        refine va_get (D := G.1) (ci := 3) (v := .ref b1) (C := RX3) (T := TX3) (N := 14) hx hb hts mic_text_3 hown hK hP 0 rfl rfl 0 (by decide) (hts _ mwc_text_0) (fun _ h9 => h9) rfl dX3_text_88 ?_
        refine lv_iload_n hx hb dX3_text_91 rfl (lv_at hl 1 rfl) ?_
        refine lv_iload_n hx hb dX3_text_92 rfl (lv_at hl 2 rfl) ?_
        refine lv_iconst (v := nI 4) hx hb dX3_text_93 (by decide) ?_
        refine zc_S (As := [.int (nI eX_3), .int (nI tX_3), .int (nI 4)]) (rest := [.ref b1]) ⟨hx, hb, hml, hown, hts⟩ (c_of l eX_3 tX_3 4 ) (va_cwS 3 hts gX3_text_X3_of rfl rfl rfl (by decide +kernel) ⟨Nat.le_of_ble_eq_true rfl, Nat.le_of_ble_eq_true rfl⟩) rfl hl.1 rfl (Nat.le_of_ble_eq_true rfl) dX3_text_94 ⟨Nat.zero_le _, Nat.zero_le _⟩ (fun r94 h94 => ?_)
        subst h94
        refine zk_ald (f := sg) (k := 11 + 76 * eX_3 + 15 * tX_3 + 4) hx hb hK hP 1 0 rfl rfl (Nat.le_of_ble_eq_true rfl) (by omega) dX3_text_97 ?_
        exact W.iret (v := nI (sg (11 + 76 * eX_3 + 15 * tX_3 + 4))) hx hb hr (fun tT ht hW => ⟨_, rfl, Or.inr (Or.inr (Or.inr (Or.inr (Or.inr (Or.inr (Or.inr (Or.inl ⟨eX_3, tX_3, h3_0, h3_1, rfl, rfl, rfl, rfl⟩))))))), ht⟩) (fun _ h => absurd h List.not_mem_nil) dX3_text_98
    · refine lv_tableOut (tgt := 99) hx hb dX3_text_12 (sw_out (n := 7) (by decide) hno (by decide)) (by decide) ?_
      refine lv_bipush (v := (-2)) hx hb dX3_text_99 (by decide) ?_
      exact W.iret (v := (-2)) hx hb hr (fun tT ht hW => ⟨_, rfl, Or.inr (Or.inr (Or.inr (Or.inr (Or.inr (Or.inr (Or.inr (Or.inr ⟨eX_3, tX_3, h3_0, h3_1, rfl, rfl, hno, rfl⟩))))))), ht⟩) (fun _ h => absurd h List.not_mem_nil) dX3_text_101
  · refine lv_if_ne (tgt := 11) hx hb dX3_text_6 (by decide) (fun q => absurd (by decide) q) (fun _ => ?_)
    refine lv_iconst (v := (-1)) hx hb dX3_text_9 (by decide) ?_
    exact W.iret (v := (-1)) hx hb hr (fun tT ht hW => ⟨_, rfl, Or.inl ⟨h3_0, rfl⟩, ht⟩) (fun _ h => absurd h List.not_mem_nil) dX3_text_10
set_option maxRecDepth 100000 in
theorem mwc_caption_0 : Cond.fieldLink RX3 7 "ExhibitTextsModel" "s" "[I" ∈ wsX3_caption := by decide +kernel
set_option maxRecDepth 100000 in
theorem mic_caption_3 : ∀ w ∈ u_ws RX3 TX3 14, w ∈ wsX3_caption := by decide +kernel
set_option maxHeartbeats 4000000 in
set_option maxRecDepth 100000 in
/-- X3_caption: caption -/
theorem c_caption (l : Launch) (G : zG) (b0 : Nat) (b1 : Nat) (b2 : Nat) (b3 : Nat) (b4 : Nat) (b5 : Nat) (b6 : Nat) (kn : Nat) (ik : Nat) (ty : Nat) (ra : Int32) (rb : Int32) (rd : Nat) (iw : Nat) (fl : Int32) (sg : Nat → Nat) (x : Int32) (y : Int32) (z : Int32) (q : Int32) (hM : mOK sg) : Met l yX3_caption wsX3_caption ({ frames := 4, cells := 0, slots := 0, locals := 87 } : Room) (zPc G [.ref b0, .int x, .int y, .int z, .int q] [(b0, .inr (3, [.ref b1, .ref b2, .ref b3, .int (nI kn), .ref b4, .int (nI ik), .ref b5, .int (nI ty), .int ra, .int rb, .int (nI rd), .int (nI iw), .ref b6, .int fl])), (b1, .inl (G.2.1, 618, .inl (arN sg)))]) (vp_Si (fun (rR : Int32) => (¬ pCp (szF sg) (atF sg 5) x y z ∧ rR = (-1)) ∨ (∃ (eX : Nat) (tX : Nat) (kX : Nat), eX < 8 ∧ tX < sg (10 + 76 * eX) ∧ kX < sg (11 + 76 * eX + 15 * tX + 5) ∧ x = nI eX ∧ y = nI tX ∧ z = nI kX ∧ (¬ ∃ n : Nat, 0 ≤ n ∧ n ≤ 2 ∧ q = nI n) ∧ rR = (-2)) ∨ (∃ (eX : Nat) (tX : Nat) (kX : Nat) (wX : Nat), eX < 8 ∧ tX < sg (10 + 76 * eX) ∧ kX < sg (11 + 76 * eX + 15 * tX + 5) ∧ x = nI eX ∧ y = nI tX ∧ z = nI kX ∧ wX ≤ 2 ∧ q = nI wX ∧ rR = nI (sg (11 + 76 * eX + 15 * tX + (6 + 3 * kX + wX)))))) 0 0 (fun _ => False) := by
  refine zR (cc := cX3_caption) (maxL := 5) (ret := (some .int)) (by decide) rfl (Nat.le_of_ble_eq_true rfl) ?_
  intro pP eE sS mM below meth cC hx hb hr hts hown hlk hml hK hN hP hD ls hl
  have hl : lv_has ls 5 [(0, .ref b0), (1, .int x), (2, .int y), (3, .int z), (4, .int q)] := hl
  refine lv_aload_n hx hb dX3_caption_0 rfl (lv_at hl 0 rfl) ?_
  refine lv_iload_n hx hb dX3_caption_1 rfl (lv_at hl 1 rfl) ?_
  refine lv_iload_n hx hb dX3_caption_2 rfl (lv_at hl 2 rfl) ?_
  refine lv_iload_n hx hb dX3_caption_3 rfl (lv_at hl 3 rfl) ?_
  refine zc_R (As := [.int x, .int y, .int z]) (rest := []) ⟨hx, hb, hml, hown, hts⟩ (c_isCaption l G b0 b1 b2 b3 b4 b5 b6 kn ik ty ra rb rd iw fl sg x y z (by omega)) (cwV 3 hts gX3_caption_X3_isCaption rfl rfl rfl (by decide +kernel) ⟨Nat.le_of_ble_eq_true rfl, Nat.le_of_ble_eq_true rfl⟩) hK hN hP hD [0, 1] rfl (by decide) (ci := 3) rfl rfl rfl hl.1 rfl (Nat.le_of_ble_eq_true rfl) dX3_caption_4 ⟨Nat.zero_le _, Nat.zero_le _⟩ (fun r4 h4 => ?_)
  rcases h4 with ⟨eX_4, tX_4, kX_4, h4_0, h4_1, h4_2, rfl, rfl, rfl, rfl⟩ | ⟨h4_0, rfl⟩
  · have hz := hM.2.1 eX_4 h4_0
    have hTX := hM.2.2 _ _ h4_0 h4_1
    have hc3 := hTX.2.2.2.2.1
    refine lv_if_ne (tgt := 12) hx hb dX3_caption_7 (by decide) (fun _ => ?_) (fun q => absurd q (by decide))
    refine lv_iload hx hb dX3_caption_12 (lv_at hl 4 rfl) ?_
    refine lv_iconst (v := nI 0) hx hb dX3_caption_14 (by decide) ?_
    refine lv_iconst (v := nI 2) hx hb dX3_caption_15 (by decide) ?_
    refine zc_S (As := [.int q, .int (nI 0), .int (nI 2)]) (rest := []) ⟨hx, hb, hml, hown, hts⟩ (c_in_c l q 0 2 (by omega) (by omega)) (va_cwS 3 hts gX3_caption_X3_in rfl rfl rfl (by decide +kernel) ⟨Nat.le_of_ble_eq_true rfl, Nat.le_of_ble_eq_true rfl⟩) rfl hl.1 rfl (Nat.le_of_ble_eq_true rfl) dX3_caption_16 ⟨Nat.zero_le _, Nat.zero_le _⟩ (fun r16 h16 => ?_)
    rcases h16 with ⟨nX_16, h16_0, h16_1, rfl, rfl⟩ | ⟨h16_0, rfl⟩
    · refine lv_if_eq (tgt := 38) hx hb dX3_caption_19 (by decide) (fun q => absurd q (by decide)) (fun _ => ?_)
      refine lv_aload_n hx hb dX3_caption_22 rfl (lv_at hl 0 rfl) ?_
      refine va_get (D := G.1) (ci := 3) (v := .ref b1) (C := RX3) (T := TX3) (N := 14) hx hb hts mic_caption_3 hown hK hP 0 rfl rfl 0 (by decide) (hts _ mwc_caption_0) (fun _ h9 => h9) rfl dX3_caption_23 ?_
      refine lv_iload_n hx hb dX3_caption_26 rfl (lv_at hl 1 rfl) ?_
      refine lv_iload_n hx hb dX3_caption_27 rfl (lv_at hl 2 rfl) ?_
      refine lv_iload_n hx hb dX3_caption_28 rfl (lv_at hl 3 rfl) ?_
      refine lv_iload hx hb dX3_caption_29 (lv_at hl 4 rfl) ?_
      refine zc_S (As := [.int (nI eX_4), .int (nI tX_4), .int (nI kX_4), .int (nI nX_16)]) (rest := [.ref b1]) ⟨hx, hb, hml, hown, hts⟩ (c_ofCaption l eX_4 tX_4 kX_4 nX_16 ) (va_cwS 4 hts gX3_caption_X3_ofCaption rfl rfl rfl (by decide +kernel) ⟨Nat.le_of_ble_eq_true rfl, Nat.le_of_ble_eq_true rfl⟩) rfl hl.1 rfl (Nat.le_of_ble_eq_true rfl) dX3_caption_31 ⟨Nat.zero_le _, Nat.zero_le _⟩ (fun r31 h31 => ?_)
      subst h31
      refine zk_ald (f := sg) (k := 11 + 76 * eX_4 + 15 * tX_4 + (6 + 3 * kX_4 + nX_16)) hx hb hK hP 1 0 rfl rfl (Nat.le_of_ble_eq_true rfl) (by omega) dX3_caption_34 ?_
      refine lv_goto (tgt := 40) hx hb dX3_caption_35 (by decide) ?_
      exact W.iret (v := nI (sg (11 + 76 * eX_4 + 15 * tX_4 + (6 + 3 * kX_4 + nX_16)))) hx hb hr (fun tT ht hW => ⟨_, rfl, Or.inr (Or.inr ⟨eX_4, tX_4, kX_4, nX_16, h4_0, h4_1, h4_2, rfl, rfl, rfl, h16_1, rfl, rfl⟩), ht⟩) (fun _ h => absurd h List.not_mem_nil) dX3_caption_40
    · refine lv_if_eq (tgt := 38) hx hb dX3_caption_19 (by decide) (fun _ => ?_) (fun q => absurd (by decide) q)
      refine lv_bipush (v := (-2)) hx hb dX3_caption_38 (by decide) ?_
      exact W.iret (v := (-2)) hx hb hr (fun tT ht hW => ⟨_, rfl, Or.inr (Or.inl ⟨eX_4, tX_4, kX_4, h4_0, h4_1, h4_2, rfl, rfl, rfl, h16_0, rfl⟩), ht⟩) (fun _ h => absurd h List.not_mem_nil) dX3_caption_40
  · refine lv_if_ne (tgt := 12) hx hb dX3_caption_7 (by decide) (fun q => absurd (by decide) q) (fun _ => ?_)
    refine lv_iconst (v := (-1)) hx hb dX3_caption_10 (by decide) ?_
    exact W.iret (v := (-1)) hx hb hr (fun tT ht hW => ⟨_, rfl, Or.inl ⟨h4_0, rfl⟩, ht⟩) (fun _ h => absurd h List.not_mem_nil) dX3_caption_11
set_option maxRecDepth 100000 in
theorem mwc_visitor_0 : Cond.fieldLink RX3 7 "ExhibitTextsModel" "s" "[I" ∈ wsX3_visitor := by decide +kernel
set_option maxRecDepth 100000 in
theorem mic_visitor_3 : ∀ w ∈ u_ws RX3 TX3 14, w ∈ wsX3_visitor := by decide +kernel
set_option maxHeartbeats 4000000 in
set_option maxRecDepth 100000 in
/-- X3_visitor: visitor -/
theorem c_visitor (l : Launch) (G : zG) (b0 : Nat) (b1 : Nat) (b2 : Nat) (b3 : Nat) (b4 : Nat) (b5 : Nat) (b6 : Nat) (kn : Nat) (ik : Nat) (ty : Nat) (ra : Int32) (rb : Int32) (rd : Nat) (iw : Nat) (fl : Int32) (sg : Nat → Nat) (x : Int32) (hM : mOK sg) : Met l yX3_visitor wsX3_visitor ({ frames := 5, cells := 0, slots := 0, locals := 113 } : Room) (zPc G [.ref b0, .int x] [(b0, .inr (3, [.ref b1, .ref b2, .ref b3, .int (nI kn), .ref b4, .int (nI ik), .ref b5, .int (nI ty), .int ra, .int rb, .int (nI rd), .int (nI iw), .ref b6, .int fl])), (b1, .inl (G.2.1, 618, .inl (arN sg)))]) (vp_Si (fun (rR : Int32) => ((¬ ∃ n : Nat, 0 ≤ n ∧ n ≤ 5 ∧ x = nI n) ∧ rR = (-2)) ∨ (∃ (wX : Nat), wX ≤ 5 ∧ x = nI wX ∧ sg 2 = 0 ∧ rR = (-5)) ∨ (∃ (wX : Nat), wX < 4 ∧ x = nI wX ∧ 0 < sg 2 ∧ rR = nI (sg (3 + wX))) ∨ (x = nI 4 ∧ 0 < sg 2 ∧ rR = nI (bitsN (sg 6) 16)) ∨ (x = nI 5 ∧ 0 < sg 2 ∧ sN sg = none ∧ rR = (-5)) ∨ (∃ (tX : Nat), x = nI 5 ∧ 0 < sg 2 ∧ sN sg = some tX ∧ rR = nI tX))) 0 0 (fun _ => False) := by
  refine zR (cc := cX3_visitor) (maxL := 2) (ret := (some .int)) (by decide) rfl (Nat.le_of_ble_eq_true rfl) ?_
  intro pP eE sS mM below meth cC hx hb hr hts hown hlk hml hK hN hP hD ls hl
  have hl : lv_has ls 2 [(0, .ref b0), (1, .int x)] := hl
  have hv := hM.1.2.2.1
  have h6 := hM.1.2.2.2.2.2
  refine lv_iload_n hx hb dX3_visitor_0 rfl (lv_at hl 1 rfl) ?_
  refine lv_iconst (v := nI 0) hx hb dX3_visitor_1 (by decide) ?_
  refine lv_iconst (v := nI 5) hx hb dX3_visitor_2 (by decide) ?_
  refine zc_S (As := [.int x, .int (nI 0), .int (nI 5)]) (rest := []) ⟨hx, hb, hml, hown, hts⟩ (c_in_c l x 0 5 (by omega) (by omega)) (va_cwS 3 hts gX3_visitor_X3_in rfl rfl rfl (by decide +kernel) ⟨Nat.le_of_ble_eq_true rfl, Nat.le_of_ble_eq_true rfl⟩) rfl hl.1 rfl (Nat.le_of_ble_eq_true rfl) dX3_visitor_3 ⟨Nat.zero_le _, Nat.zero_le _⟩ (fun r3 h3 => ?_)
  rcases h3 with ⟨nX_3, h3_0, h3_1, rfl, rfl⟩ | ⟨h3_0, rfl⟩
  · refine lv_if_ne (tgt := 12) hx hb dX3_visitor_6 (by decide) (fun _ => ?_) (fun q => absurd q (by decide))
    refine lv_aload_n hx hb dX3_visitor_12 rfl (lv_at hl 0 rfl) ?_
    refine va_get (D := G.1) (ci := 3) (v := .ref b1) (C := RX3) (T := TX3) (N := 14) hx hb hts mic_visitor_3 hown hK hP 0 rfl rfl 0 (by decide) (hts _ mwc_visitor_0) (fun _ h9 => h9) rfl dX3_visitor_13 ?_
    refine lv_iconst (v := nI 2) hx hb dX3_visitor_16 (by decide) ?_
    refine zk_ald (f := sg) (k := 2) hx hb hK hP 1 0 rfl rfl (Nat.le_of_ble_eq_true rfl) (by omega) dX3_visitor_17 ?_
    refine zk_zne (tgt := 24) hx hb dX3_visitor_18 (by decide) (by omega) (fun c18 => ?_) (fun c18 => ?_)
    · refine lv_iload_n hx hb dX3_visitor_24 rfl (lv_at hl 1 rfl) ?_
      refine lv_iconst (v := nI 4) hx hb dX3_visitor_25 (by decide) ?_
      refine zk_ige (tgt := 40) hx hb dX3_visitor_26 (by decide) (by omega) (by omega) (fun c26 => ?_) (fun c26 => ?_)
      · refine lv_iload_n hx hb dX3_visitor_40 rfl (lv_at hl 1 rfl) ?_
        refine lv_iconst (v := nI 4) hx hb dX3_visitor_41 (by decide) ?_
        refine zk_ine (tgt := 58) hx hb dX3_visitor_42 (by decide) (by omega) (by omega) (fun c42 => ?_) (fun c42 => ?_)
        · refine lv_aload_n hx hb dX3_visitor_58 rfl (lv_at hl 0 rfl) ?_
          refine zc_R (As := []) (rest := []) ⟨hx, hb, hml, hown, hts⟩ (c_shownNow l G b0 b1 b2 b3 b4 b5 b6 kn ik ty ra rb rd iw fl sg (by omega)) (cwV 0 hts gX3_visitor_X3_shownNow rfl rfl rfl (by decide +kernel) ⟨Nat.le_of_ble_eq_true rfl, Nat.le_of_ble_eq_true rfl⟩) hK hN hP hD [0, 1] rfl (by decide) (ci := 3) rfl rfl rfl hl.1 rfl (Nat.le_of_ble_eq_true rfl) dX3_visitor_59 ⟨Nat.zero_le _, Nat.zero_le _⟩ (fun r59 h59 => ?_)
          rcases h59 with ⟨h59_0, rfl⟩ | ⟨tX_59, h59_0, rfl⟩
          · exact W.iret (v := (-5)) hx hb hr (fun tT ht hW => ⟨_, rfl, Or.inr (Or.inr (Or.inr (Or.inr (Or.inl ⟨by rw [show nX_3 = 5 from by omega], c18, h59_0, rfl⟩)))), ht⟩) (fun _ h => absurd h List.not_mem_nil) dX3_visitor_62
          · exact W.iret (v := nI tX_59) hx hb hr (fun tT ht hW => ⟨_, rfl, Or.inr (Or.inr (Or.inr (Or.inr (Or.inr ⟨tX_59, by rw [show nX_3 = 5 from by omega], c18, h59_0, rfl⟩)))), ht⟩) (fun _ h => absurd h List.not_mem_nil) dX3_visitor_62
        · refine lv_aload_n hx hb dX3_visitor_45 rfl (lv_at hl 0 rfl) ?_
          refine va_get (D := G.1) (ci := 3) (v := .ref b1) (C := RX3) (T := TX3) (N := 14) hx hb hts mic_visitor_3 hown hK hP 0 rfl rfl 0 (by decide) (hts _ mwc_visitor_0) (fun _ h9 => h9) rfl dX3_visitor_46 ?_
          refine lv_bipush (v := nI 6) hx hb dX3_visitor_49 (by decide) ?_
          refine zk_ald (f := sg) (k := 6) hx hb hK hP 1 0 rfl rfl (Nat.le_of_ble_eq_true rfl) (by omega) dX3_visitor_51 ?_
          refine zc_S (As := [.int (nI (sg 6))]) (rest := []) ⟨hx, hb, hml, hown, hts⟩ (c_bitsOf l (sg 6) h6) (va_cwS 1 hts gX3_visitor_X3_bitsOf rfl rfl rfl (by decide +kernel) ⟨Nat.le_of_ble_eq_true rfl, Nat.le_of_ble_eq_true rfl⟩) rfl hl.1 rfl (Nat.le_of_ble_eq_true rfl) dX3_visitor_52 ⟨Nat.zero_le _, Nat.zero_le _⟩ (fun r52 h52 => ?_)
          subst h52
          refine lv_goto (tgt := 62) hx hb dX3_visitor_55 (by decide) ?_
          exact W.iret (v := nI (bitsN (sg 6) 16)) hx hb hr (fun tT ht hW => ⟨_, rfl, Or.inr (Or.inr (Or.inr (Or.inl ⟨by rw [c42], c18, rfl⟩))), ht⟩) (fun _ h => absurd h List.not_mem_nil) dX3_visitor_62
      · refine lv_aload_n hx hb dX3_visitor_29 rfl (lv_at hl 0 rfl) ?_
        refine va_get (D := G.1) (ci := 3) (v := .ref b1) (C := RX3) (T := TX3) (N := 14) hx hb hts mic_visitor_3 hown hK hP 0 rfl rfl 0 (by decide) (hts _ mwc_visitor_0) (fun _ h9 => h9) rfl dX3_visitor_30 ?_
        refine lv_iconst (v := nI 3) hx hb dX3_visitor_33 (by decide) ?_
        refine lv_iload_n hx hb dX3_visitor_34 rfl (lv_at hl 1 rfl) ?_
        refine zk_add hx hb dX3_visitor_35 ?_
        refine zk_ald (f := sg) (k := 3 + nX_3) hx hb hK hP 1 0 rfl rfl (Nat.le_of_ble_eq_true rfl) (by omega) dX3_visitor_36 ?_
        refine lv_goto (tgt := 62) hx hb dX3_visitor_37 (by decide) ?_
        exact W.iret (v := nI (sg (3 + nX_3))) hx hb hr (fun tT ht hW => ⟨_, rfl, Or.inr (Or.inr (Or.inl ⟨nX_3, by omega, rfl, c18, rfl⟩)), ht⟩) (fun _ h => absurd h List.not_mem_nil) dX3_visitor_62
    · refine lv_bipush (v := (-5)) hx hb dX3_visitor_21 (by decide) ?_
      exact W.iret (v := (-5)) hx hb hr (fun tT ht hW => ⟨_, rfl, Or.inr (Or.inl ⟨nX_3, h3_1, rfl, c18, rfl⟩), ht⟩) (fun _ h => absurd h List.not_mem_nil) dX3_visitor_23
  · refine lv_if_ne (tgt := 12) hx hb dX3_visitor_6 (by decide) (fun q => absurd (by decide) q) (fun _ => ?_)
    refine lv_bipush (v := (-2)) hx hb dX3_visitor_9 (by decide) ?_
    exact W.iret (v := (-2)) hx hb hr (fun tT ht hW => ⟨_, rfl, Or.inl ⟨h3_0, rfl⟩, ht⟩) (fun _ h => absurd h List.not_mem_nil) dX3_visitor_11
set_option maxHeartbeats 4000000 in
set_option maxRecDepth 100000 in
/-- X3_shown: shown -/
theorem c_shown (l : Launch) (G : zG) (b0 : Nat) (b1 : Nat) (b2 : Nat) (b3 : Nat) (b4 : Nat) (b5 : Nat) (b6 : Nat) (kn : Nat) (ik : Nat) (ty : Nat) (ra : Int32) (rb : Int32) (rd : Nat) (iw : Nat) (fl : Int32) (sg : Nat → Nat) (x : Int32) (y : Int32) (hM : mOK sg) : Met l yX3_shown wsX3_shown ({ frames := 4, cells := 0, slots := 0, locals := 93 } : Room) (zPc G [.ref b0, .int x, .int y] [(b0, .inr (3, [.ref b1, .ref b2, .ref b3, .int (nI kn), .ref b4, .int (nI ik), .ref b5, .int (nI ty), .int ra, .int rb, .int (nI rd), .int (nI iw), .ref b6, .int fl])), (b1, .inl (G.2.1, 618, .inl (arN sg)))]) (vp_Si (fun (rR : Int32) => (¬ pE x ∧ rR = (-1)) ∨ (∃ (eX : Nat), eX < 8 ∧ x = nI eX ∧ (¬ ∃ n : Nat, 4 ≤ n ∧ n ≤ 99 ∧ y = nI n) ∧ rR = (-2)) ∨ (∃ (eX : Nat) (aX : Nat), eX < 8 ∧ x = nI eX ∧ 4 ≤ aX ∧ aX ≤ 99 ∧ y = nI aX ∧ shT sg eX aX = none ∧ rR = (-5)) ∨ (∃ (eX : Nat) (aX : Nat) (tX : Nat), eX < 8 ∧ x = nI eX ∧ 4 ≤ aX ∧ aX ≤ 99 ∧ y = nI aX ∧ shT sg eX aX = some tX ∧ rR = nI tX))) 0 0 (fun _ => False) := by
  refine zR (cc := cX3_shown) (maxL := 3) (ret := (some .int)) (by decide) rfl (Nat.le_of_ble_eq_true rfl) ?_
  intro pP eE sS mM below meth cC hx hb hr hts hown hlk hml hK hN hP hD ls hl
  have hl : lv_has ls 3 [(0, .ref b0), (1, .int x), (2, .int y)] := hl
  refine lv_iload_n hx hb dX3_shown_0 rfl (lv_at hl 1 rfl) ?_
  refine zc_S (As := [.int x]) (rest := []) ⟨hx, hb, hml, hown, hts⟩ (c_isExhibit l x ) (va_cwS 1 hts gX3_shown_X3_isExhibit rfl rfl rfl (by decide +kernel) ⟨Nat.le_of_ble_eq_true rfl, Nat.le_of_ble_eq_true rfl⟩) rfl hl.1 rfl (Nat.le_of_ble_eq_true rfl) dX3_shown_1 ⟨Nat.zero_le _, Nat.zero_le _⟩ (fun r1 h1 => ?_)
  rcases h1 with ⟨eX_1, h1_0, rfl, rfl⟩ | ⟨h1_0, rfl⟩
  · refine lv_if_ne (tgt := 9) hx hb dX3_shown_4 (by decide) (fun _ => ?_) (fun q => absurd q (by decide))
    refine lv_iload_n hx hb dX3_shown_9 rfl (lv_at hl 2 rfl) ?_
    refine lv_iconst (v := nI 4) hx hb dX3_shown_10 (by decide) ?_
    refine lv_bipush (v := nI 99) hx hb dX3_shown_11 (by decide) ?_
    refine zc_S (As := [.int y, .int (nI 4), .int (nI 99)]) (rest := []) ⟨hx, hb, hml, hown, hts⟩ (c_in_c l y 4 99 (by omega) (by omega)) (va_cwS 3 hts gX3_shown_X3_in rfl rfl rfl (by decide +kernel) ⟨Nat.le_of_ble_eq_true rfl, Nat.le_of_ble_eq_true rfl⟩) rfl hl.1 rfl (Nat.le_of_ble_eq_true rfl) dX3_shown_13 ⟨Nat.zero_le _, Nat.zero_le _⟩ (fun r13 h13 => ?_)
    rcases h13 with ⟨nX_13, h13_0, h13_1, rfl, rfl⟩ | ⟨h13_0, rfl⟩
    · refine lv_if_eq (tgt := 28) hx hb dX3_shown_16 (by decide) (fun q => absurd q (by decide)) (fun _ => ?_)
      refine lv_aload_n hx hb dX3_shown_19 rfl (lv_at hl 0 rfl) ?_
      refine lv_iload_n hx hb dX3_shown_20 rfl (lv_at hl 1 rfl) ?_
      refine lv_iload_n hx hb dX3_shown_21 rfl (lv_at hl 2 rfl) ?_
      refine zc_R (As := [.int (nI eX_1), .int (nI nX_13)]) (rest := []) ⟨hx, hb, hml, hown, hts⟩ (c_shownTo l G b0 b1 b2 b3 b4 b5 b6 kn ik ty ra rb rd iw fl sg eX_1 nX_13 (by omega) (by omega) (by omega)) (cwV 2 hts gX3_shown_X3_shownTo rfl rfl rfl (by decide +kernel) ⟨Nat.le_of_ble_eq_true rfl, Nat.le_of_ble_eq_true rfl⟩) hK hN hP hD [0, 1] rfl (by decide) (ci := 3) rfl rfl rfl hl.1 rfl (Nat.le_of_ble_eq_true rfl) dX3_shown_22 ⟨Nat.zero_le _, Nat.zero_le _⟩ (fun r22 h22 => ?_)
      rcases h22 with ⟨h22_0, rfl⟩ | ⟨tX_22, h22_0, rfl⟩
      · refine lv_goto (tgt := 30) hx hb dX3_shown_25 (by decide) ?_
        exact W.iret (v := (-5)) hx hb hr (fun tT ht hW => ⟨_, rfl, Or.inr (Or.inr (Or.inl ⟨eX_1, nX_13, h1_0, rfl, h13_0, h13_1, rfl, h22_0, rfl⟩)), ht⟩) (fun _ h => absurd h List.not_mem_nil) dX3_shown_30
      · refine lv_goto (tgt := 30) hx hb dX3_shown_25 (by decide) ?_
        exact W.iret (v := nI tX_22) hx hb hr (fun tT ht hW => ⟨_, rfl, Or.inr (Or.inr (Or.inr ⟨eX_1, nX_13, tX_22, h1_0, rfl, h13_0, h13_1, rfl, h22_0, rfl⟩)), ht⟩) (fun _ h => absurd h List.not_mem_nil) dX3_shown_30
    · refine lv_if_eq (tgt := 28) hx hb dX3_shown_16 (by decide) (fun _ => ?_) (fun q => absurd (by decide) q)
      refine lv_bipush (v := (-2)) hx hb dX3_shown_28 (by decide) ?_
      exact W.iret (v := (-2)) hx hb hr (fun tT ht hW => ⟨_, rfl, Or.inr (Or.inl ⟨eX_1, h1_0, rfl, h13_0, rfl⟩), ht⟩) (fun _ h => absurd h List.not_mem_nil) dX3_shown_30
  · refine lv_if_ne (tgt := 9) hx hb dX3_shown_4 (by decide) (fun q => absurd (by decide) q) (fun _ => ?_)
    refine lv_iconst (v := (-1)) hx hb dX3_shown_7 (by decide) ?_
    exact W.iret (v := (-1)) hx hb hr (fun tT ht hW => ⟨_, rfl, Or.inl ⟨h1_0, rfl⟩, ht⟩) (fun _ h => absurd h List.not_mem_nil) dX3_shown_8
set_option maxRecDepth 100000 in
theorem mwc_allFacts_0 : Cond.fieldLink RX3 7 "ExhibitTextsModel" "s" "[I" ∈ wsX3_allFacts := by decide +kernel
set_option maxRecDepth 100000 in
theorem mic_allFacts_3 : ∀ w ∈ u_ws RX3 TX3 14, w ∈ wsX3_allFacts := by decide +kernel
set_option maxHeartbeats 4000000 in
set_option maxRecDepth 100000 in
/-- X3_allFacts: all facts -/
theorem c_allFacts (l : Launch) (G : zG) (b0 : Nat) (b1 : Nat) (b2 : Nat) (b3 : Nat) (b4 : Nat) (b5 : Nat) (b6 : Nat) (kn : Nat) (ik : Nat) (ty : Nat) (ra : Int32) (rb : Int32) (rd : Nat) (iw : Nat) (fl : Int32) (sg : Nat → Nat) (hM : mOK sg) : Met l yX3_allFacts wsX3_allFacts ({ frames := 2, cells := 0, slots := 0, locals := 42 } : Room) (zPc G [.ref b0] [(b0, .inr (3, [.ref b1, .ref b2, .ref b3, .int (nI kn), .ref b4, .int (nI ik), .ref b5, .int (nI ty), .int ra, .int rb, .int (nI rd), .int (nI iw), .ref b6, .int fl])), (b1, .inl (G.2.1, 618, .inl (arN sg)))]) (vp_Si (fun (rR : Int32) => rR = nI (allF (szF sg) (atF sg 3) 8))) 0 0 (fun _ => False) := by
  refine zR (cc := cX3_allFacts) (maxL := 4) (ret := (some .int)) (by decide) rfl (Nat.le_of_ble_eq_true rfl) ?_
  intro pP eE sS mM below meth cC hx hb hr hts hown hlk hml hK hN hP hD ls hl
  have hl : lv_has ls 4 [(0, .ref b0)] := hl
  refine lv_iconst (v := nI 0) hx hb dX3_allFacts_0 (by decide) ?_
  refine lv_istore_n (lv' := [(1, .int (nI 0)), (0, .ref b0)]) hx hb dX3_allFacts_1 rfl hl (by decide) rfl (fun ls hl => ?_)
  refine lv_iconst (v := nI 0) hx hb dX3_allFacts_2 (by decide) ?_
  refine lv_istore_n (lv' := [(2, .int (nI 0)), (1, .int (nI 0)), (0, .ref b0)]) hx hb dX3_allFacts_3 rfl hl (by decide) rfl (fun ls hl => ?_)
  have lp4 : ∀ (fu4 : Nat), ∀ (kX : Nat) (ls : Array Slot), (8 - kX) < fu4 → (kX ≤ 8) → lv_has ls 4 [(0, .ref b0), (1, .int (nI (allF (szF sg) (atF sg 3) kX))), (2, .int (nI kX))] → W pP l eE (headSpec wsX3_allFacts ({ frames := 2, cells := 0, slots := 0, locals := 42 } : Room)).room sS mM ([.ref b0] : List Value).toArray below meth cC sS.heap [] 0 0 (MQ below (vp_Si (fun (rR : Int32) => rR = nI (allF (szF sg) (atF sg 3) 8))) ([.ref b0] : List Value).toArray sS 0 0 (fun _ => False)) (F0 mM 4 ls []) := by
    intro fu4
    induction fu4 with
    | zero => intro kX ls hfu4; exact absurd hfu4 (Nat.not_lt_zero _)
    | succ fu4 ih4 =>
      intro kX ls hfu4 hk hl
      refine lv_iload_n hx hb dX3_allFacts_4 rfl (lv_at hl 2 rfl) ?_
      refine lv_bipush (v := nI 8) hx hb dX3_allFacts_5 (by decide) ?_
      refine zk_ige (tgt := 51) hx hb dX3_allFacts_7 (by decide) (by omega) (by omega) (fun c7 => ?_) (fun c7 => ?_)
      · have hk9 : kX = 8 := by omega
        subst hk9
        refine lv_iload_n hx hb dX3_allFacts_51 rfl (lv_at hl 1 rfl) ?_
        exact W.iret (v := nI (allF (szF sg) (atF sg 3) 8)) hx hb hr (fun tT ht hW => ⟨_, rfl, rfl, ht⟩) (fun _ h => absurd h List.not_mem_nil) dX3_allFacts_52
      · have hz := hM.2.1 kX (by omega)
        refine lv_iconst (v := nI 0) hx hb dX3_allFacts_10 (by decide) ?_
        refine lv_istore_n (lv' := [(3, .int (nI 0)), (0, .ref b0), (1, .int (nI (allF (szF sg) (atF sg 3) kX))), (2, .int (nI kX))]) hx hb dX3_allFacts_11 rfl hl (by decide) rfl (fun ls hl => ?_)
        have lp12 : ∀ (fu12 : Nat), ∀ (jX : Nat) (ls : Array Slot), (sg (10 + 76 * kX) - jX) < fu12 → (jX ≤ sg (10 + 76 * kX)) → lv_has ls 4 [(0, .ref b0), (2, .int (nI kX)), (1, .int (nI (orF (allF (szF sg) (atF sg 3) kX) (atF sg 3 kX) jX))), (3, .int (nI jX))] → W pP l eE (headSpec wsX3_allFacts ({ frames := 2, cells := 0, slots := 0, locals := 42 } : Room)).room sS mM ([.ref b0] : List Value).toArray below meth cC sS.heap [] 0 0 (MQ below (vp_Si (fun (rR : Int32) => rR = nI (allF (szF sg) (atF sg 3) 8))) ([.ref b0] : List Value).toArray sS 0 0 (fun _ => False)) (F0 mM 12 ls []) := by
          intro fu12
          induction fu12 with
          | zero => intro jX ls hfu12; exact absurd hfu12 (Nat.not_lt_zero _)
          | succ fu12 ih12 =>
            intro jX ls hfu12 hj hl
            refine lv_iload_n hx hb dX3_allFacts_12 rfl (lv_at hl 3 rfl) ?_
            refine lv_aload_n hx hb dX3_allFacts_13 rfl (lv_at hl 0 rfl) ?_
            refine va_get (D := G.1) (ci := 3) (v := .ref b1) (C := RX3) (T := TX3) (N := 14) hx hb hts mic_allFacts_3 hown hK hP 0 rfl rfl 0 (by decide) (hts _ mwc_allFacts_0) (fun _ h9 => h9) rfl dX3_allFacts_14 ?_
            refine lv_iload_n hx hb dX3_allFacts_17 rfl (lv_at hl 1 rfl) ?_
            refine zc_S (As := [.int (nI kX)]) (rest := [.ref b1, .int (nI jX)]) ⟨hx, hb, hml, hown, hts⟩ (c_manyAt l kX ) (va_cwS 1 hts gX3_allFacts_X3_manyAt rfl rfl rfl (by decide +kernel) ⟨Nat.le_of_ble_eq_true rfl, Nat.le_of_ble_eq_true rfl⟩) rfl hl.1 rfl (Nat.le_of_ble_eq_true rfl) dX3_allFacts_18 ⟨Nat.zero_le _, Nat.zero_le _⟩ (fun r18 h18 => ?_)
            subst h18
            refine zk_ald (f := sg) (k := 10 + 76 * kX) hx hb hK hP 1 0 rfl rfl (Nat.le_of_ble_eq_true rfl) (by omega) dX3_allFacts_21 ?_
            refine zk_ige (tgt := 45) hx hb dX3_allFacts_22 (by decide) (by omega) (by omega) (fun c22 => ?_) (fun c22 => ?_)
            · have hj9 : jX = sg (10 + 76 * kX) := by omega
              subst hj9
              refine zk_inc (a := kX) (d := 1) (lv' := [(2, .int (nI (kX + 1))), (0, .ref b0), (1, .int (nI (orF (allF (szF sg) (atF sg 3) kX) (atF sg 3 kX) (sg (10 + 76 * kX))))), (3, .int (nI (sg (10 + 76 * kX))))]) hx hb dX3_allFacts_45 hl (K := 1) rfl (by decide) (by decide) rfl (fun ls hl => ?_)
              refine lv_goto (tgt := 4) hx hb dX3_allFacts_48 (by decide) ?_
              exact ih4 (kX + 1) _ (by omega) (by omega) (lv_sub hl [1, 2, 0] rfl)
            · refine lv_iload_n hx hb dX3_allFacts_25 rfl (lv_at hl 2 rfl) ?_
              refine lv_aload_n hx hb dX3_allFacts_26 rfl (lv_at hl 0 rfl) ?_
              refine va_get (D := G.1) (ci := 3) (v := .ref b1) (C := RX3) (T := TX3) (N := 14) hx hb hts mic_allFacts_3 hown hK hP 0 rfl rfl 0 (by decide) (hts _ mwc_allFacts_0) (fun _ h9 => h9) rfl dX3_allFacts_27 ?_
              refine lv_iload_n hx hb dX3_allFacts_30 rfl (lv_at hl 1 rfl) ?_
              refine lv_iload_n hx hb dX3_allFacts_31 rfl (lv_at hl 3 rfl) ?_
              refine lv_iconst (v := nI 3) hx hb dX3_allFacts_32 (by decide) ?_
              refine zc_S (As := [.int (nI kX), .int (nI jX), .int (nI 3)]) (rest := [.ref b1, .int (nI (orF (allF (szF sg) (atF sg 3) kX) (atF sg 3 kX) jX))]) ⟨hx, hb, hml, hown, hts⟩ (c_of l kX jX 3 ) (va_cwS 3 hts gX3_allFacts_X3_of rfl rfl rfl (by decide +kernel) ⟨Nat.le_of_ble_eq_true rfl, Nat.le_of_ble_eq_true rfl⟩) rfl hl.1 rfl (Nat.le_of_ble_eq_true rfl) dX3_allFacts_33 ⟨Nat.zero_le _, Nat.zero_le _⟩ (fun r33 h33 => ?_)
              subst h33
              refine zk_ald (f := sg) (k := 11 + 76 * kX + 15 * jX + 3) hx hb hK hP 1 0 rfl rfl (Nat.le_of_ble_eq_true rfl) (by omega) dX3_allFacts_36 ?_
              refine zk_or hx hb dX3_allFacts_37 ?_
              refine lv_istore_n (lv' := [(1, .int (nI ((orF (allF (szF sg) (atF sg 3) kX) (atF sg 3 kX) jX) ||| (sg (11 + 76 * kX + 15 * jX + 3))))), (0, .ref b0), (2, .int (nI kX)), (3, .int (nI jX))]) hx hb dX3_allFacts_38 rfl hl (by decide) rfl (fun ls hl => ?_)
              refine zk_inc (a := jX) (d := 1) (lv' := [(3, .int (nI (jX + 1))), (1, .int (nI ((orF (allF (szF sg) (atF sg 3) kX) (atF sg 3 kX) jX) ||| (sg (11 + 76 * kX + 15 * jX + 3))))), (0, .ref b0), (2, .int (nI kX))]) hx hb dX3_allFacts_39 hl (K := 3) rfl (by decide) (by decide) rfl (fun ls hl => ?_)
              refine lv_goto (tgt := 12) hx hb dX3_allFacts_42 (by decide) ?_
              exact ih12 (jX + 1) _ (by omega) (by omega) (lv_sub hl [2, 3, 1, 0] rfl)
        exact lp12 _ 0 _ (Nat.lt_succ_self _) (by omega) (lv_sub hl [1, 3, 2, 0] rfl)
  exact lp4 _ 0 _ (Nat.lt_succ_self _) (by omega) (lv_sub hl [2, 1, 0] rfl)
set_option maxRecDepth 100000 in
theorem mwc_sum1_0 : Cond.fieldLink RX3 7 "ExhibitTextsModel" "s" "[I" ∈ wsX3_sum := by decide +kernel
set_option maxRecDepth 100000 in
theorem mic_sum1_3 : ∀ w ∈ u_ws RX3 TX3 14, w ∈ wsX3_sum := by decide +kernel
set_option maxHeartbeats 4000000 in
set_option maxRecDepth 100000 in
/-- X3_sum: captions -/
theorem c_sum1 (l : Launch) (G : zG) (b0 : Nat) (b1 : Nat) (b2 : Nat) (b3 : Nat) (b4 : Nat) (b5 : Nat) (b6 : Nat) (kn : Nat) (ik : Nat) (ty : Nat) (ra : Int32) (rb : Int32) (rd : Nat) (iw : Nat) (fl : Int32) (sg : Nat → Nat) (hM : mOK sg) : Met l yX3_sum wsX3_sum ({ frames := 2, cells := 0, slots := 0, locals := 42 } : Room) (zPc G [.ref b0, .int (nI 1)] [(b0, .inr (3, [.ref b1, .ref b2, .ref b3, .int (nI kn), .ref b4, .int (nI ik), .ref b5, .int (nI ty), .int ra, .int rb, .int (nI rd), .int (nI iw), .ref b6, .int fl])), (b1, .inl (G.2.1, 618, .inl (arN sg)))]) (vp_Si (fun (rR : Int32) => rR = nI (capS (szF sg) (atF sg 5) 8))) 0 0 (fun _ => False) := by
  refine zR (cc := cX3_sum) (maxL := 5) (ret := (some .int)) (by decide) rfl (Nat.le_of_ble_eq_true rfl) ?_
  intro pP eE sS mM below meth cC hx hb hr hts hown hlk hml hK hN hP hD ls hl
  have hl : lv_has ls 5 [(0, .ref b0), (1, .int (nI 1))] := hl
  refine lv_iconst (v := nI 0) hx hb dX3_sum_0 (by decide) ?_
  refine lv_istore_n (lv' := [(2, .int (nI 0)), (0, .ref b0), (1, .int (nI 1))]) hx hb dX3_sum_1 rfl hl (by decide) rfl (fun ls hl => ?_)
  refine lv_iconst (v := nI 0) hx hb dX3_sum_2 (by decide) ?_
  refine lv_istore_n (lv' := [(3, .int (nI 0)), (2, .int (nI 0)), (0, .ref b0), (1, .int (nI 1))]) hx hb dX3_sum_3 rfl hl (by decide) rfl (fun ls hl => ?_)
  have lp4 : ∀ (fu4 : Nat), ∀ (kX : Nat) (ls : Array Slot), (8 - kX) < fu4 → (kX ≤ 8) → lv_has ls 5 [(0, .ref b0), (1, .int (nI 1)), (2, .int (nI (capS (szF sg) (atF sg 5) kX))), (3, .int (nI kX))] → W pP l eE (headSpec wsX3_sum ({ frames := 2, cells := 0, slots := 0, locals := 42 } : Room)).room sS mM ([.ref b0, .int (nI 1)] : List Value).toArray below meth cC sS.heap [] 0 0 (MQ below (vp_Si (fun (rR : Int32) => rR = nI (capS (szF sg) (atF sg 5) 8))) ([.ref b0, .int (nI 1)] : List Value).toArray sS 0 0 (fun _ => False)) (F0 mM 4 ls []) := by
    intro fu4
    induction fu4 with
    | zero => intro kX ls hfu4; exact absurd hfu4 (Nat.not_lt_zero _)
    | succ fu4 ih4 =>
      intro kX ls hfu4 hk hl
      refine lv_iload_n hx hb dX3_sum_4 rfl (lv_at hl 3 rfl) ?_
      refine lv_bipush (v := nI 8) hx hb dX3_sum_5 (by decide) ?_
      refine zk_ige (tgt := 82) hx hb dX3_sum_7 (by decide) (by omega) (by omega) (fun c7 => ?_) (fun c7 => ?_)
      · have hk9 : kX = 8 := by omega
        subst hk9
        refine lv_iload_n hx hb dX3_sum_82 rfl (lv_at hl 2 rfl) ?_
        exact W.iret (v := nI (capS (szF sg) (atF sg 5) 8)) hx hb hr (fun tT ht hW => ⟨_, rfl, rfl, ht⟩) (fun _ h => absurd h List.not_mem_nil) dX3_sum_83
      · have hz := hM.2.1 kX (by omega)
        refine lv_iconst (v := nI 0) hx hb dX3_sum_10 (by decide) ?_
        refine lv_istore (lv' := [(4, .int (nI 0)), (0, .ref b0), (1, .int (nI 1)), (2, .int (nI (capS (szF sg) (atF sg 5) kX))), (3, .int (nI kX))]) hx hb dX3_sum_11 hl (by decide) rfl (fun ls hl => ?_)
        have lp13 : ∀ (fu13 : Nat), ∀ (jX : Nat) (ls : Array Slot), (sg (10 + 76 * kX) - jX) < fu13 → (jX ≤ sg (10 + 76 * kX)) → lv_has ls 5 [(0, .ref b0), (1, .int (nI 1)), (3, .int (nI kX)), (2, .int (nI (smF (capS (szF sg) (atF sg 5) kX) (atF sg 5 kX) jX))), (4, .int (nI jX))] → W pP l eE (headSpec wsX3_sum ({ frames := 2, cells := 0, slots := 0, locals := 42 } : Room)).room sS mM ([.ref b0, .int (nI 1)] : List Value).toArray below meth cC sS.heap [] 0 0 (MQ below (vp_Si (fun (rR : Int32) => rR = nI (capS (szF sg) (atF sg 5) 8))) ([.ref b0, .int (nI 1)] : List Value).toArray sS 0 0 (fun _ => False)) (F0 mM 13 ls []) := by
          intro fu13
          induction fu13 with
          | zero => intro jX ls hfu13; exact absurd hfu13 (Nat.not_lt_zero _)
          | succ fu13 ih13 =>
            intro jX ls hfu13 hj hl
            refine lv_iload hx hb dX3_sum_13 (lv_at hl 4 rfl) ?_
            refine lv_aload_n hx hb dX3_sum_15 rfl (lv_at hl 0 rfl) ?_
            refine va_get (D := G.1) (ci := 3) (v := .ref b1) (C := RX3) (T := TX3) (N := 14) hx hb hts mic_sum1_3 hown hK hP 0 rfl rfl 0 (by decide) (hts _ mwc_sum1_0) (fun _ h9 => h9) rfl dX3_sum_16 ?_
            refine lv_iload_n hx hb dX3_sum_19 rfl (lv_at hl 2 rfl) ?_
            refine zc_S (As := [.int (nI kX)]) (rest := [.ref b1, .int (nI jX)]) ⟨hx, hb, hml, hown, hts⟩ (c_manyAt l kX ) (va_cwS 1 hts gX3_sum_X3_manyAt rfl rfl rfl (by decide +kernel) ⟨Nat.le_of_ble_eq_true rfl, Nat.le_of_ble_eq_true rfl⟩) rfl hl.1 rfl (Nat.le_of_ble_eq_true rfl) dX3_sum_20 ⟨Nat.zero_le _, Nat.zero_le _⟩ (fun r20 h20 => ?_)
            subst h20
            refine zk_ald (f := sg) (k := 10 + 76 * kX) hx hb hK hP 1 0 rfl rfl (Nat.le_of_ble_eq_true rfl) (by omega) dX3_sum_23 ?_
            refine zk_ige (tgt := 76) hx hb dX3_sum_24 (by decide) (by omega) (by omega) (fun c24 => ?_) (fun c24 => ?_)
            · have hj9 : jX = sg (10 + 76 * kX) := by omega
              subst hj9
              refine zk_inc (a := kX) (d := 1) (lv' := [(3, .int (nI (kX + 1))), (0, .ref b0), (1, .int (nI 1)), (2, .int (nI (smF (capS (szF sg) (atF sg 5) kX) (atF sg 5 kX) (sg (10 + 76 * kX))))), (4, .int (nI (sg (10 + 76 * kX))))]) hx hb dX3_sum_76 hl (K := 2) rfl (by decide) (by decide) rfl (fun ls hl => ?_)
              refine lv_goto (tgt := 4) hx hb dX3_sum_79 (by decide) ?_
              exact ih4 (kX + 1) _ (by omega) (by omega) (lv_sub hl [1, 2, 3, 0] rfl)
            · refine lv_iload_n hx hb dX3_sum_27 rfl (lv_at hl 3 rfl) ?_
              refine lv_iload_n hx hb dX3_sum_28 rfl (lv_at hl 1 rfl) ?_
              refine lv_iconst (v := nI 1) hx hb dX3_sum_29 (by decide) ?_
              refine lv_icmp_ne (tgt := 48) hx hb dX3_sum_30 (by decide) (fun q => absurd (by decide) q) (fun _ => ?_)
              refine lv_aload_n hx hb dX3_sum_33 rfl (lv_at hl 0 rfl) ?_
              refine va_get (D := G.1) (ci := 3) (v := .ref b1) (C := RX3) (T := TX3) (N := 14) hx hb hts mic_sum1_3 hown hK hP 0 rfl rfl 0 (by decide) (hts _ mwc_sum1_0) (fun _ h9 => h9) rfl dX3_sum_34 ?_
              refine lv_iload_n hx hb dX3_sum_37 rfl (lv_at hl 2 rfl) ?_
              refine lv_iload hx hb dX3_sum_38 (lv_at hl 4 rfl) ?_
              refine lv_iconst (v := nI 5) hx hb dX3_sum_40 (by decide) ?_
              refine zc_S (As := [.int (nI kX), .int (nI jX), .int (nI 5)]) (rest := [.ref b1, .int (nI (smF (capS (szF sg) (atF sg 5) kX) (atF sg 5 kX) jX))]) ⟨hx, hb, hml, hown, hts⟩ (c_of l kX jX 5 ) (va_cwS 3 hts gX3_sum_X3_of rfl rfl rfl (by decide +kernel) ⟨Nat.le_of_ble_eq_true rfl, Nat.le_of_ble_eq_true rfl⟩) rfl hl.1 rfl (Nat.le_of_ble_eq_true rfl) dX3_sum_41 ⟨Nat.zero_le _, Nat.zero_le _⟩ (fun r41 h41 => ?_)
              subst h41
              refine zk_ald (f := sg) (k := 11 + 76 * kX + 15 * jX + 5) hx hb hK hP 1 0 rfl rfl (Nat.le_of_ble_eq_true rfl) (by omega) dX3_sum_44 ?_
              refine lv_goto (tgt := 68) hx hb dX3_sum_45 (by decide) ?_
              refine zk_add hx hb dX3_sum_68 ?_
              refine lv_istore_n (lv' := [(2, .int (nI ((smF (capS (szF sg) (atF sg 5) kX) (atF sg 5 kX) jX) + (sg (11 + 76 * kX + 15 * jX + 5))))), (0, .ref b0), (1, .int (nI 1)), (3, .int (nI kX)), (4, .int (nI jX))]) hx hb dX3_sum_69 rfl hl (by decide) rfl (fun ls hl => ?_)
              refine zk_inc (a := jX) (d := 1) (lv' := [(4, .int (nI (jX + 1))), (2, .int (nI ((smF (capS (szF sg) (atF sg 5) kX) (atF sg 5 kX) jX) + (sg (11 + 76 * kX + 15 * jX + 5))))), (0, .ref b0), (1, .int (nI 1)), (3, .int (nI kX))]) hx hb dX3_sum_70 hl (K := 4) rfl (by decide) (by decide) rfl (fun ls hl => ?_)
              refine lv_goto (tgt := 13) hx hb dX3_sum_73 (by decide) ?_
              exact ih13 (jX + 1) _ (by omega) (by omega) (lv_sub hl [2, 3, 4, 1, 0] rfl)
        exact lp13 _ 0 _ (Nat.lt_succ_self _) (by omega) (lv_sub hl [1, 2, 4, 3, 0] rfl)
  exact lp4 _ 0 _ (Nat.lt_succ_self _) (by omega) (lv_sub hl [2, 3, 1, 0] rfl)
set_option maxRecDepth 100000 in
theorem mwc_sum7_0 : Cond.fieldLink RX3 7 "ExhibitTextsModel" "s" "[I" ∈ wsX3_sum := by decide +kernel
set_option maxRecDepth 100000 in
theorem mic_sum7_3 : ∀ w ∈ u_ws RX3 TX3 14, w ∈ wsX3_sum := by decide +kernel
set_option maxHeartbeats 4000000 in
set_option maxRecDepth 100000 in
/-- X3_sum: texts that nobody read -/
theorem c_sum7 (l : Launch) (G : zG) (b0 : Nat) (b1 : Nat) (b2 : Nat) (b3 : Nat) (b4 : Nat) (b5 : Nat) (b6 : Nat) (kn : Nat) (ik : Nat) (ty : Nat) (ra : Int32) (rb : Int32) (rd : Nat) (iw : Nat) (fl : Int32) (sg : Nat → Nat) (hM : mOK sg) : Met l yX3_sum wsX3_sum ({ frames := 2, cells := 0, slots := 0, locals := 42 } : Room) (zPc G [.ref b0, .int (nI 7)] [(b0, .inr (3, [.ref b1, .ref b2, .ref b3, .int (nI kn), .ref b4, .int (nI ik), .ref b5, .int (nI ty), .int ra, .int rb, .int (nI rd), .int (nI iw), .ref b6, .int fl])), (b1, .inl (G.2.1, 618, .inl (arN sg)))]) (vp_Si (fun (rR : Int32) => rR = nI (capS (szF sg) (nrF (atF sg 4)) 8))) 0 0 (fun _ => False) := by
  refine zR (cc := cX3_sum) (maxL := 5) (ret := (some .int)) (by decide) rfl (Nat.le_of_ble_eq_true rfl) ?_
  intro pP eE sS mM below meth cC hx hb hr hts hown hlk hml hK hN hP hD ls hl
  have hl : lv_has ls 5 [(0, .ref b0), (1, .int (nI 7))] := hl
  refine lv_iconst (v := nI 0) hx hb dX3_sum_0 (by decide) ?_
  refine lv_istore_n (lv' := [(2, .int (nI 0)), (0, .ref b0), (1, .int (nI 7))]) hx hb dX3_sum_1 rfl hl (by decide) rfl (fun ls hl => ?_)
  refine lv_iconst (v := nI 0) hx hb dX3_sum_2 (by decide) ?_
  refine lv_istore_n (lv' := [(3, .int (nI 0)), (2, .int (nI 0)), (0, .ref b0), (1, .int (nI 7))]) hx hb dX3_sum_3 rfl hl (by decide) rfl (fun ls hl => ?_)
  have lp4 : ∀ (fu4 : Nat), ∀ (kX : Nat) (ls : Array Slot), (8 - kX) < fu4 → (kX ≤ 8) → lv_has ls 5 [(0, .ref b0), (1, .int (nI 7)), (2, .int (nI (capS (szF sg) (nrF (atF sg 4)) kX))), (3, .int (nI kX))] → W pP l eE (headSpec wsX3_sum ({ frames := 2, cells := 0, slots := 0, locals := 42 } : Room)).room sS mM ([.ref b0, .int (nI 7)] : List Value).toArray below meth cC sS.heap [] 0 0 (MQ below (vp_Si (fun (rR : Int32) => rR = nI (capS (szF sg) (nrF (atF sg 4)) 8))) ([.ref b0, .int (nI 7)] : List Value).toArray sS 0 0 (fun _ => False)) (F0 mM 4 ls []) := by
    intro fu4
    induction fu4 with
    | zero => intro kX ls hfu4; exact absurd hfu4 (Nat.not_lt_zero _)
    | succ fu4 ih4 =>
      intro kX ls hfu4 hk hl
      refine lv_iload_n hx hb dX3_sum_4 rfl (lv_at hl 3 rfl) ?_
      refine lv_bipush (v := nI 8) hx hb dX3_sum_5 (by decide) ?_
      refine zk_ige (tgt := 82) hx hb dX3_sum_7 (by decide) (by omega) (by omega) (fun c7 => ?_) (fun c7 => ?_)
      · have hk9 : kX = 8 := by omega
        subst hk9
        refine lv_iload_n hx hb dX3_sum_82 rfl (lv_at hl 2 rfl) ?_
        exact W.iret (v := nI (capS (szF sg) (nrF (atF sg 4)) 8)) hx hb hr (fun tT ht hW => ⟨_, rfl, rfl, ht⟩) (fun _ h => absurd h List.not_mem_nil) dX3_sum_83
      · have hz := hM.2.1 kX (by omega)
        refine lv_iconst (v := nI 0) hx hb dX3_sum_10 (by decide) ?_
        refine lv_istore (lv' := [(4, .int (nI 0)), (0, .ref b0), (1, .int (nI 7)), (2, .int (nI (capS (szF sg) (nrF (atF sg 4)) kX))), (3, .int (nI kX))]) hx hb dX3_sum_11 hl (by decide) rfl (fun ls hl => ?_)
        have lp13 : ∀ (fu13 : Nat), ∀ (jX : Nat) (ls : Array Slot), (sg (10 + 76 * kX) - jX) < fu13 → (jX ≤ sg (10 + 76 * kX)) → lv_has ls 5 [(0, .ref b0), (1, .int (nI 7)), (3, .int (nI kX)), (2, .int (nI (smF (capS (szF sg) (nrF (atF sg 4)) kX) (nrF (atF sg 4) kX) jX))), (4, .int (nI jX))] → W pP l eE (headSpec wsX3_sum ({ frames := 2, cells := 0, slots := 0, locals := 42 } : Room)).room sS mM ([.ref b0, .int (nI 7)] : List Value).toArray below meth cC sS.heap [] 0 0 (MQ below (vp_Si (fun (rR : Int32) => rR = nI (capS (szF sg) (nrF (atF sg 4)) 8))) ([.ref b0, .int (nI 7)] : List Value).toArray sS 0 0 (fun _ => False)) (F0 mM 13 ls []) := by
          intro fu13
          induction fu13 with
          | zero => intro jX ls hfu13; exact absurd hfu13 (Nat.not_lt_zero _)
          | succ fu13 ih13 =>
            intro jX ls hfu13 hj hl
            refine lv_iload hx hb dX3_sum_13 (lv_at hl 4 rfl) ?_
            refine lv_aload_n hx hb dX3_sum_15 rfl (lv_at hl 0 rfl) ?_
            refine va_get (D := G.1) (ci := 3) (v := .ref b1) (C := RX3) (T := TX3) (N := 14) hx hb hts mic_sum7_3 hown hK hP 0 rfl rfl 0 (by decide) (hts _ mwc_sum7_0) (fun _ h9 => h9) rfl dX3_sum_16 ?_
            refine lv_iload_n hx hb dX3_sum_19 rfl (lv_at hl 2 rfl) ?_
            refine zc_S (As := [.int (nI kX)]) (rest := [.ref b1, .int (nI jX)]) ⟨hx, hb, hml, hown, hts⟩ (c_manyAt l kX ) (va_cwS 1 hts gX3_sum_X3_manyAt rfl rfl rfl (by decide +kernel) ⟨Nat.le_of_ble_eq_true rfl, Nat.le_of_ble_eq_true rfl⟩) rfl hl.1 rfl (Nat.le_of_ble_eq_true rfl) dX3_sum_20 ⟨Nat.zero_le _, Nat.zero_le _⟩ (fun r20 h20 => ?_)
            subst h20
            refine zk_ald (f := sg) (k := 10 + 76 * kX) hx hb hK hP 1 0 rfl rfl (Nat.le_of_ble_eq_true rfl) (by omega) dX3_sum_23 ?_
            refine zk_ige (tgt := 76) hx hb dX3_sum_24 (by decide) (by omega) (by omega) (fun c24 => ?_) (fun c24 => ?_)
            · have hj9 : jX = sg (10 + 76 * kX) := by omega
              subst hj9
              refine zk_inc (a := kX) (d := 1) (lv' := [(3, .int (nI (kX + 1))), (0, .ref b0), (1, .int (nI 7)), (2, .int (nI (smF (capS (szF sg) (nrF (atF sg 4)) kX) (nrF (atF sg 4) kX) (sg (10 + 76 * kX))))), (4, .int (nI (sg (10 + 76 * kX))))]) hx hb dX3_sum_76 hl (K := 2) rfl (by decide) (by decide) rfl (fun ls hl => ?_)
              refine lv_goto (tgt := 4) hx hb dX3_sum_79 (by decide) ?_
              exact ih4 (kX + 1) _ (by omega) (by omega) (lv_sub hl [1, 2, 3, 0] rfl)
            · refine lv_iload_n hx hb dX3_sum_27 rfl (lv_at hl 3 rfl) ?_
              refine lv_iload_n hx hb dX3_sum_28 rfl (lv_at hl 1 rfl) ?_
              refine lv_iconst (v := nI 1) hx hb dX3_sum_29 (by decide) ?_
              refine lv_icmp_ne (tgt := 48) hx hb dX3_sum_30 (by decide) (fun _ => ?_) (fun q => absurd q (by decide))
              refine lv_aload_n hx hb dX3_sum_48 rfl (lv_at hl 0 rfl) ?_
              refine va_get (D := G.1) (ci := 3) (v := .ref b1) (C := RX3) (T := TX3) (N := 14) hx hb hts mic_sum7_3 hown hK hP 0 rfl rfl 0 (by decide) (hts _ mwc_sum7_0) (fun _ h9 => h9) rfl dX3_sum_49 ?_
              refine lv_iload_n hx hb dX3_sum_52 rfl (lv_at hl 2 rfl) ?_
              refine lv_iload hx hb dX3_sum_53 (lv_at hl 4 rfl) ?_
              refine lv_iconst (v := nI 4) hx hb dX3_sum_55 (by decide) ?_
              refine zc_S (As := [.int (nI kX), .int (nI jX), .int (nI 4)]) (rest := [.ref b1, .int (nI (smF (capS (szF sg) (nrF (atF sg 4)) kX) (nrF (atF sg 4) kX) jX))]) ⟨hx, hb, hml, hown, hts⟩ (c_of l kX jX 4 ) (va_cwS 3 hts gX3_sum_X3_of rfl rfl rfl (by decide +kernel) ⟨Nat.le_of_ble_eq_true rfl, Nat.le_of_ble_eq_true rfl⟩) rfl hl.1 rfl (Nat.le_of_ble_eq_true rfl) dX3_sum_56 ⟨Nat.zero_le _, Nat.zero_le _⟩ (fun r56 h56 => ?_)
              subst h56
              refine zk_ald (f := sg) (k := 11 + 76 * kX + 15 * jX + 4) hx hb hK hP 1 0 rfl rfl (Nat.le_of_ble_eq_true rfl) (by omega) dX3_sum_59 ?_
              refine lv_if_ne (tgt := 67) hx hb dX3_sum_60 (by decide) (fun c60 => ?_) (fun c60 => ?_)
              · refine lv_iconst (v := nI 0) hx hb dX3_sum_67 (by decide) ?_
                refine zk_add hx hb dX3_sum_68 ?_
                refine zk_top (y := nI (smF (capS (szF sg) (nrF (atF sg 4)) kX) (nrF (atF sg 4) kX) jX + nrF (atF sg 4) kX jX)) (congrArg nI (by simp only [nrF, atF]; first | rw [if_pos c60] | rw [if_neg c60])) ?_
                refine lv_istore_n (lv' := [(2, .int (nI (smF (capS (szF sg) (nrF (atF sg 4)) kX) (nrF (atF sg 4) kX) jX + nrF (atF sg 4) kX jX))), (0, .ref b0), (1, .int (nI 7)), (3, .int (nI kX)), (4, .int (nI jX))]) hx hb dX3_sum_69 rfl hl (by decide) rfl (fun ls hl => ?_)
                refine zk_inc (a := jX) (d := 1) (lv' := [(4, .int (nI (jX + 1))), (2, .int (nI (smF (capS (szF sg) (nrF (atF sg 4)) kX) (nrF (atF sg 4) kX) jX + nrF (atF sg 4) kX jX))), (0, .ref b0), (1, .int (nI 7)), (3, .int (nI kX))]) hx hb dX3_sum_70 hl (K := 4) rfl (by decide) (by decide) rfl (fun ls hl => ?_)
                refine lv_goto (tgt := 13) hx hb dX3_sum_73 (by decide) ?_
                exact ih13 (jX + 1) _ (by omega) (by omega) (lv_sub hl [2, 3, 4, 1, 0] rfl)
              · refine lv_iconst (v := nI 1) hx hb dX3_sum_63 (by decide) ?_
                refine lv_goto (tgt := 68) hx hb dX3_sum_64 (by decide) ?_
                refine zk_add hx hb dX3_sum_68 ?_
                refine zk_top (y := nI (smF (capS (szF sg) (nrF (atF sg 4)) kX) (nrF (atF sg 4) kX) jX + nrF (atF sg 4) kX jX)) (congrArg nI (by simp only [nrF, atF]; first | rw [if_pos c60] | rw [if_neg c60])) ?_
                refine lv_istore_n (lv' := [(2, .int (nI (smF (capS (szF sg) (nrF (atF sg 4)) kX) (nrF (atF sg 4) kX) jX + nrF (atF sg 4) kX jX))), (0, .ref b0), (1, .int (nI 7)), (3, .int (nI kX)), (4, .int (nI jX))]) hx hb dX3_sum_69 rfl hl (by decide) rfl (fun ls hl => ?_)
                refine zk_inc (a := jX) (d := 1) (lv' := [(4, .int (nI (jX + 1))), (2, .int (nI (smF (capS (szF sg) (nrF (atF sg 4)) kX) (nrF (atF sg 4) kX) jX + nrF (atF sg 4) kX jX))), (0, .ref b0), (1, .int (nI 7)), (3, .int (nI kX))]) hx hb dX3_sum_70 hl (K := 4) rfl (by decide) (by decide) rfl (fun ls hl => ?_)
                refine lv_goto (tgt := 13) hx hb dX3_sum_73 (by decide) ?_
                exact ih13 (jX + 1) _ (by omega) (by omega) (lv_sub hl [2, 3, 4, 1, 0] rfl)
        exact lp13 _ 0 _ (Nat.lt_succ_self _) (by omega) (lv_sub hl [1, 2, 4, 3, 0] rfl)
  exact lp4 _ 0 _ (Nat.lt_succ_self _) (by omega) (lv_sub hl [2, 3, 1, 0] rfl)
set_option maxRecDepth 100000 in
theorem mwc_unmet_0 : Cond.fieldLink RX3 7 "ExhibitTextsModel" "s" "[I" ∈ wsX3_unmet := by decide +kernel
set_option maxRecDepth 100000 in
theorem mic_unmet_3 : ∀ w ∈ u_ws RX3 TX3 14, w ∈ wsX3_unmet := by decide +kernel
set_option maxHeartbeats 4000000 in
set_option maxRecDepth 100000 in
/-- X3_unmet: unmet -/
theorem c_unmet (l : Launch) (G : zG) (b0 : Nat) (b1 : Nat) (b2 : Nat) (b3 : Nat) (b4 : Nat) (b5 : Nat) (b6 : Nat) (kn : Nat) (ik : Nat) (ty : Nat) (ra : Int32) (rb : Int32) (rd : Nat) (iw : Nat) (fl : Int32) (sg : Nat → Nat) (x : Int32) (hM : mOK sg) : Met l yX3_unmet wsX3_unmet ({ frames := 4, cells := 0, slots := 0, locals := 93 } : Room) (zPc G [.ref b0, .int x] [(b0, .inr (3, [.ref b1, .ref b2, .ref b3, .int (nI kn), .ref b4, .int (nI ik), .ref b5, .int (nI ty), .int ra, .int rb, .int (nI rd), .int (nI iw), .ref b6, .int fl])), (b1, .inl (G.2.1, 618, .inl (arN sg)))]) (vp_Si (fun (rR : Int32) => ((¬ ∃ n : Nat, 4 ≤ n ∧ n ≤ 99 ∧ x = nI n) ∧ rR = (-2)) ∨ (∃ (aX : Nat), 4 ≤ aX ∧ aX ≤ 99 ∧ x = nI aX ∧ rR = andN (allF (szF sg) (atF sg 3) 8) (metF (fun e => shT sg e aX) (atF sg 3) 8)))) 0 0 (fun _ => False) := by
  refine zR (cc := cX3_unmet) (maxL := 5) (ret := (some .int)) (by decide) rfl (Nat.le_of_ble_eq_true rfl) ?_
  intro pP eE sS mM below meth cC hx hb hr hts hown hlk hml hK hN hP hD ls hl
  have hl : lv_has ls 5 [(0, .ref b0), (1, .int x)] := hl
  refine lv_iload_n hx hb dX3_unmet_0 rfl (lv_at hl 1 rfl) ?_
  refine lv_iconst (v := nI 4) hx hb dX3_unmet_1 (by decide) ?_
  refine lv_bipush (v := nI 99) hx hb dX3_unmet_2 (by decide) ?_
  refine zc_S (As := [.int x, .int (nI 4), .int (nI 99)]) (rest := []) ⟨hx, hb, hml, hown, hts⟩ (c_in_c l x 4 99 (by omega) (by omega)) (va_cwS 3 hts gX3_unmet_X3_in rfl rfl rfl (by decide +kernel) ⟨Nat.le_of_ble_eq_true rfl, Nat.le_of_ble_eq_true rfl⟩) rfl hl.1 rfl (Nat.le_of_ble_eq_true rfl) dX3_unmet_4 ⟨Nat.zero_le _, Nat.zero_le _⟩ (fun r4 h4 => ?_)
  rcases h4 with ⟨nX_4, h4_0, h4_1, rfl, rfl⟩ | ⟨h4_0, rfl⟩
  · refine lv_if_ne (tgt := 13) hx hb dX3_unmet_7 (by decide) (fun _ => ?_) (fun q => absurd q (by decide))
    refine lv_iconst (v := nI 0) hx hb dX3_unmet_13 (by decide) ?_
    refine lv_istore_n (lv' := [(2, .int (nI 0)), (0, .ref b0), (1, .int (nI nX_4))]) hx hb dX3_unmet_14 rfl hl (by decide) rfl (fun ls hl => ?_)
    refine lv_iconst (v := nI 0) hx hb dX3_unmet_15 (by decide) ?_
    refine lv_istore_n (lv' := [(3, .int (nI 0)), (2, .int (nI 0)), (0, .ref b0), (1, .int (nI nX_4))]) hx hb dX3_unmet_16 rfl hl (by decide) rfl (fun ls hl => ?_)
    have lp17 : ∀ (fu17 : Nat), ∀ (kX : Nat) (ls : Array Slot), (8 - kX) < fu17 → (kX ≤ 8) → lv_has ls 5 [(0, .ref b0), (1, .int (nI nX_4)), (2, .int (nI (metF (fun e => shT sg e nX_4) (atF sg 3) kX))), (3, .int (nI kX))] → W pP l eE (headSpec wsX3_unmet ({ frames := 4, cells := 0, slots := 0, locals := 93 } : Room)).room sS mM ([.ref b0, .int (nI nX_4)] : List Value).toArray below meth cC sS.heap [] 0 0 (MQ below (vp_Si (fun (rR : Int32) => ((¬ ∃ n : Nat, 4 ≤ n ∧ n ≤ 99 ∧ (nI nX_4) = nI n) ∧ rR = (-2)) ∨ (∃ (aX : Nat), 4 ≤ aX ∧ aX ≤ 99 ∧ (nI nX_4) = nI aX ∧ rR = andN (allF (szF sg) (atF sg 3) 8) (metF (fun e => shT sg e aX) (atF sg 3) 8)))) ([.ref b0, .int (nI nX_4)] : List Value).toArray sS 0 0 (fun _ => False)) (F0 mM 17 ls []) := by
      intro fu17
      induction fu17 with
      | zero => intro kX ls hfu17; exact absurd hfu17 (Nat.not_lt_zero _)
      | succ fu17 ih17 =>
        intro kX ls hfu17 hk hl
        refine lv_iload_n hx hb dX3_unmet_17 rfl (lv_at hl 3 rfl) ?_
        refine lv_bipush (v := nI 8) hx hb dX3_unmet_18 (by decide) ?_
        refine zk_ige (tgt := 63) hx hb dX3_unmet_20 (by decide) (by omega) (by omega) (fun c20 => ?_) (fun c20 => ?_)
        · have hk9 : kX = 8 := by omega
          subst hk9
          refine lv_aload_n hx hb dX3_unmet_63 rfl (lv_at hl 0 rfl) ?_
          refine zc_R (As := []) (rest := []) ⟨hx, hb, hml, hown, hts⟩ (c_allFacts l G b0 b1 b2 b3 b4 b5 b6 kn ik ty ra rb rd iw fl sg (by omega)) (cwV 0 hts gX3_unmet_X3_allFacts rfl rfl rfl (by decide +kernel) ⟨Nat.le_of_ble_eq_true rfl, Nat.le_of_ble_eq_true rfl⟩) hK hN hP hD [0, 1] rfl (by decide) (ci := 3) rfl rfl rfl hl.1 rfl (Nat.le_of_ble_eq_true rfl) dX3_unmet_64 ⟨Nat.zero_le _, Nat.zero_le _⟩ (fun r64 h64 => ?_)
          subst h64
          refine lv_iload_n hx hb dX3_unmet_67 rfl (lv_at hl 2 rfl) ?_
          refine lv_iconst (v := (-1)) hx hb dX3_unmet_68 (by decide) ?_
          refine lv_ixor hx hb dX3_unmet_69 ?_
          refine lv_iand hx hb dX3_unmet_70 ?_
          exact W.iret (v := (nI (allF (szF sg) (atF sg 3) 8)) &&& ((nI (metF (fun e => shT sg e nX_4) (atF sg 3) 8)) ^^^ (-1))) hx hb hr (fun tT ht hW => ⟨_, rfl, Or.inr ⟨nX_4, h4_0, h4_1, rfl, rfl⟩, ht⟩) (fun _ h => absurd h List.not_mem_nil) dX3_unmet_71
        · have hz := hM.2.1 kX (by omega)
          refine lv_aload_n hx hb dX3_unmet_23 rfl (lv_at hl 0 rfl) ?_
          refine lv_iload_n hx hb dX3_unmet_24 rfl (lv_at hl 3 rfl) ?_
          refine lv_iload_n hx hb dX3_unmet_25 rfl (lv_at hl 1 rfl) ?_
          refine zc_R (As := [.int (nI kX), .int (nI nX_4)]) (rest := []) ⟨hx, hb, hml, hown, hts⟩ (c_shownTo l G b0 b1 b2 b3 b4 b5 b6 kn ik ty ra rb rd iw fl sg kX nX_4 (by omega) (by omega) (by omega)) (cwV 2 hts gX3_unmet_X3_shownTo rfl rfl rfl (by decide +kernel) ⟨Nat.le_of_ble_eq_true rfl, Nat.le_of_ble_eq_true rfl⟩) hK hN hP hD [0, 1] rfl (by decide) (ci := 3) rfl rfl rfl hl.1 rfl (Nat.le_of_ble_eq_true rfl) dX3_unmet_26 ⟨Nat.zero_le _, Nat.zero_le _⟩ (fun r26 h26 => ?_)
          rcases h26 with ⟨h26_0, rfl⟩ | ⟨tX_26, h26_0, rfl⟩
          · refine lv_istore (lv' := [(4, .int (-5)), (0, .ref b0), (1, .int (nI nX_4)), (2, .int (nI (metF (fun e => shT sg e nX_4) (atF sg 3) kX))), (3, .int (nI kX))]) hx hb dX3_unmet_29 hl (by decide) rfl (fun ls hl => ?_)
            refine lv_iload_n hx hb dX3_unmet_31 rfl (lv_at hl 3 rfl) ?_
            refine lv_iload hx hb dX3_unmet_32 (lv_at hl 0 rfl) ?_
            refine lv_bipush (v := (-5)) hx hb dX3_unmet_34 (by decide) ?_
            refine lv_icmp_ne (tgt := 43) hx hb dX3_unmet_36 (by decide) (fun q => absurd (by decide) q) (fun _ => ?_)
            refine lv_iconst (v := nI 0) hx hb dX3_unmet_39 (by decide) ?_
            refine lv_goto (tgt := 55) hx hb dX3_unmet_40 (by decide) ?_
            refine zk_or hx hb dX3_unmet_55 ?_
            refine zk_top (y := nI (metF (fun e => shT sg e nX_4) (atF sg 3) (kX + 1))) (congrArg nI (by show _ = metF (fun e => shT sg e nX_4) (atF sg 3) kX ||| (match shT sg kX nX_4 with | none => 0 | some t => atF sg 3 kX t); rw [h26_0] <;> rfl)) ?_
            refine lv_istore_n (lv' := [(2, .int (nI (metF (fun e => shT sg e nX_4) (atF sg 3) (kX + 1)))), (4, .int (-5)), (0, .ref b0), (1, .int (nI nX_4)), (3, .int (nI kX))]) hx hb dX3_unmet_56 rfl hl (by decide) rfl (fun ls hl => ?_)
            refine zk_inc (a := kX) (d := 1) (lv' := [(3, .int (nI (kX + 1))), (2, .int (nI (metF (fun e => shT sg e nX_4) (atF sg 3) (kX + 1)))), (4, .int (-5)), (0, .ref b0), (1, .int (nI nX_4))]) hx hb dX3_unmet_57 hl (K := 4) rfl (by decide) (by decide) rfl (fun ls hl => ?_)
            refine lv_goto (tgt := 17) hx hb dX3_unmet_60 (by decide) ?_
            exact ih17 (kX + 1) _ (by omega) (by omega) (lv_sub hl [3, 4, 1, 0] rfl)
          · have hlt := shA_lt h26_0
            refine lv_istore (lv' := [(4, .int (nI tX_26)), (0, .ref b0), (1, .int (nI nX_4)), (2, .int (nI (metF (fun e => shT sg e nX_4) (atF sg 3) kX))), (3, .int (nI kX))]) hx hb dX3_unmet_29 hl (by decide) rfl (fun ls hl => ?_)
            refine lv_iload_n hx hb dX3_unmet_31 rfl (lv_at hl 3 rfl) ?_
            refine lv_iload hx hb dX3_unmet_32 (lv_at hl 0 rfl) ?_
            refine lv_bipush (v := (-5)) hx hb dX3_unmet_34 (by decide) ?_
            refine lv_icmp_ne (tgt := 43) hx hb dX3_unmet_36 (by decide) (fun _ => ?_) (fun q => absurd q (enc_ne (by have := shA_lt h26_0; omega)))
            refine lv_aload_n hx hb dX3_unmet_43 rfl (lv_at hl 1 rfl) ?_
            refine va_get (D := G.1) (ci := 3) (v := .ref b1) (C := RX3) (T := TX3) (N := 14) hx hb hts mic_unmet_3 hown hK hP 0 rfl rfl 0 (by decide) (hts _ mwc_unmet_0) (fun _ h9 => h9) rfl dX3_unmet_44 ?_
            refine lv_iload_n hx hb dX3_unmet_47 rfl (lv_at hl 4 rfl) ?_
            refine lv_iload hx hb dX3_unmet_48 (lv_at hl 0 rfl) ?_
            refine lv_iconst (v := nI 3) hx hb dX3_unmet_50 (by decide) ?_
            refine zc_S (As := [.int (nI kX), .int (nI tX_26), .int (nI 3)]) (rest := [.ref b1, .int (nI (metF (fun e => shT sg e nX_4) (atF sg 3) kX))]) ⟨hx, hb, hml, hown, hts⟩ (c_of l kX tX_26 3 ) (va_cwS 3 hts gX3_unmet_X3_of rfl rfl rfl (by decide +kernel) ⟨Nat.le_of_ble_eq_true rfl, Nat.le_of_ble_eq_true rfl⟩) rfl hl.1 rfl (Nat.le_of_ble_eq_true rfl) dX3_unmet_51 ⟨Nat.zero_le _, Nat.zero_le _⟩ (fun r51 h51 => ?_)
            subst h51
            refine zk_ald (f := sg) (k := 11 + 76 * kX + 15 * tX_26 + 3) hx hb hK hP 1 0 rfl rfl (Nat.le_of_ble_eq_true rfl) (by omega) dX3_unmet_54 ?_
            refine zk_or hx hb dX3_unmet_55 ?_
            refine zk_top (y := nI (metF (fun e => shT sg e nX_4) (atF sg 3) (kX + 1))) (congrArg nI (by show _ = metF (fun e => shT sg e nX_4) (atF sg 3) kX ||| (match shT sg kX nX_4 with | none => 0 | some t => atF sg 3 kX t); rw [h26_0] <;> rfl)) ?_
            refine lv_istore_n (lv' := [(2, .int (nI (metF (fun e => shT sg e nX_4) (atF sg 3) (kX + 1)))), (4, .int (nI tX_26)), (0, .ref b0), (1, .int (nI nX_4)), (3, .int (nI kX))]) hx hb dX3_unmet_56 rfl hl (by decide) rfl (fun ls hl => ?_)
            refine zk_inc (a := kX) (d := 1) (lv' := [(3, .int (nI (kX + 1))), (2, .int (nI (metF (fun e => shT sg e nX_4) (atF sg 3) (kX + 1)))), (4, .int (nI tX_26)), (0, .ref b0), (1, .int (nI nX_4))]) hx hb dX3_unmet_57 hl (K := 4) rfl (by decide) (by decide) rfl (fun ls hl => ?_)
            refine lv_goto (tgt := 17) hx hb dX3_unmet_60 (by decide) ?_
            exact ih17 (kX + 1) _ (by omega) (by omega) (lv_sub hl [3, 4, 1, 0] rfl)
    exact lp17 _ 0 _ (Nat.lt_succ_self _) (by omega) (lv_sub hl [2, 3, 1, 0] rfl)
  · refine lv_if_ne (tgt := 13) hx hb dX3_unmet_7 (by decide) (fun q => absurd (by decide) q) (fun _ => ?_)
    refine lv_bipush (v := (-2)) hx hb dX3_unmet_10 (by decide) ?_
    exact W.iret (v := (-2)) hx hb hr (fun tT ht hW => ⟨_, rfl, Or.inl ⟨h4_0, rfl⟩, ht⟩) (fun _ h => absurd h List.not_mem_nil) dX3_unmet_12
set_option maxRecDepth 100000 in
theorem mwc_round_0 : Cond.fieldLink RX3 7 "ExhibitTextsModel" "s" "[I" ∈ wsX3_round := by decide +kernel
set_option maxRecDepth 100000 in
theorem mic_round_3 : ∀ w ∈ u_ws RX3 TX3 14, w ∈ wsX3_round := by decide +kernel
set_option maxHeartbeats 4000000 in
set_option maxRecDepth 100000 in
/-- X3_round: round -/
theorem c_round (l : Launch) (G : zG) (b0 : Nat) (b1 : Nat) (b2 : Nat) (b3 : Nat) (b4 : Nat) (b5 : Nat) (b6 : Nat) (kn : Nat) (ik : Nat) (ty : Nat) (ra : Int32) (rb : Int32) (rd : Nat) (iw : Nat) (fl : Int32) (sg : Nat → Nat) (x : Int32) (y : Int32) (z : Int32) (hM : mOK sg) : Met l yX3_round wsX3_round ({ frames := 4, cells := 0, slots := 0, locals := 93 } : Room) (zPc G [.ref b0, .int x, .int y, .int z] [(b0, .inr (3, [.ref b1, .ref b2, .ref b3, .int (nI kn), .ref b4, .int (nI ik), .ref b5, .int (nI ty), .int ra, .int rb, .int (nI rd), .int (nI iw), .ref b6, .int fl])), (b1, .inl (G.2.1, 618, .inl (arN sg)))]) (vp_Si (fun (rR : Int32) => (¬ pVi x y z ∧ rR = (-2)) ∨ (∃ (aX : Nat) (pX : Nat) (sX : Nat), 4 ≤ aX ∧ aX ≤ 99 ∧ 30 ≤ pX ∧ pX ≤ 400 ∧ 1 ≤ sX ∧ sX ≤ 9999 ∧ x = nI aX ∧ y = nI pX ∧ z = nI sX ∧ rR = nI ((rnS (sg 1) pX sX (fun k => shT sg ((sg 0 + k) % 8) aX) (fun k => atF sg 3 ((sg 0 + k) % 8)) (fun k => atF sg 0 ((sg 0 + k) % 8)) 8).2)))) 0 0 (fun _ => False) := by
  refine zR (cc := cX3_round) (maxL := 11) (ret := (some .int)) (by decide) rfl (Nat.le_of_ble_eq_true rfl) ?_
  intro pP eE sS mM below meth cC hx hb hr hts hown hlk hml hK hN hP hD ls hl
  have hl : lv_has ls 11 [(0, .ref b0), (1, .int x), (2, .int y), (3, .int z)] := hl
  have h00 := hM.1.1
  have h11 := hM.1.2.1
  refine lv_iload_n hx hb dX3_round_0 rfl (lv_at hl 1 rfl) ?_
  refine lv_iconst (v := nI 4) hx hb dX3_round_1 (by decide) ?_
  refine lv_bipush (v := nI 99) hx hb dX3_round_2 (by decide) ?_
  refine zc_S (As := [.int x, .int (nI 4), .int (nI 99)]) (rest := []) ⟨hx, hb, hml, hown, hts⟩ (c_in_c l x 4 99 (by omega) (by omega)) (va_cwS 3 hts gX3_round_X3_in rfl rfl rfl (by decide +kernel) ⟨Nat.le_of_ble_eq_true rfl, Nat.le_of_ble_eq_true rfl⟩) rfl hl.1 rfl (Nat.le_of_ble_eq_true rfl) dX3_round_4 ⟨Nat.zero_le _, Nat.zero_le _⟩ (fun r4 h4 => ?_)
  rcases h4 with ⟨nX_4, h4_0, h4_1, rfl, rfl⟩ | ⟨h4_0, rfl⟩
  · refine lv_if_eq (tgt := 33) hx hb dX3_round_7 (by decide) (fun q => absurd q (by decide)) (fun _ => ?_)
    refine lv_iload_n hx hb dX3_round_10 rfl (lv_at hl 2 rfl) ?_
    refine lv_bipush (v := nI 30) hx hb dX3_round_11 (by decide) ?_
    refine lv_sipush (v := nI 400) hx hb dX3_round_13 (by decide) ?_
    refine zc_S (As := [.int y, .int (nI 30), .int (nI 400)]) (rest := []) ⟨hx, hb, hml, hown, hts⟩ (c_in_c l y 30 400 (by omega) (by omega)) (va_cwS 3 hts gX3_round_X3_in rfl rfl rfl (by decide +kernel) ⟨Nat.le_of_ble_eq_true rfl, Nat.le_of_ble_eq_true rfl⟩) rfl hl.1 rfl (Nat.le_of_ble_eq_true rfl) dX3_round_16 ⟨Nat.zero_le _, Nat.zero_le _⟩ (fun r16 h16 => ?_)
    rcases h16 with ⟨nX_16, h16_0, h16_1, rfl, rfl⟩ | ⟨h16_0, rfl⟩
    · refine lv_if_eq (tgt := 33) hx hb dX3_round_19 (by decide) (fun q => absurd q (by decide)) (fun _ => ?_)
      refine lv_iload_n hx hb dX3_round_22 rfl (lv_at hl 3 rfl) ?_
      refine lv_iconst (v := nI 1) hx hb dX3_round_23 (by decide) ?_
      refine lv_sipush (v := nI 9999) hx hb dX3_round_24 (by decide) ?_
      refine zc_S (As := [.int z, .int (nI 1), .int (nI 9999)]) (rest := []) ⟨hx, hb, hml, hown, hts⟩ (c_in_c l z 1 9999 (by omega) (by omega)) (va_cwS 3 hts gX3_round_X3_in rfl rfl rfl (by decide +kernel) ⟨Nat.le_of_ble_eq_true rfl, Nat.le_of_ble_eq_true rfl⟩) rfl hl.1 rfl (Nat.le_of_ble_eq_true rfl) dX3_round_27 ⟨Nat.zero_le _, Nat.zero_le _⟩ (fun r27 h27 => ?_)
      rcases h27 with ⟨nX_27, h27_0, h27_1, rfl, rfl⟩ | ⟨h27_0, rfl⟩
      · refine lv_if_ne (tgt := 36) hx hb dX3_round_30 (by decide) (fun _ => ?_) (fun q => absurd q (by decide))
        refine lv_iload_n hx hb dX3_round_36 rfl (lv_at hl 3 rfl) ?_
        refine lv_istore (lv' := [(4, .int (nI nX_27)), (0, .ref b0), (1, .int (nI nX_4)), (2, .int (nI nX_16)), (3, .int (nI nX_27))]) hx hb dX3_round_37 hl (by decide) rfl (fun ls hl => ?_)
        refine lv_iconst (v := nI 0) hx hb dX3_round_39 (by decide) ?_
        refine lv_istore (lv' := [(5, .int (nI 0)), (4, .int (nI nX_27)), (0, .ref b0), (1, .int (nI nX_4)), (2, .int (nI nX_16)), (3, .int (nI nX_27))]) hx hb dX3_round_40 hl (by decide) rfl (fun ls hl => ?_)
        refine lv_iconst (v := nI 0) hx hb dX3_round_42 (by decide) ?_
        refine lv_istore (lv' := [(6, .int (nI 0)), (5, .int (nI 0)), (4, .int (nI nX_27)), (0, .ref b0), (1, .int (nI nX_4)), (2, .int (nI nX_16)), (3, .int (nI nX_27))]) hx hb dX3_round_43 hl (by decide) rfl (fun ls hl => ?_)
        have lp45 : ∀ (fu45 : Nat), ∀ (kX : Nat) (lf : Nat) (le : Nat) (ls : Array Slot), (8 - kX) < fu45 → (kX ≤ 8) → (lf ≤ 9999) → (rnS (sg 1) nX_16 nX_27 (fun k => shT sg ((sg 0 + k) % 8) nX_4) (fun k => atF sg 3 ((sg 0 + k) % 8)) (fun k => atF sg 0 ((sg 0 + k) % 8)) kX = (lf, le)) → lv_has ls 11 [(0, .ref b0), (1, .int (nI nX_4)), (2, .int (nI nX_16)), (3, .int (nI nX_27)), (4, .int (nI lf)), (5, .int (nI le)), (6, .int (nI kX))] → W pP l eE (headSpec wsX3_round ({ frames := 4, cells := 0, slots := 0, locals := 93 } : Room)).room sS mM ([.ref b0, .int (nI nX_4), .int (nI nX_16), .int (nI nX_27)] : List Value).toArray below meth cC sS.heap [] 0 0 (MQ below (vp_Si (fun (rR : Int32) => (¬ pVi (nI nX_4) (nI nX_16) (nI nX_27) ∧ rR = (-2)) ∨ (∃ (aX : Nat) (pX : Nat) (sX : Nat), 4 ≤ aX ∧ aX ≤ 99 ∧ 30 ≤ pX ∧ pX ≤ 400 ∧ 1 ≤ sX ∧ sX ≤ 9999 ∧ (nI nX_4) = nI aX ∧ (nI nX_16) = nI pX ∧ (nI nX_27) = nI sX ∧ rR = nI ((rnS (sg 1) pX sX (fun k => shT sg ((sg 0 + k) % 8) aX) (fun k => atF sg 3 ((sg 0 + k) % 8)) (fun k => atF sg 0 ((sg 0 + k) % 8)) 8).2)))) ([.ref b0, .int (nI nX_4), .int (nI nX_16), .int (nI nX_27)] : List Value).toArray sS 0 0 (fun _ => False)) (F0 mM 45 ls []) := by
          intro fu45
          induction fu45 with
          | zero => intro kX lf le ls hfu45; exact absurd hfu45 (Nat.not_lt_zero _)
          | succ fu45 ih45 =>
            intro kX lf le ls hfu45 hk hlf hq hl
            refine lv_iload hx hb dX3_round_45 (lv_at hl 6 rfl) ?_
            refine lv_bipush (v := nI 8) hx hb dX3_round_47 (by decide) ?_
            refine zk_ige (tgt := 194) hx hb dX3_round_49 (by decide) (by omega) (by omega) (fun c49 => ?_) (fun c49 => ?_)
            · refine lv_iload hx hb dX3_round_194 (lv_at hl 5 rfl) ?_
              have hk9 : kX = 8 := by omega
              subst hk9
              exact W.iret (v := nI le) hx hb hr (fun tT ht hW => ⟨_, rfl, Or.inr ⟨nX_4, nX_16, nX_27, h4_0, h4_1, h16_0, h16_1, h27_0, h27_1, rfl, rfl, rfl, by rw [hq]⟩, ht⟩) (fun _ h => absurd h List.not_mem_nil) dX3_round_196
            · refine lv_aload_n hx hb dX3_round_52 rfl (lv_at hl 0 rfl) ?_
              refine va_get (D := G.1) (ci := 3) (v := .ref b1) (C := RX3) (T := TX3) (N := 14) hx hb hts mic_round_3 hown hK hP 0 rfl rfl 0 (by decide) (hts _ mwc_round_0) (fun _ h9 => h9) rfl dX3_round_53 ?_
              refine lv_iconst (v := nI 0) hx hb dX3_round_56 (by decide) ?_
              refine zk_ald (f := sg) (k := 0) hx hb hK hP 1 0 rfl rfl (Nat.le_of_ble_eq_true rfl) (by omega) dX3_round_57 ?_
              refine lv_iload hx hb dX3_round_58 (lv_at hl 6 rfl) ?_
              refine zk_add hx hb dX3_round_60 ?_
              refine lv_bipush (v := nI 8) hx hb dX3_round_61 (by decide) ?_
              refine zk_rem hx hb dX3_round_63 (by omega) (by omega) (by omega) ?_
              refine lv_istore (lv' := [(7, .int (nI (((sg 0) + kX) % 8))), (0, .ref b0), (1, .int (nI nX_4)), (2, .int (nI nX_16)), (3, .int (nI nX_27)), (4, .int (nI lf)), (5, .int (nI le)), (6, .int (nI kX))]) hx hb dX3_round_64 hl (by decide) rfl (fun ls hl => ?_)
              have h7 := Nat.mod_lt (sg 0 + kX) (show 0 < 8 by decide)
              have hz := hM.2.1 _ h7
              refine lv_aload_n hx hb dX3_round_66 rfl (lv_at hl 1 rfl) ?_
              refine lv_iload hx hb dX3_round_67 (lv_at hl 0 rfl) ?_
              refine lv_iload_n hx hb dX3_round_69 rfl (lv_at hl 2 rfl) ?_
              refine zc_R (As := [.int (nI (((sg 0) + kX) % 8)), .int (nI nX_4)]) (rest := []) ⟨hx, hb, hml, hown, hts⟩ (c_shownTo l G b0 b1 b2 b3 b4 b5 b6 kn ik ty ra rb rd iw fl sg (((sg 0) + kX) % 8) nX_4 (by omega) (Nat.mod_lt _ (by decide)) (by omega)) (cwV 2 hts gX3_round_X3_shownTo rfl rfl rfl (by decide +kernel) ⟨Nat.le_of_ble_eq_true rfl, Nat.le_of_ble_eq_true rfl⟩) hK hN hP hD [0, 1] rfl (by decide) (ci := 3) rfl rfl rfl hl.1 rfl (Nat.le_of_ble_eq_true rfl) dX3_round_70 ⟨Nat.zero_le _, Nat.zero_le _⟩ (fun r70 h70 => ?_)
              rcases h70 with ⟨h70_0, rfl⟩ | ⟨tX_70, h70_0, rfl⟩
              · refine lv_istore (lv' := [(8, .int (-5)), (7, .int (nI (((sg 0) + kX) % 8))), (0, .ref b0), (1, .int (nI nX_4)), (2, .int (nI nX_16)), (3, .int (nI nX_27)), (4, .int (nI lf)), (5, .int (nI le)), (6, .int (nI kX))]) hx hb dX3_round_73 hl (by decide) rfl (fun ls hl => ?_)
                refine lv_iload hx hb dX3_round_75 (lv_at hl 0 rfl) ?_
                refine lv_bipush (v := (-5)) hx hb dX3_round_77 (by decide) ?_
                refine lv_icmp_ne (tgt := 86) hx hb dX3_round_79 (by decide) (fun q => absurd (by decide) q) (fun _ => ?_)
                refine lv_iconst (v := nI 0) hx hb dX3_round_82 (by decide) ?_
                refine lv_goto (tgt := 99) hx hb dX3_round_83 (by decide) ?_
                refine lv_istore (lv' := [(9, .int (nI 0)), (8, .int (-5)), (7, .int (nI (((sg 0) + kX) % 8))), (0, .ref b0), (1, .int (nI nX_4)), (2, .int (nI nX_16)), (3, .int (nI nX_27)), (4, .int (nI lf)), (5, .int (nI le)), (6, .int (nI kX))]) hx hb dX3_round_99 hl (by decide) rfl (fun ls hl => ?_)
                refine lv_iload hx hb dX3_round_101 (lv_at hl 1 rfl) ?_
                refine lv_bipush (v := (-5)) hx hb dX3_round_103 (by decide) ?_
                refine lv_icmp_ne (tgt := 112) hx hb dX3_round_105 (by decide) (fun q => absurd (by decide) q) (fun _ => ?_)
                refine lv_iconst (v := nI 0) hx hb dX3_round_108 (by decide) ?_
                refine lv_goto (tgt := 129) hx hb dX3_round_109 (by decide) ?_
                refine lv_istore (lv' := [(10, .int (nI 0)), (9, .int (nI 0)), (8, .int (-5)), (7, .int (nI (((sg 0) + kX) % 8))), (0, .ref b0), (1, .int (nI nX_4)), (2, .int (nI nX_16)), (3, .int (nI nX_27)), (4, .int (nI lf)), (5, .int (nI le)), (6, .int (nI kX))]) hx hb dX3_round_129 hl (by decide) rfl (fun ls hl => ?_)
                refine lv_iload hx hb dX3_round_131 (lv_at hl 1 rfl) ?_
                refine lv_iload hx hb dX3_round_133 (lv_at hl 9 rfl) ?_
                refine lv_iconst (v := (-1)) hx hb dX3_round_135 (by decide) ?_
                refine lv_ixor hx hb dX3_round_136 ?_
                refine lv_iand hx hb dX3_round_137 ?_
                refine lv_if_eq (tgt := 162) hx hb dX3_round_138 (by decide) (fun _ => ?_) (fun q => absurd (zA_0and _) q)
                refine lv_iload hx hb dX3_round_162 (lv_at hl 8 rfl) ?_
                refine lv_aload_n hx hb dX3_round_164 rfl (lv_at hl 4 rfl) ?_
                refine va_get (D := G.1) (ci := 3) (v := .ref b1) (C := RX3) (T := TX3) (N := 14) hx hb hts mic_round_3 hown hK hP 0 rfl rfl 0 (by decide) (hts _ mwc_round_0) (fun _ h9 => h9) rfl dX3_round_165 ?_
                refine lv_iconst (v := nI 1) hx hb dX3_round_168 (by decide) ?_
                refine zk_ald (f := sg) (k := 1) hx hb hK hP 1 0 rfl rfl (Nat.le_of_ble_eq_true rfl) (by omega) dX3_round_169 ?_
                refine zk_ige (tgt := 177) hx hb dX3_round_170 (by decide) (by omega) (by omega) (fun c170 => ?_) (fun c170 => ?_)
                · refine lv_iload hx hb dX3_round_177 (lv_at hl 8 rfl) ?_
                  refine lv_aload_n hx hb dX3_round_179 rfl (lv_at hl 4 rfl) ?_
                  refine va_get (D := G.1) (ci := 3) (v := .ref b1) (C := RX3) (T := TX3) (N := 14) hx hb hts mic_round_3 hown hK hP 0 rfl rfl 0 (by decide) (hts _ mwc_round_0) (fun _ h9 => h9) rfl dX3_round_180 ?_
                  refine lv_iconst (v := nI 1) hx hb dX3_round_183 (by decide) ?_
                  refine zk_ald (f := sg) (k := 1) hx hb hK hP 1 0 rfl rfl (Nat.le_of_ble_eq_true rfl) (by omega) dX3_round_184 ?_
                  refine zk_sub hx hb dX3_round_185 (by omega) ?_
                  refine lv_istore (lv' := [(4, .int (nI (lf - (sg 1)))), (10, .int (nI 0)), (9, .int (nI 0)), (8, .int (-5)), (7, .int (nI (((sg 0) + kX) % 8))), (0, .ref b0), (1, .int (nI nX_4)), (2, .int (nI nX_16)), (3, .int (nI nX_27)), (5, .int (nI le)), (6, .int (nI kX))]) hx hb dX3_round_186 hl (by decide) rfl (fun ls hl => ?_)
                  refine zk_inc (a := kX) (d := 1) (lv' := [(6, .int (nI (kX + 1))), (4, .int (nI (lf - (sg 1)))), (10, .int (nI 0)), (9, .int (nI 0)), (8, .int (-5)), (7, .int (nI (((sg 0) + kX) % 8))), (0, .ref b0), (1, .int (nI nX_4)), (2, .int (nI nX_16)), (3, .int (nI nX_27)), (5, .int (nI le))]) hx hb dX3_round_188 hl (K := 10) rfl (by decide) (by decide) rfl (fun ls hl => ?_)
                  refine lv_goto (tgt := 45) hx hb dX3_round_191 (by decide) ?_
                  exact ih45 (kX + 1) (lf - (sg 1)) le _ (by omega) (by omega) (by omega) (by show rnStep _ _ _ _ _ (rnS (sg 1) nX_16 nX_27 (fun k => shT sg ((sg 0 + k) % 8) nX_4) (fun k => atF sg 3 ((sg 0 + k) % 8)) (fun k => atF sg 0 ((sg 0 + k) % 8)) kX) = _; rw [hq]; dsimp only; rw [h70_0]; show (lf - sg 1, le) = _; exact zp_mk (by omega) rfl) (lv_sub hl [6, 7, 8, 9, 1, 10, 0] rfl)
                · refine lv_iconst (v := nI 0) hx hb dX3_round_173 (by decide) ?_
                  refine lv_goto (tgt := 186) hx hb dX3_round_174 (by decide) ?_
                  refine lv_istore (lv' := [(4, .int (nI 0)), (10, .int (nI 0)), (9, .int (nI 0)), (8, .int (-5)), (7, .int (nI (((sg 0) + kX) % 8))), (0, .ref b0), (1, .int (nI nX_4)), (2, .int (nI nX_16)), (3, .int (nI nX_27)), (5, .int (nI le)), (6, .int (nI kX))]) hx hb dX3_round_186 hl (by decide) rfl (fun ls hl => ?_)
                  refine zk_inc (a := kX) (d := 1) (lv' := [(6, .int (nI (kX + 1))), (4, .int (nI 0)), (10, .int (nI 0)), (9, .int (nI 0)), (8, .int (-5)), (7, .int (nI (((sg 0) + kX) % 8))), (0, .ref b0), (1, .int (nI nX_4)), (2, .int (nI nX_16)), (3, .int (nI nX_27)), (5, .int (nI le))]) hx hb dX3_round_188 hl (K := 10) rfl (by decide) (by decide) rfl (fun ls hl => ?_)
                  refine lv_goto (tgt := 45) hx hb dX3_round_191 (by decide) ?_
                  exact ih45 (kX + 1) 0 le _ (by omega) (by omega) (by omega) (by show rnStep _ _ _ _ _ (rnS (sg 1) nX_16 nX_27 (fun k => shT sg ((sg 0 + k) % 8) nX_4) (fun k => atF sg 3 ((sg 0 + k) % 8)) (fun k => atF sg 0 ((sg 0 + k) % 8)) kX) = _; rw [hq]; dsimp only; rw [h70_0]; show (lf - sg 1, le) = _; exact zp_mk (by omega) rfl) (lv_sub hl [6, 7, 8, 9, 1, 10, 0] rfl)
              · have hlt := shA_lt h70_0
                have hTX := hM.2.2 _ _ h7 hlt
                have hw3 := hTX.1.2
                have hsl := secs_le hw3 h16_0
                refine lv_istore (lv' := [(8, .int (nI tX_70)), (7, .int (nI (((sg 0) + kX) % 8))), (0, .ref b0), (1, .int (nI nX_4)), (2, .int (nI nX_16)), (3, .int (nI nX_27)), (4, .int (nI lf)), (5, .int (nI le)), (6, .int (nI kX))]) hx hb dX3_round_73 hl (by decide) rfl (fun ls hl => ?_)
                refine lv_iload hx hb dX3_round_75 (lv_at hl 0 rfl) ?_
                refine lv_bipush (v := (-5)) hx hb dX3_round_77 (by decide) ?_
                refine lv_icmp_ne (tgt := 86) hx hb dX3_round_79 (by decide) (fun _ => ?_) (fun q => absurd q (enc_ne (by omega)))
                refine lv_aload_n hx hb dX3_round_86 rfl (lv_at hl 2 rfl) ?_
                refine va_get (D := G.1) (ci := 3) (v := .ref b1) (C := RX3) (T := TX3) (N := 14) hx hb hts mic_round_3 hown hK hP 0 rfl rfl 0 (by decide) (hts _ mwc_round_0) (fun _ h9 => h9) rfl dX3_round_87 ?_
                refine lv_iload hx hb dX3_round_90 (lv_at hl 1 rfl) ?_
                refine lv_iload hx hb dX3_round_92 (lv_at hl 0 rfl) ?_
                refine lv_iconst (v := nI 3) hx hb dX3_round_94 (by decide) ?_
                refine zc_S (As := [.int (nI (((sg 0) + kX) % 8)), .int (nI tX_70), .int (nI 3)]) (rest := [.ref b1]) ⟨hx, hb, hml, hown, hts⟩ (c_of l (((sg 0) + kX) % 8) tX_70 3 ) (va_cwS 3 hts gX3_round_X3_of rfl rfl rfl (by decide +kernel) ⟨Nat.le_of_ble_eq_true rfl, Nat.le_of_ble_eq_true rfl⟩) rfl hl.1 rfl (Nat.le_of_ble_eq_true rfl) dX3_round_95 ⟨Nat.zero_le _, Nat.zero_le _⟩ (fun r95 h95 => ?_)
                subst h95
                refine zk_ald (f := sg) (k := 11 + 76 * (((sg 0) + kX) % 8) + 15 * tX_70 + 3) hx hb hK hP 1 0 rfl rfl (Nat.le_of_ble_eq_true rfl) (by omega) dX3_round_98 ?_
                refine lv_istore (lv' := [(9, .int (nI (sg (11 + 76 * (((sg 0) + kX) % 8) + 15 * tX_70 + 3)))), (8, .int (nI tX_70)), (7, .int (nI (((sg 0) + kX) % 8))), (0, .ref b0), (1, .int (nI nX_4)), (2, .int (nI nX_16)), (3, .int (nI nX_27)), (4, .int (nI lf)), (5, .int (nI le)), (6, .int (nI kX))]) hx hb dX3_round_99 hl (by decide) rfl (fun ls hl => ?_)
                refine lv_iload hx hb dX3_round_101 (lv_at hl 1 rfl) ?_
                refine lv_bipush (v := (-5)) hx hb dX3_round_103 (by decide) ?_
                refine lv_icmp_ne (tgt := 112) hx hb dX3_round_105 (by decide) (fun _ => ?_) (fun q => absurd q (enc_ne (by omega)))
                refine lv_aload_n hx hb dX3_round_112 rfl (lv_at hl 3 rfl) ?_
                refine va_get (D := G.1) (ci := 3) (v := .ref b1) (C := RX3) (T := TX3) (N := 14) hx hb hts mic_round_3 hown hK hP 0 rfl rfl 0 (by decide) (hts _ mwc_round_0) (fun _ h9 => h9) rfl dX3_round_113 ?_
                refine lv_iload hx hb dX3_round_116 (lv_at hl 2 rfl) ?_
                refine lv_iload hx hb dX3_round_118 (lv_at hl 1 rfl) ?_
                refine lv_iconst (v := nI 0) hx hb dX3_round_120 (by decide) ?_
                refine zc_S (As := [.int (nI (((sg 0) + kX) % 8)), .int (nI tX_70), .int (nI 0)]) (rest := [.ref b1]) ⟨hx, hb, hml, hown, hts⟩ (c_of l (((sg 0) + kX) % 8) tX_70 0 ) (va_cwS 3 hts gX3_round_X3_of rfl rfl rfl (by decide +kernel) ⟨Nat.le_of_ble_eq_true rfl, Nat.le_of_ble_eq_true rfl⟩) rfl hl.1 rfl (Nat.le_of_ble_eq_true rfl) dX3_round_121 ⟨Nat.zero_le _, Nat.zero_le _⟩ (fun r121 h121 => ?_)
                subst h121
                refine zk_ald (f := sg) (k := 11 + 76 * (((sg 0) + kX) % 8) + 15 * tX_70 + 0) hx hb hK hP 1 0 rfl rfl (Nat.le_of_ble_eq_true rfl) (by omega) dX3_round_124 ?_
                refine lv_iload_n hx hb dX3_round_125 rfl (lv_at hl 5 rfl) ?_
                refine zc_S (As := [.int (nI (sg (11 + 76 * (((sg 0) + kX) % 8) + 15 * tX_70 + 0))), .int (nI nX_16)]) (rest := []) ⟨hx, hb, hml, hown, hts⟩ (c_seconds l (sg (11 + 76 * (((sg 0) + kX) % 8) + 15 * tX_70 + 0)) nX_16 hw3 (by omega) (by omega)) (va_cwS 2 hts gX3_round_X3_seconds rfl rfl rfl (by decide +kernel) ⟨Nat.le_of_ble_eq_true rfl, Nat.le_of_ble_eq_true rfl⟩) rfl hl.1 rfl (Nat.le_of_ble_eq_true rfl) dX3_round_126 ⟨Nat.zero_le _, Nat.zero_le _⟩ (fun r126 h126 => ?_)
                subst h126
                refine lv_istore (lv' := [(10, .int (nI (secs (sg (11 + 76 * (((sg 0) + kX) % 8) + 15 * tX_70 + 0)) nX_16))), (9, .int (nI (sg (11 + 76 * (((sg 0) + kX) % 8) + 15 * tX_70 + 3)))), (8, .int (nI tX_70)), (7, .int (nI (((sg 0) + kX) % 8))), (0, .ref b0), (1, .int (nI nX_4)), (2, .int (nI nX_16)), (3, .int (nI nX_27)), (4, .int (nI lf)), (5, .int (nI le)), (6, .int (nI kX))]) hx hb dX3_round_129 hl (by decide) rfl (fun ls hl => ?_)
                refine lv_iload hx hb dX3_round_131 (lv_at hl 1 rfl) ?_
                refine lv_iload hx hb dX3_round_133 (lv_at hl 9 rfl) ?_
                refine lv_iconst (v := (-1)) hx hb dX3_round_135 (by decide) ?_
                refine lv_ixor hx hb dX3_round_136 ?_
                refine lv_iand hx hb dX3_round_137 ?_
                refine lv_if_eq (tgt := 162) hx hb dX3_round_138 (by decide) (fun c138 => ?_) (fun c138 => ?_)
                · refine lv_iload hx hb dX3_round_162 (lv_at hl 8 rfl) ?_
                  refine lv_aload_n hx hb dX3_round_164 rfl (lv_at hl 4 rfl) ?_
                  refine va_get (D := G.1) (ci := 3) (v := .ref b1) (C := RX3) (T := TX3) (N := 14) hx hb hts mic_round_3 hown hK hP 0 rfl rfl 0 (by decide) (hts _ mwc_round_0) (fun _ h9 => h9) rfl dX3_round_165 ?_
                  refine lv_iconst (v := nI 1) hx hb dX3_round_168 (by decide) ?_
                  refine zk_ald (f := sg) (k := 1) hx hb hK hP 1 0 rfl rfl (Nat.le_of_ble_eq_true rfl) (by omega) dX3_round_169 ?_
                  refine zk_ige (tgt := 177) hx hb dX3_round_170 (by decide) (by omega) (by omega) (fun c170 => ?_) (fun c170 => ?_)
                  · refine lv_iload hx hb dX3_round_177 (lv_at hl 8 rfl) ?_
                    refine lv_aload_n hx hb dX3_round_179 rfl (lv_at hl 4 rfl) ?_
                    refine va_get (D := G.1) (ci := 3) (v := .ref b1) (C := RX3) (T := TX3) (N := 14) hx hb hts mic_round_3 hown hK hP 0 rfl rfl 0 (by decide) (hts _ mwc_round_0) (fun _ h9 => h9) rfl dX3_round_180 ?_
                    refine lv_iconst (v := nI 1) hx hb dX3_round_183 (by decide) ?_
                    refine zk_ald (f := sg) (k := 1) hx hb hK hP 1 0 rfl rfl (Nat.le_of_ble_eq_true rfl) (by omega) dX3_round_184 ?_
                    refine zk_sub hx hb dX3_round_185 (by omega) ?_
                    refine lv_istore (lv' := [(4, .int (nI (lf - (sg 1)))), (10, .int (nI (secs (sg (11 + 76 * (((sg 0) + kX) % 8) + 15 * tX_70 + 0)) nX_16))), (9, .int (nI (sg (11 + 76 * (((sg 0) + kX) % 8) + 15 * tX_70 + 3)))), (8, .int (nI tX_70)), (7, .int (nI (((sg 0) + kX) % 8))), (0, .ref b0), (1, .int (nI nX_4)), (2, .int (nI nX_16)), (3, .int (nI nX_27)), (5, .int (nI le)), (6, .int (nI kX))]) hx hb dX3_round_186 hl (by decide) rfl (fun ls hl => ?_)
                    refine zk_inc (a := kX) (d := 1) (lv' := [(6, .int (nI (kX + 1))), (4, .int (nI (lf - (sg 1)))), (10, .int (nI (secs (sg (11 + 76 * (((sg 0) + kX) % 8) + 15 * tX_70 + 0)) nX_16))), (9, .int (nI (sg (11 + 76 * (((sg 0) + kX) % 8) + 15 * tX_70 + 3)))), (8, .int (nI tX_70)), (7, .int (nI (((sg 0) + kX) % 8))), (0, .ref b0), (1, .int (nI nX_4)), (2, .int (nI nX_16)), (3, .int (nI nX_27)), (5, .int (nI le))]) hx hb dX3_round_188 hl (K := 10) rfl (by decide) (by decide) rfl (fun ls hl => ?_)
                    refine lv_goto (tgt := 45) hx hb dX3_round_191 (by decide) ?_
                    exact ih45 (kX + 1) (lf - (sg 1)) le _ (by omega) (by omega) (by omega) (by show rnStep _ _ _ _ _ (rnS (sg 1) nX_16 nX_27 (fun k => shT sg ((sg 0 + k) % 8) nX_4) (fun k => atF sg 3 ((sg 0 + k) % 8)) (fun k => atF sg 0 ((sg 0 + k) % 8)) kX) = _; rw [hq]; dsimp only; rw [h70_0]; show (if ¬ andN (sg (11 + 76 * ((sg 0 + kX) % 8) + 15 * tX_70 + 3)) le = 0 ∧ secs (sg (11 + 76 * ((sg 0 + kX) % 8) + 15 * tX_70 + 0)) nX_16 ≤ lf then (lf - secs (sg (11 + 76 * ((sg 0 + kX) % 8) + 15 * tX_70 + 0)) nX_16 - sg 1, le ||| sg (11 + 76 * ((sg 0 + kX) % 8) + 15 * tX_70 + 3)) else (lf - sg 1, le)) = _; exact (if_neg (fun q => q.1 c138)).trans (zp_mk (by omega) rfl)) (lv_sub hl [6, 7, 8, 9, 1, 10, 0] rfl)
                  · refine lv_iconst (v := nI 0) hx hb dX3_round_173 (by decide) ?_
                    refine lv_goto (tgt := 186) hx hb dX3_round_174 (by decide) ?_
                    refine lv_istore (lv' := [(4, .int (nI 0)), (10, .int (nI (secs (sg (11 + 76 * (((sg 0) + kX) % 8) + 15 * tX_70 + 0)) nX_16))), (9, .int (nI (sg (11 + 76 * (((sg 0) + kX) % 8) + 15 * tX_70 + 3)))), (8, .int (nI tX_70)), (7, .int (nI (((sg 0) + kX) % 8))), (0, .ref b0), (1, .int (nI nX_4)), (2, .int (nI nX_16)), (3, .int (nI nX_27)), (5, .int (nI le)), (6, .int (nI kX))]) hx hb dX3_round_186 hl (by decide) rfl (fun ls hl => ?_)
                    refine zk_inc (a := kX) (d := 1) (lv' := [(6, .int (nI (kX + 1))), (4, .int (nI 0)), (10, .int (nI (secs (sg (11 + 76 * (((sg 0) + kX) % 8) + 15 * tX_70 + 0)) nX_16))), (9, .int (nI (sg (11 + 76 * (((sg 0) + kX) % 8) + 15 * tX_70 + 3)))), (8, .int (nI tX_70)), (7, .int (nI (((sg 0) + kX) % 8))), (0, .ref b0), (1, .int (nI nX_4)), (2, .int (nI nX_16)), (3, .int (nI nX_27)), (5, .int (nI le))]) hx hb dX3_round_188 hl (K := 10) rfl (by decide) (by decide) rfl (fun ls hl => ?_)
                    refine lv_goto (tgt := 45) hx hb dX3_round_191 (by decide) ?_
                    exact ih45 (kX + 1) 0 le _ (by omega) (by omega) (by omega) (by show rnStep _ _ _ _ _ (rnS (sg 1) nX_16 nX_27 (fun k => shT sg ((sg 0 + k) % 8) nX_4) (fun k => atF sg 3 ((sg 0 + k) % 8)) (fun k => atF sg 0 ((sg 0 + k) % 8)) kX) = _; rw [hq]; dsimp only; rw [h70_0]; show (if ¬ andN (sg (11 + 76 * ((sg 0 + kX) % 8) + 15 * tX_70 + 3)) le = 0 ∧ secs (sg (11 + 76 * ((sg 0 + kX) % 8) + 15 * tX_70 + 0)) nX_16 ≤ lf then (lf - secs (sg (11 + 76 * ((sg 0 + kX) % 8) + 15 * tX_70 + 0)) nX_16 - sg 1, le ||| sg (11 + 76 * ((sg 0 + kX) % 8) + 15 * tX_70 + 3)) else (lf - sg 1, le)) = _; exact (if_neg (fun q => q.1 c138)).trans (zp_mk (by omega) rfl)) (lv_sub hl [6, 7, 8, 9, 1, 10, 0] rfl)
                · refine lv_iload hx hb dX3_round_141 (lv_at hl 0 rfl) ?_
                  refine lv_iload hx hb dX3_round_143 (lv_at hl 8 rfl) ?_
                  refine zk_igt (tgt := 162) hx hb dX3_round_145 (by decide) (by omega) (by omega) (fun c145 => ?_) (fun c145 => ?_)
                  · refine lv_iload hx hb dX3_round_162 (lv_at hl 8 rfl) ?_
                    refine lv_aload_n hx hb dX3_round_164 rfl (lv_at hl 4 rfl) ?_
                    refine va_get (D := G.1) (ci := 3) (v := .ref b1) (C := RX3) (T := TX3) (N := 14) hx hb hts mic_round_3 hown hK hP 0 rfl rfl 0 (by decide) (hts _ mwc_round_0) (fun _ h9 => h9) rfl dX3_round_165 ?_
                    refine lv_iconst (v := nI 1) hx hb dX3_round_168 (by decide) ?_
                    refine zk_ald (f := sg) (k := 1) hx hb hK hP 1 0 rfl rfl (Nat.le_of_ble_eq_true rfl) (by omega) dX3_round_169 ?_
                    refine zk_ige (tgt := 177) hx hb dX3_round_170 (by decide) (by omega) (by omega) (fun c170 => ?_) (fun c170 => ?_)
                    · refine lv_iload hx hb dX3_round_177 (lv_at hl 8 rfl) ?_
                      refine lv_aload_n hx hb dX3_round_179 rfl (lv_at hl 4 rfl) ?_
                      refine va_get (D := G.1) (ci := 3) (v := .ref b1) (C := RX3) (T := TX3) (N := 14) hx hb hts mic_round_3 hown hK hP 0 rfl rfl 0 (by decide) (hts _ mwc_round_0) (fun _ h9 => h9) rfl dX3_round_180 ?_
                      refine lv_iconst (v := nI 1) hx hb dX3_round_183 (by decide) ?_
                      refine zk_ald (f := sg) (k := 1) hx hb hK hP 1 0 rfl rfl (Nat.le_of_ble_eq_true rfl) (by omega) dX3_round_184 ?_
                      refine zk_sub hx hb dX3_round_185 (by omega) ?_
                      refine lv_istore (lv' := [(4, .int (nI (lf - (sg 1)))), (10, .int (nI (secs (sg (11 + 76 * (((sg 0) + kX) % 8) + 15 * tX_70 + 0)) nX_16))), (9, .int (nI (sg (11 + 76 * (((sg 0) + kX) % 8) + 15 * tX_70 + 3)))), (8, .int (nI tX_70)), (7, .int (nI (((sg 0) + kX) % 8))), (0, .ref b0), (1, .int (nI nX_4)), (2, .int (nI nX_16)), (3, .int (nI nX_27)), (5, .int (nI le)), (6, .int (nI kX))]) hx hb dX3_round_186 hl (by decide) rfl (fun ls hl => ?_)
                      refine zk_inc (a := kX) (d := 1) (lv' := [(6, .int (nI (kX + 1))), (4, .int (nI (lf - (sg 1)))), (10, .int (nI (secs (sg (11 + 76 * (((sg 0) + kX) % 8) + 15 * tX_70 + 0)) nX_16))), (9, .int (nI (sg (11 + 76 * (((sg 0) + kX) % 8) + 15 * tX_70 + 3)))), (8, .int (nI tX_70)), (7, .int (nI (((sg 0) + kX) % 8))), (0, .ref b0), (1, .int (nI nX_4)), (2, .int (nI nX_16)), (3, .int (nI nX_27)), (5, .int (nI le))]) hx hb dX3_round_188 hl (K := 10) rfl (by decide) (by decide) rfl (fun ls hl => ?_)
                      refine lv_goto (tgt := 45) hx hb dX3_round_191 (by decide) ?_
                      exact ih45 (kX + 1) (lf - (sg 1)) le _ (by omega) (by omega) (by omega) (by show rnStep _ _ _ _ _ (rnS (sg 1) nX_16 nX_27 (fun k => shT sg ((sg 0 + k) % 8) nX_4) (fun k => atF sg 3 ((sg 0 + k) % 8)) (fun k => atF sg 0 ((sg 0 + k) % 8)) kX) = _; rw [hq]; dsimp only; rw [h70_0]; show (if ¬ andN (sg (11 + 76 * ((sg 0 + kX) % 8) + 15 * tX_70 + 3)) le = 0 ∧ secs (sg (11 + 76 * ((sg 0 + kX) % 8) + 15 * tX_70 + 0)) nX_16 ≤ lf then (lf - secs (sg (11 + 76 * ((sg 0 + kX) % 8) + 15 * tX_70 + 0)) nX_16 - sg 1, le ||| sg (11 + 76 * ((sg 0 + kX) % 8) + 15 * tX_70 + 3)) else (lf - sg 1, le)) = _; exact (if_neg (fun q => absurd q.2 (by omega))).trans (zp_mk (by omega) rfl)) (lv_sub hl [6, 7, 8, 9, 1, 10, 0] rfl)
                    · refine lv_iconst (v := nI 0) hx hb dX3_round_173 (by decide) ?_
                      refine lv_goto (tgt := 186) hx hb dX3_round_174 (by decide) ?_
                      refine lv_istore (lv' := [(4, .int (nI 0)), (10, .int (nI (secs (sg (11 + 76 * (((sg 0) + kX) % 8) + 15 * tX_70 + 0)) nX_16))), (9, .int (nI (sg (11 + 76 * (((sg 0) + kX) % 8) + 15 * tX_70 + 3)))), (8, .int (nI tX_70)), (7, .int (nI (((sg 0) + kX) % 8))), (0, .ref b0), (1, .int (nI nX_4)), (2, .int (nI nX_16)), (3, .int (nI nX_27)), (5, .int (nI le)), (6, .int (nI kX))]) hx hb dX3_round_186 hl (by decide) rfl (fun ls hl => ?_)
                      refine zk_inc (a := kX) (d := 1) (lv' := [(6, .int (nI (kX + 1))), (4, .int (nI 0)), (10, .int (nI (secs (sg (11 + 76 * (((sg 0) + kX) % 8) + 15 * tX_70 + 0)) nX_16))), (9, .int (nI (sg (11 + 76 * (((sg 0) + kX) % 8) + 15 * tX_70 + 3)))), (8, .int (nI tX_70)), (7, .int (nI (((sg 0) + kX) % 8))), (0, .ref b0), (1, .int (nI nX_4)), (2, .int (nI nX_16)), (3, .int (nI nX_27)), (5, .int (nI le))]) hx hb dX3_round_188 hl (K := 10) rfl (by decide) (by decide) rfl (fun ls hl => ?_)
                      refine lv_goto (tgt := 45) hx hb dX3_round_191 (by decide) ?_
                      exact ih45 (kX + 1) 0 le _ (by omega) (by omega) (by omega) (by show rnStep _ _ _ _ _ (rnS (sg 1) nX_16 nX_27 (fun k => shT sg ((sg 0 + k) % 8) nX_4) (fun k => atF sg 3 ((sg 0 + k) % 8)) (fun k => atF sg 0 ((sg 0 + k) % 8)) kX) = _; rw [hq]; dsimp only; rw [h70_0]; show (if ¬ andN (sg (11 + 76 * ((sg 0 + kX) % 8) + 15 * tX_70 + 3)) le = 0 ∧ secs (sg (11 + 76 * ((sg 0 + kX) % 8) + 15 * tX_70 + 0)) nX_16 ≤ lf then (lf - secs (sg (11 + 76 * ((sg 0 + kX) % 8) + 15 * tX_70 + 0)) nX_16 - sg 1, le ||| sg (11 + 76 * ((sg 0 + kX) % 8) + 15 * tX_70 + 3)) else (lf - sg 1, le)) = _; exact (if_neg (fun q => absurd q.2 (by omega))).trans (zp_mk (by omega) rfl)) (lv_sub hl [6, 7, 8, 9, 1, 10, 0] rfl)
                  · refine lv_iload hx hb dX3_round_148 (lv_at hl 8 rfl) ?_
                    refine lv_iload hx hb dX3_round_150 (lv_at hl 0 rfl) ?_
                    refine zk_sub hx hb dX3_round_152 (by omega) ?_
                    refine lv_istore (lv' := [(4, .int (nI (lf - (secs (sg (11 + 76 * (((sg 0) + kX) % 8) + 15 * tX_70 + 0)) nX_16)))), (10, .int (nI (secs (sg (11 + 76 * (((sg 0) + kX) % 8) + 15 * tX_70 + 0)) nX_16))), (9, .int (nI (sg (11 + 76 * (((sg 0) + kX) % 8) + 15 * tX_70 + 3)))), (8, .int (nI tX_70)), (7, .int (nI (((sg 0) + kX) % 8))), (0, .ref b0), (1, .int (nI nX_4)), (2, .int (nI nX_16)), (3, .int (nI nX_27)), (5, .int (nI le)), (6, .int (nI kX))]) hx hb dX3_round_153 hl (by decide) rfl (fun ls hl => ?_)
                    refine lv_iload hx hb dX3_round_155 (lv_at hl 9 rfl) ?_
                    refine lv_iload hx hb dX3_round_157 (lv_at hl 2 rfl) ?_
                    refine zk_or hx hb dX3_round_159 ?_
                    refine lv_istore (lv' := [(5, .int (nI (le ||| (sg (11 + 76 * (((sg 0) + kX) % 8) + 15 * tX_70 + 3))))), (4, .int (nI (lf - (secs (sg (11 + 76 * (((sg 0) + kX) % 8) + 15 * tX_70 + 0)) nX_16)))), (10, .int (nI (secs (sg (11 + 76 * (((sg 0) + kX) % 8) + 15 * tX_70 + 0)) nX_16))), (9, .int (nI (sg (11 + 76 * (((sg 0) + kX) % 8) + 15 * tX_70 + 3)))), (8, .int (nI tX_70)), (7, .int (nI (((sg 0) + kX) % 8))), (0, .ref b0), (1, .int (nI nX_4)), (2, .int (nI nX_16)), (3, .int (nI nX_27)), (6, .int (nI kX))]) hx hb dX3_round_160 hl (by decide) rfl (fun ls hl => ?_)
                    refine lv_iload hx hb dX3_round_162 (lv_at hl 1 rfl) ?_
                    refine lv_aload_n hx hb dX3_round_164 rfl (lv_at hl 6 rfl) ?_
                    refine va_get (D := G.1) (ci := 3) (v := .ref b1) (C := RX3) (T := TX3) (N := 14) hx hb hts mic_round_3 hown hK hP 0 rfl rfl 0 (by decide) (hts _ mwc_round_0) (fun _ h9 => h9) rfl dX3_round_165 ?_
                    refine lv_iconst (v := nI 1) hx hb dX3_round_168 (by decide) ?_
                    refine zk_ald (f := sg) (k := 1) hx hb hK hP 1 0 rfl rfl (Nat.le_of_ble_eq_true rfl) (by omega) dX3_round_169 ?_
                    refine zk_ige (tgt := 177) hx hb dX3_round_170 (by decide) (by omega) (by omega) (fun c170 => ?_) (fun c170 => ?_)
                    · refine lv_iload hx hb dX3_round_177 (lv_at hl 1 rfl) ?_
                      refine lv_aload_n hx hb dX3_round_179 rfl (lv_at hl 6 rfl) ?_
                      refine va_get (D := G.1) (ci := 3) (v := .ref b1) (C := RX3) (T := TX3) (N := 14) hx hb hts mic_round_3 hown hK hP 0 rfl rfl 0 (by decide) (hts _ mwc_round_0) (fun _ h9 => h9) rfl dX3_round_180 ?_
                      refine lv_iconst (v := nI 1) hx hb dX3_round_183 (by decide) ?_
                      refine zk_ald (f := sg) (k := 1) hx hb hK hP 1 0 rfl rfl (Nat.le_of_ble_eq_true rfl) (by omega) dX3_round_184 ?_
                      refine zk_sub hx hb dX3_round_185 (by omega) ?_
                      refine lv_istore (lv' := [(4, .int (nI ((lf - (secs (sg (11 + 76 * (((sg 0) + kX) % 8) + 15 * tX_70 + 0)) nX_16)) - (sg 1)))), (5, .int (nI (le ||| (sg (11 + 76 * (((sg 0) + kX) % 8) + 15 * tX_70 + 3))))), (10, .int (nI (secs (sg (11 + 76 * (((sg 0) + kX) % 8) + 15 * tX_70 + 0)) nX_16))), (9, .int (nI (sg (11 + 76 * (((sg 0) + kX) % 8) + 15 * tX_70 + 3)))), (8, .int (nI tX_70)), (7, .int (nI (((sg 0) + kX) % 8))), (0, .ref b0), (1, .int (nI nX_4)), (2, .int (nI nX_16)), (3, .int (nI nX_27)), (6, .int (nI kX))]) hx hb dX3_round_186 hl (by decide) rfl (fun ls hl => ?_)
                      refine zk_inc (a := kX) (d := 1) (lv' := [(6, .int (nI (kX + 1))), (4, .int (nI ((lf - (secs (sg (11 + 76 * (((sg 0) + kX) % 8) + 15 * tX_70 + 0)) nX_16)) - (sg 1)))), (5, .int (nI (le ||| (sg (11 + 76 * (((sg 0) + kX) % 8) + 15 * tX_70 + 3))))), (10, .int (nI (secs (sg (11 + 76 * (((sg 0) + kX) % 8) + 15 * tX_70 + 0)) nX_16))), (9, .int (nI (sg (11 + 76 * (((sg 0) + kX) % 8) + 15 * tX_70 + 3)))), (8, .int (nI tX_70)), (7, .int (nI (((sg 0) + kX) % 8))), (0, .ref b0), (1, .int (nI nX_4)), (2, .int (nI nX_16)), (3, .int (nI nX_27))]) hx hb dX3_round_188 hl (K := 10) rfl (by decide) (by decide) rfl (fun ls hl => ?_)
                      refine lv_goto (tgt := 45) hx hb dX3_round_191 (by decide) ?_
                      exact ih45 (kX + 1) ((lf - (secs (sg (11 + 76 * (((sg 0) + kX) % 8) + 15 * tX_70 + 0)) nX_16)) - (sg 1)) (le ||| (sg (11 + 76 * (((sg 0) + kX) % 8) + 15 * tX_70 + 3))) _ (by omega) (by omega) (by omega) (by show rnStep _ _ _ _ _ (rnS (sg 1) nX_16 nX_27 (fun k => shT sg ((sg 0 + k) % 8) nX_4) (fun k => atF sg 3 ((sg 0 + k) % 8)) (fun k => atF sg 0 ((sg 0 + k) % 8)) kX) = _; rw [hq]; dsimp only; rw [h70_0]; show (if ¬ andN (sg (11 + 76 * ((sg 0 + kX) % 8) + 15 * tX_70 + 3)) le = 0 ∧ secs (sg (11 + 76 * ((sg 0 + kX) % 8) + 15 * tX_70 + 0)) nX_16 ≤ lf then (lf - secs (sg (11 + 76 * ((sg 0 + kX) % 8) + 15 * tX_70 + 0)) nX_16 - sg 1, le ||| sg (11 + 76 * ((sg 0 + kX) % 8) + 15 * tX_70 + 3)) else (lf - sg 1, le)) = _; exact (if_pos ⟨c138, c145⟩).trans (zp_mk (by omega) rfl)) (lv_sub hl [7, 8, 9, 10, 1, 2, 0] rfl)
                    · refine lv_iconst (v := nI 0) hx hb dX3_round_173 (by decide) ?_
                      refine lv_goto (tgt := 186) hx hb dX3_round_174 (by decide) ?_
                      refine lv_istore (lv' := [(4, .int (nI 0)), (5, .int (nI (le ||| (sg (11 + 76 * (((sg 0) + kX) % 8) + 15 * tX_70 + 3))))), (10, .int (nI (secs (sg (11 + 76 * (((sg 0) + kX) % 8) + 15 * tX_70 + 0)) nX_16))), (9, .int (nI (sg (11 + 76 * (((sg 0) + kX) % 8) + 15 * tX_70 + 3)))), (8, .int (nI tX_70)), (7, .int (nI (((sg 0) + kX) % 8))), (0, .ref b0), (1, .int (nI nX_4)), (2, .int (nI nX_16)), (3, .int (nI nX_27)), (6, .int (nI kX))]) hx hb dX3_round_186 hl (by decide) rfl (fun ls hl => ?_)
                      refine zk_inc (a := kX) (d := 1) (lv' := [(6, .int (nI (kX + 1))), (4, .int (nI 0)), (5, .int (nI (le ||| (sg (11 + 76 * (((sg 0) + kX) % 8) + 15 * tX_70 + 3))))), (10, .int (nI (secs (sg (11 + 76 * (((sg 0) + kX) % 8) + 15 * tX_70 + 0)) nX_16))), (9, .int (nI (sg (11 + 76 * (((sg 0) + kX) % 8) + 15 * tX_70 + 3)))), (8, .int (nI tX_70)), (7, .int (nI (((sg 0) + kX) % 8))), (0, .ref b0), (1, .int (nI nX_4)), (2, .int (nI nX_16)), (3, .int (nI nX_27))]) hx hb dX3_round_188 hl (K := 10) rfl (by decide) (by decide) rfl (fun ls hl => ?_)
                      refine lv_goto (tgt := 45) hx hb dX3_round_191 (by decide) ?_
                      exact ih45 (kX + 1) 0 (le ||| (sg (11 + 76 * (((sg 0) + kX) % 8) + 15 * tX_70 + 3))) _ (by omega) (by omega) (by omega) (by show rnStep _ _ _ _ _ (rnS (sg 1) nX_16 nX_27 (fun k => shT sg ((sg 0 + k) % 8) nX_4) (fun k => atF sg 3 ((sg 0 + k) % 8)) (fun k => atF sg 0 ((sg 0 + k) % 8)) kX) = _; rw [hq]; dsimp only; rw [h70_0]; show (if ¬ andN (sg (11 + 76 * ((sg 0 + kX) % 8) + 15 * tX_70 + 3)) le = 0 ∧ secs (sg (11 + 76 * ((sg 0 + kX) % 8) + 15 * tX_70 + 0)) nX_16 ≤ lf then (lf - secs (sg (11 + 76 * ((sg 0 + kX) % 8) + 15 * tX_70 + 0)) nX_16 - sg 1, le ||| sg (11 + 76 * ((sg 0 + kX) % 8) + 15 * tX_70 + 3)) else (lf - sg 1, le)) = _; exact (if_pos ⟨c138, c145⟩).trans (zp_mk (by omega) rfl)) (lv_sub hl [7, 8, 9, 10, 1, 2, 0] rfl)
        exact lp45 _ 0 nX_27 0 _ (Nat.lt_succ_self _) (by omega) (by omega) rfl (lv_sub hl [3, 4, 5, 6, 2, 1, 0] rfl)
      · refine lv_if_ne (tgt := 36) hx hb dX3_round_30 (by decide) (fun q => absurd (by decide) q) (fun _ => ?_)
        refine lv_bipush (v := (-2)) hx hb dX3_round_33 (by decide) ?_
        exact W.iret (v := (-2)) hx hb hr (fun tT ht hW => ⟨_, rfl, Or.inl ⟨fun ⟨a, b, c, q1, q2, q3, q4, q5, q6, q7, q8, q9⟩ => h27_0 ⟨c, q5, q6, q9⟩, rfl⟩, ht⟩) (fun _ h => absurd h List.not_mem_nil) dX3_round_35
    · refine lv_if_eq (tgt := 33) hx hb dX3_round_19 (by decide) (fun _ => ?_) (fun q => absurd (by decide) q)
      refine lv_bipush (v := (-2)) hx hb dX3_round_33 (by decide) ?_
      exact W.iret (v := (-2)) hx hb hr (fun tT ht hW => ⟨_, rfl, Or.inl ⟨fun ⟨a, b, c, q1, q2, q3, q4, q5, q6, q7, q8, q9⟩ => h16_0 ⟨b, q3, q4, q8⟩, rfl⟩, ht⟩) (fun _ h => absurd h List.not_mem_nil) dX3_round_35
  · refine lv_if_eq (tgt := 33) hx hb dX3_round_7 (by decide) (fun _ => ?_) (fun q => absurd (by decide) q)
    refine lv_bipush (v := (-2)) hx hb dX3_round_33 (by decide) ?_
    exact W.iret (v := (-2)) hx hb hr (fun tT ht hW => ⟨_, rfl, Or.inl ⟨fun ⟨a, b, c, q1, q2, q3, q4, q5, q6, q7, q8, q9⟩ => h4_0 ⟨a, q1, q2, q7⟩, rfl⟩, ht⟩) (fun _ h => absurd h List.not_mem_nil) dX3_round_35
set_option maxHeartbeats 4000000 in
set_option maxRecDepth 100000 in
/-- X3_ages: ages -/
theorem c_ages (l : Launch) (G : zG) (b0 : Nat) (b1 : Nat) (b2 : Nat) (b3 : Nat) (b4 : Nat) (b5 : Nat) (b6 : Nat) (kn : Nat) (ik : Nat) (ty : Nat) (ra : Int32) (rb : Int32) (rd : Nat) (iw : Nat) (fl : Int32) (sg : Nat → Nat) (x : Int32) (y : Int32) (z : Int32) (hM : mOK sg) : Met l yX3_ages wsX3_ages ({ frames := 4, cells := 0, slots := 0, locals := 93 } : Room) (zPc G [.ref b0, .int x, .int y, .int z] [(b0, .inr (3, [.ref b1, .ref b2, .ref b3, .int (nI kn), .ref b4, .int (nI ik), .ref b5, .int (nI ty), .int ra, .int rb, .int (nI rd), .int (nI iw), .ref b6, .int fl])), (b1, .inl (G.2.1, 618, .inl (arN sg)))]) (vp_Si (fun (rR : Int32) => (¬ pTn (szF sg) x y ∧ rR = (-1)) ∨ (∃ (eX : Nat) (tX : Nat), eX < 8 ∧ tX < sg (10 + 76 * eX) ∧ x = nI eX ∧ y = nI tX ∧ (¬ ∃ n : Nat, 0 ≤ n ∧ n ≤ 2 ∧ z = nI n) ∧ rR = (-2)) ∨ (∃ (eX : Nat) (tX : Nat), eX < 8 ∧ tX < sg (10 + 76 * eX) ∧ x = nI eX ∧ y = nI tX ∧ z = nI 0 ∧ rR = enc (agL (agP (fun a => shT sg eX a) tX) 96)) ∨ (∃ (eX : Nat) (tX : Nat), eX < 8 ∧ tX < sg (10 + 76 * eX) ∧ x = nI eX ∧ y = nI tX ∧ z = nI 1 ∧ rR = enc (agG (agP (fun a => shT sg eX a) tX) 96)) ∨ (∃ (eX : Nat) (tX : Nat), eX < 8 ∧ tX < sg (10 + 76 * eX) ∧ x = nI eX ∧ y = nI tX ∧ z = nI 2 ∧ rR = nI (agM (agP (fun a => shT sg eX a) tX) 96)))) 0 0 (fun _ => False) := by
  refine zR (cc := cX3_ages) (maxL := 8) (ret := (some .int)) (by decide) rfl (Nat.le_of_ble_eq_true rfl) ?_
  intro pP eE sS mM below meth cC hx hb hr hts hown hlk hml hK hN hP hD ls hl
  have hl : lv_has ls 8 [(0, .ref b0), (1, .int x), (2, .int y), (3, .int z)] := hl
  refine lv_aload_n hx hb dX3_ages_0 rfl (lv_at hl 0 rfl) ?_
  refine lv_iload_n hx hb dX3_ages_1 rfl (lv_at hl 1 rfl) ?_
  refine lv_iload_n hx hb dX3_ages_2 rfl (lv_at hl 2 rfl) ?_
  refine zc_R (As := [.int x, .int y]) (rest := []) ⟨hx, hb, hml, hown, hts⟩ (c_isText l G b0 b1 b2 b3 b4 b5 b6 kn ik ty ra rb rd iw fl sg x y (by omega)) (cwV 2 hts gX3_ages_X3_isText rfl rfl rfl (by decide +kernel) ⟨Nat.le_of_ble_eq_true rfl, Nat.le_of_ble_eq_true rfl⟩) hK hN hP hD [0, 1] rfl (by decide) (ci := 3) rfl rfl rfl hl.1 rfl (Nat.le_of_ble_eq_true rfl) dX3_ages_3 ⟨Nat.zero_le _, Nat.zero_le _⟩ (fun r3 h3 => ?_)
  rcases h3 with ⟨eX_3, tX_3, h3_0, h3_1, rfl, rfl, rfl⟩ | ⟨h3_0, rfl⟩
  · have hz := hM.2.1 eX_3 h3_0
    refine lv_if_ne (tgt := 11) hx hb dX3_ages_6 (by decide) (fun _ => ?_) (fun q => absurd q (by decide))
    refine lv_iload_n hx hb dX3_ages_11 rfl (lv_at hl 3 rfl) ?_
    refine lv_iconst (v := nI 0) hx hb dX3_ages_12 (by decide) ?_
    refine lv_iconst (v := nI 2) hx hb dX3_ages_13 (by decide) ?_
    refine zc_S (As := [.int z, .int (nI 0), .int (nI 2)]) (rest := []) ⟨hx, hb, hml, hown, hts⟩ (c_in_c l z 0 2 (by omega) (by omega)) (va_cwS 3 hts gX3_ages_X3_in rfl rfl rfl (by decide +kernel) ⟨Nat.le_of_ble_eq_true rfl, Nat.le_of_ble_eq_true rfl⟩) rfl hl.1 rfl (Nat.le_of_ble_eq_true rfl) dX3_ages_14 ⟨Nat.zero_le _, Nat.zero_le _⟩ (fun r14 h14 => ?_)
    rcases h14 with ⟨nX_14, h14_0, h14_1, rfl, rfl⟩ | ⟨h14_0, rfl⟩
    · refine lv_if_ne (tgt := 23) hx hb dX3_ages_17 (by decide) (fun _ => ?_) (fun q => absurd q (by decide))
      refine lv_bipush (v := (-5)) hx hb dX3_ages_23 (by decide) ?_
      refine lv_istore (lv' := [(4, .int (-5)), (0, .ref b0), (1, .int (nI eX_3)), (2, .int (nI tX_3)), (3, .int (nI nX_14))]) hx hb dX3_ages_25 hl (by decide) rfl (fun ls hl => ?_)
      refine lv_bipush (v := (-5)) hx hb dX3_ages_27 (by decide) ?_
      refine lv_istore (lv' := [(5, .int (-5)), (4, .int (-5)), (0, .ref b0), (1, .int (nI eX_3)), (2, .int (nI tX_3)), (3, .int (nI nX_14))]) hx hb dX3_ages_29 hl (by decide) rfl (fun ls hl => ?_)
      refine lv_iconst (v := nI 0) hx hb dX3_ages_31 (by decide) ?_
      refine lv_istore (lv' := [(6, .int (nI 0)), (5, .int (-5)), (4, .int (-5)), (0, .ref b0), (1, .int (nI eX_3)), (2, .int (nI tX_3)), (3, .int (nI nX_14))]) hx hb dX3_ages_32 hl (by decide) rfl (fun ls hl => ?_)
      refine lv_iconst (v := nI 4) hx hb dX3_ages_34 (by decide) ?_
      refine lv_istore (lv' := [(7, .int (nI 4)), (6, .int (nI 0)), (5, .int (-5)), (4, .int (-5)), (0, .ref b0), (1, .int (nI eX_3)), (2, .int (nI tX_3)), (3, .int (nI nX_14))]) hx hb dX3_ages_35 hl (by decide) rfl (fun ls hl => ?_)
      have lp37 : ∀ (fu37 : Nat), ∀ (kX : Nat) (yl : Int32) (yg : Int32) (ym : Nat) (ls : Array Slot), (96 - kX) < fu37 → (kX ≤ 96) → (ym ≤ kX) → (yl = enc (agL (agP (fun a => shT sg eX_3 a) tX_3) kX)) → (yg = enc (agG (agP (fun a => shT sg eX_3 a) tX_3) kX)) → (ym = agM (agP (fun a => shT sg eX_3 a) tX_3) kX) → lv_has ls 8 [(0, .ref b0), (1, .int (nI eX_3)), (2, .int (nI tX_3)), (3, .int (nI nX_14)), (4, .int yl), (5, .int yg), (6, .int (nI ym)), (7, .int (nI (4 + kX)))] → W pP l eE (headSpec wsX3_ages ({ frames := 4, cells := 0, slots := 0, locals := 93 } : Room)).room sS mM ([.ref b0, .int (nI eX_3), .int (nI tX_3), .int (nI nX_14)] : List Value).toArray below meth cC sS.heap [] 0 0 (MQ below (vp_Si (fun (rR : Int32) => (¬ pTn (szF sg) (nI eX_3) (nI tX_3) ∧ rR = (-1)) ∨ (∃ (eX : Nat) (tX : Nat), eX < 8 ∧ tX < sg (10 + 76 * eX) ∧ (nI eX_3) = nI eX ∧ (nI tX_3) = nI tX ∧ (¬ ∃ n : Nat, 0 ≤ n ∧ n ≤ 2 ∧ (nI nX_14) = nI n) ∧ rR = (-2)) ∨ (∃ (eX : Nat) (tX : Nat), eX < 8 ∧ tX < sg (10 + 76 * eX) ∧ (nI eX_3) = nI eX ∧ (nI tX_3) = nI tX ∧ (nI nX_14) = nI 0 ∧ rR = enc (agL (agP (fun a => shT sg eX a) tX) 96)) ∨ (∃ (eX : Nat) (tX : Nat), eX < 8 ∧ tX < sg (10 + 76 * eX) ∧ (nI eX_3) = nI eX ∧ (nI tX_3) = nI tX ∧ (nI nX_14) = nI 1 ∧ rR = enc (agG (agP (fun a => shT sg eX a) tX) 96)) ∨ (∃ (eX : Nat) (tX : Nat), eX < 8 ∧ tX < sg (10 + 76 * eX) ∧ (nI eX_3) = nI eX ∧ (nI tX_3) = nI tX ∧ (nI nX_14) = nI 2 ∧ rR = nI (agM (agP (fun a => shT sg eX a) tX) 96)))) ([.ref b0, .int (nI eX_3), .int (nI tX_3), .int (nI nX_14)] : List Value).toArray sS 0 0 (fun _ => False)) (F0 mM 37 ls []) := by
        intro fu37
        induction fu37 with
        | zero => intro kX yl yg ym ls hfu37; exact absurd hfu37 (Nat.not_lt_zero _)
        | succ fu37 ih37 =>
          intro kX yl yg ym ls hfu37 hk hm hl4 hl5 hl6 hl
          refine lv_iload hx hb dX3_ages_37 (lv_at hl 7 rfl) ?_
          refine lv_bipush (v := nI 99) hx hb dX3_ages_39 (by decide) ?_
          refine zk_igt (tgt := 82) hx hb dX3_ages_41 (by decide) (by omega) (by omega) (fun c41 => ?_) (fun c41 => ?_)
          · refine lv_iload_n hx hb dX3_ages_82 rfl (lv_at hl 3 rfl) ?_
            refine zk_zne (tgt := 91) hx hb dX3_ages_83 (by decide) (by omega) (fun c83 => ?_) (fun c83 => ?_)
            · refine lv_iload_n hx hb dX3_ages_91 rfl (lv_at hl 3 rfl) ?_
              refine lv_iconst (v := nI 1) hx hb dX3_ages_92 (by decide) ?_
              refine zk_ine (tgt := 101) hx hb dX3_ages_93 (by decide) (by omega) (by omega) (fun c93 => ?_) (fun c93 => ?_)
              · refine lv_iload hx hb dX3_ages_101 (lv_at hl 6 rfl) ?_
                have hk9 : kX = 96 := by omega
                subst hk9
                have hn9 : nX_14 = 2 := by omega
                subst hn9
                exact W.iret (v := nI ym) hx hb hr (fun tT ht hW => ⟨_, rfl, Or.inr (Or.inr (Or.inr (Or.inr ⟨eX_3, tX_3, h3_0, h3_1, rfl, rfl, rfl, (congrArg nI hl6)⟩))), ht⟩) (fun _ h => absurd h List.not_mem_nil) dX3_ages_103
              · refine lv_iload hx hb dX3_ages_96 (lv_at hl 5 rfl) ?_
                refine lv_goto (tgt := 103) hx hb dX3_ages_98 (by decide) ?_
                have hk9 : kX = 96 := by omega
                subst hk9
                subst c93
                exact W.iret (v := yg) hx hb hr (fun tT ht hW => ⟨_, rfl, Or.inr (Or.inr (Or.inr (Or.inl ⟨eX_3, tX_3, h3_0, h3_1, rfl, rfl, rfl, hl5⟩))), ht⟩) (fun _ h => absurd h List.not_mem_nil) dX3_ages_103
            · refine lv_iload hx hb dX3_ages_86 (lv_at hl 4 rfl) ?_
              refine lv_goto (tgt := 103) hx hb dX3_ages_88 (by decide) ?_
              have hk9 : kX = 96 := by omega
              subst hk9
              subst c83
              exact W.iret (v := yl) hx hb hr (fun tT ht hW => ⟨_, rfl, Or.inr (Or.inr (Or.inl ⟨eX_3, tX_3, h3_0, h3_1, rfl, rfl, rfl, hl4⟩)), ht⟩) (fun _ h => absurd h List.not_mem_nil) dX3_ages_103
          · refine lv_aload_n hx hb dX3_ages_44 rfl (lv_at hl 0 rfl) ?_
            refine lv_iload_n hx hb dX3_ages_45 rfl (lv_at hl 1 rfl) ?_
            refine lv_iload hx hb dX3_ages_46 (lv_at hl 7 rfl) ?_
            refine zc_R (As := [.int (nI eX_3), .int (nI (4 + kX))]) (rest := []) ⟨hx, hb, hml, hown, hts⟩ (c_shownTo l G b0 b1 b2 b3 b4 b5 b6 kn ik ty ra rb rd iw fl sg eX_3 (4 + kX) (by omega) (by omega) (by omega)) (cwV 2 hts gX3_ages_X3_shownTo rfl rfl rfl (by decide +kernel) ⟨Nat.le_of_ble_eq_true rfl, Nat.le_of_ble_eq_true rfl⟩) hK hN hP hD [0, 1] rfl (by decide) (ci := 3) rfl rfl rfl hl.1 rfl (Nat.le_of_ble_eq_true rfl) dX3_ages_48 ⟨Nat.zero_le _, Nat.zero_le _⟩ (fun r48 h48 => ?_)
            rcases h48 with ⟨h48_0, rfl⟩ | ⟨tX_48, h48_0, rfl⟩
            · have hP9 : ¬ shT sg eX_3 (4 + kX) = some tX_3 := fun q => by rw [q] at h48_0; cases h48_0
              refine lv_iload_n hx hb dX3_ages_51 rfl (lv_at hl 2 rfl) ?_
              refine lv_icmp_ne (tgt := 76) hx hb dX3_ages_52 (by decide) (fun _ => ?_) (fun q => absurd q (fun q => enc_ne (by omega) q.symm))
              refine zk_inc (a := 4 + kX) (d := 1) (lv' := [(7, .int (nI (4 + kX + 1))), (0, .ref b0), (1, .int (nI eX_3)), (2, .int (nI tX_3)), (3, .int (nI nX_14)), (4, .int yl), (5, .int yg), (6, .int (nI ym))]) hx hb dX3_ages_76 hl (K := 7) rfl (by decide) (by decide) rfl (fun ls hl => ?_)
              refine lv_goto (tgt := 37) hx hb dX3_ages_79 (by decide) ?_
              exact ih37 (kX + 1) yl yg ym _ (by omega) (by omega) (by omega) (by show _ = enc (if _ then _ else _); first | (rw [if_pos (decide_eq_true hP9), if_pos c57] <;> rfl) | (rw [if_pos (decide_eq_true hP9), if_neg (by omega)]; exact hl4) | (rw [if_neg (fun q => hP9 (of_decide_eq_true q))]; exact hl4)) (by show _ = enc (if _ then _ else _); first | (rw [if_pos (decide_eq_true hP9)] <;> rfl) | (rw [if_neg (fun q => hP9 (of_decide_eq_true q))]; exact hl5)) (by show _ = (if _ then _ else _); first | rw [if_pos (decide_eq_true hP9), ← hl6] | (rw [if_neg (fun q => hP9 (of_decide_eq_true q))]; exact hl6)) (lv_sub hl [1, 2, 3, 4, 5, 6, 7, 0] rfl)
            · have hlt := shA_lt h48_0
              refine lv_iload_n hx hb dX3_ages_51 rfl (lv_at hl 2 rfl) ?_
              refine zk_ine (tgt := 76) hx hb dX3_ages_52 (by decide) (by omega) (by omega) (fun c52 => ?_) (fun c52 => ?_)
              · have hP9 : ¬ shT sg eX_3 (4 + kX) = some tX_3 := fun q => c52 (Option.some.inj (h48_0.symm.trans q))
                refine zk_inc (a := 4 + kX) (d := 1) (lv' := [(7, .int (nI (4 + kX + 1))), (0, .ref b0), (1, .int (nI eX_3)), (2, .int (nI tX_3)), (3, .int (nI nX_14)), (4, .int yl), (5, .int yg), (6, .int (nI ym))]) hx hb dX3_ages_76 hl (K := 7) rfl (by decide) (by decide) rfl (fun ls hl => ?_)
                refine lv_goto (tgt := 37) hx hb dX3_ages_79 (by decide) ?_
                exact ih37 (kX + 1) yl yg ym _ (by omega) (by omega) (by omega) (by show _ = enc (if _ then _ else _); first | (rw [if_pos (decide_eq_true hP9), if_pos c57] <;> rfl) | (rw [if_pos (decide_eq_true hP9), if_neg (by omega)]; exact hl4) | (rw [if_neg (fun q => hP9 (of_decide_eq_true q))]; exact hl4)) (by show _ = enc (if _ then _ else _); first | (rw [if_pos (decide_eq_true hP9)] <;> rfl) | (rw [if_neg (fun q => hP9 (of_decide_eq_true q))]; exact hl5)) (by show _ = (if _ then _ else _); first | rw [if_pos (decide_eq_true hP9), ← hl6] | (rw [if_neg (fun q => hP9 (of_decide_eq_true q))]; exact hl6)) (lv_sub hl [1, 2, 3, 4, 5, 6, 7, 0] rfl)
              · have hP9 : shT sg eX_3 (4 + kX) = some tX_3 := by rw [h48_0, c52]
                refine lv_iload hx hb dX3_ages_55 (lv_at hl 6 rfl) ?_
                refine zk_zne (tgt := 65) hx hb dX3_ages_57 (by decide) (by omega) (fun c57 => ?_) (fun c57 => ?_)
                · refine lv_iload hx hb dX3_ages_65 (lv_at hl 4 rfl) ?_
                  refine lv_istore (lv' := [(4, .int yl), (0, .ref b0), (1, .int (nI eX_3)), (2, .int (nI tX_3)), (3, .int (nI nX_14)), (5, .int yg), (6, .int (nI ym)), (7, .int (nI (4 + kX)))]) hx hb dX3_ages_67 hl (by decide) rfl (fun ls hl => ?_)
                  refine lv_iload hx hb dX3_ages_69 (lv_at hl 7 rfl) ?_
                  refine lv_istore (lv' := [(5, .int (nI (4 + kX))), (4, .int yl), (0, .ref b0), (1, .int (nI eX_3)), (2, .int (nI tX_3)), (3, .int (nI nX_14)), (6, .int (nI ym)), (7, .int (nI (4 + kX)))]) hx hb dX3_ages_71 hl (by decide) rfl (fun ls hl => ?_)
                  refine zk_inc (a := ym) (d := 1) (lv' := [(6, .int (nI (ym + 1))), (5, .int (nI (4 + kX))), (4, .int yl), (0, .ref b0), (1, .int (nI eX_3)), (2, .int (nI tX_3)), (3, .int (nI nX_14)), (7, .int (nI (4 + kX)))]) hx hb dX3_ages_73 hl (K := 6) rfl (by decide) (by decide) rfl (fun ls hl => ?_)
                  refine zk_inc (a := 4 + kX) (d := 1) (lv' := [(7, .int (nI (4 + kX + 1))), (6, .int (nI (ym + 1))), (5, .int (nI (4 + kX))), (4, .int yl), (0, .ref b0), (1, .int (nI eX_3)), (2, .int (nI tX_3)), (3, .int (nI nX_14))]) hx hb dX3_ages_76 hl (K := 7) rfl (by decide) (by decide) rfl (fun ls hl => ?_)
                  refine lv_goto (tgt := 37) hx hb dX3_ages_79 (by decide) ?_
                  exact ih37 (kX + 1) yl (nI (4 + kX)) (ym + 1) _ (by omega) (by omega) (by omega) (by show _ = enc (if _ then _ else _); first | (rw [if_pos (decide_eq_true hP9), if_pos c57] <;> rfl) | (rw [if_pos (decide_eq_true hP9), if_neg (by omega)]; exact hl4) | (rw [if_neg (fun q => hP9 (of_decide_eq_true q))]; exact hl4)) (by show _ = enc (if _ then _ else _); first | (rw [if_pos (decide_eq_true hP9)] <;> rfl) | (rw [if_neg (fun q => hP9 (of_decide_eq_true q))]; exact hl5)) (by show _ = (if _ then _ else _); first | rw [if_pos (decide_eq_true hP9), ← hl6] | (rw [if_neg (fun q => hP9 (of_decide_eq_true q))]; exact hl6)) (lv_sub hl [4, 5, 6, 7, 3, 2, 1, 0] rfl)
                · rw [hl6] at c57
                  refine lv_iload hx hb dX3_ages_60 (lv_at hl 7 rfl) ?_
                  refine lv_goto (tgt := 67) hx hb dX3_ages_62 (by decide) ?_
                  refine lv_istore (lv' := [(4, .int (nI (4 + kX))), (0, .ref b0), (1, .int (nI eX_3)), (2, .int (nI tX_3)), (3, .int (nI nX_14)), (5, .int yg), (6, .int (nI ym)), (7, .int (nI (4 + kX)))]) hx hb dX3_ages_67 hl (by decide) rfl (fun ls hl => ?_)
                  refine lv_iload hx hb dX3_ages_69 (lv_at hl 7 rfl) ?_
                  refine lv_istore (lv' := [(5, .int (nI (4 + kX))), (4, .int (nI (4 + kX))), (0, .ref b0), (1, .int (nI eX_3)), (2, .int (nI tX_3)), (3, .int (nI nX_14)), (6, .int (nI ym)), (7, .int (nI (4 + kX)))]) hx hb dX3_ages_71 hl (by decide) rfl (fun ls hl => ?_)
                  refine zk_inc (a := ym) (d := 1) (lv' := [(6, .int (nI (ym + 1))), (5, .int (nI (4 + kX))), (4, .int (nI (4 + kX))), (0, .ref b0), (1, .int (nI eX_3)), (2, .int (nI tX_3)), (3, .int (nI nX_14)), (7, .int (nI (4 + kX)))]) hx hb dX3_ages_73 hl (K := 6) rfl (by decide) (by decide) rfl (fun ls hl => ?_)
                  refine zk_inc (a := 4 + kX) (d := 1) (lv' := [(7, .int (nI (4 + kX + 1))), (6, .int (nI (ym + 1))), (5, .int (nI (4 + kX))), (4, .int (nI (4 + kX))), (0, .ref b0), (1, .int (nI eX_3)), (2, .int (nI tX_3)), (3, .int (nI nX_14))]) hx hb dX3_ages_76 hl (K := 7) rfl (by decide) (by decide) rfl (fun ls hl => ?_)
                  refine lv_goto (tgt := 37) hx hb dX3_ages_79 (by decide) ?_
                  exact ih37 (kX + 1) (nI (4 + kX)) (nI (4 + kX)) (ym + 1) _ (by omega) (by omega) (by omega) (by show _ = enc (if _ then _ else _); first | (rw [if_pos (decide_eq_true hP9), if_pos c57] <;> rfl) | (rw [if_pos (decide_eq_true hP9), if_neg (by omega)]; exact hl4) | (rw [if_neg (fun q => hP9 (of_decide_eq_true q))]; exact hl4)) (by show _ = enc (if _ then _ else _); first | (rw [if_pos (decide_eq_true hP9)] <;> rfl) | (rw [if_neg (fun q => hP9 (of_decide_eq_true q))]; exact hl5)) (by show _ = (if _ then _ else _); first | rw [if_pos (decide_eq_true hP9), ← hl6] | (rw [if_neg (fun q => hP9 (of_decide_eq_true q))]; exact hl6)) (lv_sub hl [4, 5, 6, 7, 3, 2, 1, 0] rfl)
      exact lp37 _ 0 (-5) (-5) 0 _ (Nat.lt_succ_self _) (by omega) (by omega) rfl rfl rfl (lv_sub hl [4, 5, 6, 7, 3, 2, 1, 0] rfl)
    · refine lv_if_ne (tgt := 23) hx hb dX3_ages_17 (by decide) (fun q => absurd (by decide) q) (fun _ => ?_)
      refine lv_bipush (v := (-2)) hx hb dX3_ages_20 (by decide) ?_
      exact W.iret (v := (-2)) hx hb hr (fun tT ht hW => ⟨_, rfl, Or.inr (Or.inl ⟨eX_3, tX_3, h3_0, h3_1, rfl, rfl, h14_0, rfl⟩), ht⟩) (fun _ h => absurd h List.not_mem_nil) dX3_ages_22
  · refine lv_if_ne (tgt := 11) hx hb dX3_ages_6 (by decide) (fun q => absurd (by decide) q) (fun _ => ?_)
    refine lv_iconst (v := (-1)) hx hb dX3_ages_9 (by decide) ?_
    exact W.iret (v := (-1)) hx hb hr (fun tT ht hW => ⟨_, rfl, Or.inl ⟨h3_0, rfl⟩, ht⟩) (fun _ h => absurd h List.not_mem_nil) dX3_ages_10
set_option maxRecDepth 100000 in
theorem mwc_count_0 : Cond.fieldLink RX3 7 "ExhibitTextsModel" "s" "[I" ∈ wsX3_count := by decide +kernel
set_option maxRecDepth 100000 in
theorem mic_count_3 : ∀ w ∈ u_ws RX3 TX3 14, w ∈ wsX3_count := by decide +kernel
set_option maxRecDepth 100000 in
theorem mwc_count_2 : Cond.fieldLink RX3 55 "ExhibitTextsModel" "known" "I" ∈ wsX3_count := by decide +kernel
set_option maxRecDepth 100000 in
theorem mwc_count_3 : Cond.fieldLink RX3 86 "ExhibitTextsModel" "typed" "I" ∈ wsX3_count := by decide +kernel
set_option maxHeartbeats 4000000 in
set_option maxRecDepth 100000 in
/-- X3_count: count -/
theorem c_count (l : Launch) (G : zG) (b0 : Nat) (b1 : Nat) (b2 : Nat) (b3 : Nat) (b4 : Nat) (b5 : Nat) (b6 : Nat) (kn : Nat) (ik : Nat) (ty : Nat) (ra : Int32) (rb : Int32) (rd : Nat) (iw : Nat) (fl : Int32) (sg : Nat → Nat) (x : Int32) (hM : mOK sg) : Met l yX3_count wsX3_count ({ frames := 3, cells := 0, slots := 0, locals := 66 } : Room) (zPc G [.ref b0, .int x] [(b0, .inr (3, [.ref b1, .ref b2, .ref b3, .int (nI kn), .ref b4, .int (nI ik), .ref b5, .int (nI ty), .int ra, .int rb, .int (nI rd), .int (nI iw), .ref b6, .int fl])), (b1, .inl (G.2.1, 618, .inl (arN sg)))]) (vp_Si (fun (rR : Int32) => (x = nI 0 ∧ rR = nI (sumN (szF sg) 8)) ∨ (x = nI 1 ∧ rR = nI (capS (szF sg) (atF sg 5) 8)) ∨ (x = nI 2 ∧ rR = nI (sg 0)) ∨ (x = nI 3 ∧ rR = nI (sg 1)) ∨ (x = nI 4 ∧ rR = nI (sg 7)) ∨ (x = nI 5 ∧ rR = nI (sg 8)) ∨ (x = nI 6 ∧ rR = nI (sg 9)) ∨ (x = nI 7 ∧ rR = nI (capS (szF sg) (nrF (atF sg 4)) 8)) ∨ (x = nI 8 ∧ rR = nI (bitsN (allF (szF sg) (atF sg 3) 8) 16)) ∨ (x = nI 9 ∧ rR = nI kn) ∨ (x = nI 10 ∧ rR = nI ty) ∨ ((¬ ∃ k : Nat, k < 11 ∧ x = nI k) ∧ rR = (-2)))) 0 0 (fun _ => False) := by
  refine zR (cc := cX3_count) (maxL := 2) (ret := (some .int)) (by decide) rfl (Nat.le_of_ble_eq_true rfl) ?_
  intro pP eE sS mM below meth cC hx hb hr hts hown hlk hml hK hN hP hD ls hl
  have hl : lv_has ls 2 [(0, .ref b0), (1, .int x)] := hl
  refine lv_iload_n hx hb dX3_count_0 rfl (lv_at hl 1 rfl) ?_
  rcases sw_in (n := 11) x with ⟨swX, hsw, hswe⟩ | hno
  · subst hswe
    rcases (show swX = 0 ∨ swX = 1 ∨ swX = 2 ∨ swX = 3 ∨ swX = 4 ∨ swX = 5 ∨ swX = 6 ∨ swX = 7 ∨ swX = 8 ∨ swX = 9 ∨ swX = 10 from by omega) with rfl | rfl | rfl | rfl | rfl | rfl | rfl | rfl | rfl | rfl | rfl
    · refine lv_tableIn (x := nI 0) (off := 59) (tgt := 60) hx hb dX3_count_1 (by decide) (by decide) (by decide) (by decide) ?_
      refine lv_aload_n hx hb dX3_count_60 rfl (lv_at hl 0 rfl) ?_
      refine zc_R (As := []) (rest := []) ⟨hx, hb, hml, hown, hts⟩ (c_texts l G b0 b1 b2 b3 b4 b5 b6 kn ik ty ra rb rd iw fl sg ) (cwV 0 hts gX3_count_X3_texts rfl rfl rfl (by decide +kernel) ⟨Nat.le_of_ble_eq_true rfl, Nat.le_of_ble_eq_true rfl⟩) hK hN hP hD [0, 1] rfl (by decide) (ci := 3) rfl rfl rfl hl.1 rfl (Nat.le_of_ble_eq_true rfl) dX3_count_61 ⟨Nat.zero_le _, Nat.zero_le _⟩ (fun r61 h61 => ?_)
      subst h61
      exact W.iret (v := nI (sumN (szF sg) 8)) hx hb hr (fun tT ht hW => ⟨_, rfl, Or.inl ⟨rfl, rfl⟩, ht⟩) (fun _ h => absurd h List.not_mem_nil) dX3_count_64
    · refine lv_tableIn (x := nI 1) (off := 64) (tgt := 65) hx hb dX3_count_1 (by decide) (by decide) (by decide) (by decide) ?_
      refine lv_aload_n hx hb dX3_count_65 rfl (lv_at hl 0 rfl) ?_
      refine lv_iload_n hx hb dX3_count_66 rfl (lv_at hl 1 rfl) ?_
      refine zc_R (As := [.int (nI 1)]) (rest := []) ⟨hx, hb, hml, hown, hts⟩ (c_sum1 l G b0 b1 b2 b3 b4 b5 b6 kn ik ty ra rb rd iw fl sg (by omega)) (cwV 1 hts gX3_count_X3_sum rfl rfl rfl (by decide +kernel) ⟨Nat.le_of_ble_eq_true rfl, Nat.le_of_ble_eq_true rfl⟩) hK hN hP hD [0, 1] rfl (by decide) (ci := 3) rfl rfl rfl hl.1 rfl (Nat.le_of_ble_eq_true rfl) dX3_count_67 ⟨Nat.zero_le _, Nat.zero_le _⟩ (fun r67 h67 => ?_)
      subst h67
      exact W.iret (v := nI (capS (szF sg) (atF sg 5) 8)) hx hb hr (fun tT ht hW => ⟨_, rfl, Or.inr (Or.inl ⟨rfl, rfl⟩), ht⟩) (fun _ h => absurd h List.not_mem_nil) dX3_count_70
    · refine lv_tableIn (x := nI 2) (off := 70) (tgt := 71) hx hb dX3_count_1 (by decide) (by decide) (by decide) (by decide) ?_
      refine lv_aload_n hx hb dX3_count_71 rfl (lv_at hl 0 rfl) ?_
      refine va_get (D := G.1) (ci := 3) (v := .ref b1) (C := RX3) (T := TX3) (N := 14) hx hb hts mic_count_3 hown hK hP 0 rfl rfl 0 (by decide) (hts _ mwc_count_0) (fun _ h9 => h9) rfl dX3_count_72 ?_
      refine lv_iconst (v := nI 0) hx hb dX3_count_75 (by decide) ?_
      refine zk_ald (f := sg) (k := 0) hx hb hK hP 1 0 rfl rfl (Nat.le_of_ble_eq_true rfl) (by omega) dX3_count_76 ?_
      exact W.iret (v := nI (sg 0)) hx hb hr (fun tT ht hW => ⟨_, rfl, Or.inr (Or.inr (Or.inl ⟨rfl, rfl⟩)), ht⟩) (fun _ h => absurd h List.not_mem_nil) dX3_count_77
    · refine lv_tableIn (x := nI 3) (off := 77) (tgt := 78) hx hb dX3_count_1 (by decide) (by decide) (by decide) (by decide) ?_
      refine lv_aload_n hx hb dX3_count_78 rfl (lv_at hl 0 rfl) ?_
      refine va_get (D := G.1) (ci := 3) (v := .ref b1) (C := RX3) (T := TX3) (N := 14) hx hb hts mic_count_3 hown hK hP 0 rfl rfl 0 (by decide) (hts _ mwc_count_0) (fun _ h9 => h9) rfl dX3_count_79 ?_
      refine lv_iconst (v := nI 1) hx hb dX3_count_82 (by decide) ?_
      refine zk_ald (f := sg) (k := 1) hx hb hK hP 1 0 rfl rfl (Nat.le_of_ble_eq_true rfl) (by omega) dX3_count_83 ?_
      exact W.iret (v := nI (sg 1)) hx hb hr (fun tT ht hW => ⟨_, rfl, Or.inr (Or.inr (Or.inr (Or.inl ⟨rfl, rfl⟩))), ht⟩) (fun _ h => absurd h List.not_mem_nil) dX3_count_84
    · refine lv_tableIn (x := nI 4) (off := 84) (tgt := 85) hx hb dX3_count_1 (by decide) (by decide) (by decide) (by decide) ?_
      refine lv_aload_n hx hb dX3_count_85 rfl (lv_at hl 0 rfl) ?_
      refine va_get (D := G.1) (ci := 3) (v := .ref b1) (C := RX3) (T := TX3) (N := 14) hx hb hts mic_count_3 hown hK hP 0 rfl rfl 0 (by decide) (hts _ mwc_count_0) (fun _ h9 => h9) rfl dX3_count_86 ?_
      refine lv_bipush (v := nI 7) hx hb dX3_count_89 (by decide) ?_
      refine zk_ald (f := sg) (k := 7) hx hb hK hP 1 0 rfl rfl (Nat.le_of_ble_eq_true rfl) (by omega) dX3_count_91 ?_
      exact W.iret (v := nI (sg 7)) hx hb hr (fun tT ht hW => ⟨_, rfl, Or.inr (Or.inr (Or.inr (Or.inr (Or.inl ⟨rfl, rfl⟩)))), ht⟩) (fun _ h => absurd h List.not_mem_nil) dX3_count_92
    · refine lv_tableIn (x := nI 5) (off := 92) (tgt := 93) hx hb dX3_count_1 (by decide) (by decide) (by decide) (by decide) ?_
      refine lv_aload_n hx hb dX3_count_93 rfl (lv_at hl 0 rfl) ?_
      refine va_get (D := G.1) (ci := 3) (v := .ref b1) (C := RX3) (T := TX3) (N := 14) hx hb hts mic_count_3 hown hK hP 0 rfl rfl 0 (by decide) (hts _ mwc_count_0) (fun _ h9 => h9) rfl dX3_count_94 ?_
      refine lv_bipush (v := nI 8) hx hb dX3_count_97 (by decide) ?_
      refine zk_ald (f := sg) (k := 8) hx hb hK hP 1 0 rfl rfl (Nat.le_of_ble_eq_true rfl) (by omega) dX3_count_99 ?_
      exact W.iret (v := nI (sg 8)) hx hb hr (fun tT ht hW => ⟨_, rfl, Or.inr (Or.inr (Or.inr (Or.inr (Or.inr (Or.inl ⟨rfl, rfl⟩))))), ht⟩) (fun _ h => absurd h List.not_mem_nil) dX3_count_100
    · refine lv_tableIn (x := nI 6) (off := 100) (tgt := 101) hx hb dX3_count_1 (by decide) (by decide) (by decide) (by decide) ?_
      refine lv_aload_n hx hb dX3_count_101 rfl (lv_at hl 0 rfl) ?_
      refine va_get (D := G.1) (ci := 3) (v := .ref b1) (C := RX3) (T := TX3) (N := 14) hx hb hts mic_count_3 hown hK hP 0 rfl rfl 0 (by decide) (hts _ mwc_count_0) (fun _ h9 => h9) rfl dX3_count_102 ?_
      refine lv_bipush (v := nI 9) hx hb dX3_count_105 (by decide) ?_
      refine zk_ald (f := sg) (k := 9) hx hb hK hP 1 0 rfl rfl (Nat.le_of_ble_eq_true rfl) (by omega) dX3_count_107 ?_
      exact W.iret (v := nI (sg 9)) hx hb hr (fun tT ht hW => ⟨_, rfl, Or.inr (Or.inr (Or.inr (Or.inr (Or.inr (Or.inr (Or.inl ⟨rfl, rfl⟩)))))), ht⟩) (fun _ h => absurd h List.not_mem_nil) dX3_count_108
    · refine lv_tableIn (x := nI 7) (off := 64) (tgt := 65) hx hb dX3_count_1 (by decide) (by decide) (by decide) (by decide) ?_
      refine lv_aload_n hx hb dX3_count_65 rfl (lv_at hl 0 rfl) ?_
      refine lv_iload_n hx hb dX3_count_66 rfl (lv_at hl 1 rfl) ?_
      refine zc_R (As := [.int (nI 7)]) (rest := []) ⟨hx, hb, hml, hown, hts⟩ (c_sum7 l G b0 b1 b2 b3 b4 b5 b6 kn ik ty ra rb rd iw fl sg (by omega)) (cwV 1 hts gX3_count_X3_sum rfl rfl rfl (by decide +kernel) ⟨Nat.le_of_ble_eq_true rfl, Nat.le_of_ble_eq_true rfl⟩) hK hN hP hD [0, 1] rfl (by decide) (ci := 3) rfl rfl rfl hl.1 rfl (Nat.le_of_ble_eq_true rfl) dX3_count_67 ⟨Nat.zero_le _, Nat.zero_le _⟩ (fun r67 h67 => ?_)
      subst h67
      exact W.iret (v := nI (capS (szF sg) (nrF (atF sg 4)) 8)) hx hb hr (fun tT ht hW => ⟨_, rfl, Or.inr (Or.inr (Or.inr (Or.inr (Or.inr (Or.inr (Or.inr (Or.inl ⟨rfl, rfl⟩))))))), ht⟩) (fun _ h => absurd h List.not_mem_nil) dX3_count_70
    · refine lv_tableIn (x := nI 8) (off := 108) (tgt := 109) hx hb dX3_count_1 (by decide) (by decide) (by decide) (by decide) ?_
      refine lv_aload_n hx hb dX3_count_109 rfl (lv_at hl 0 rfl) ?_
      refine zc_R (As := []) (rest := []) ⟨hx, hb, hml, hown, hts⟩ (c_allFacts l G b0 b1 b2 b3 b4 b5 b6 kn ik ty ra rb rd iw fl sg (by omega)) (cwV 0 hts gX3_count_X3_allFacts rfl rfl rfl (by decide +kernel) ⟨Nat.le_of_ble_eq_true rfl, Nat.le_of_ble_eq_true rfl⟩) hK hN hP hD [0, 1] rfl (by decide) (ci := 3) rfl rfl rfl hl.1 rfl (Nat.le_of_ble_eq_true rfl) dX3_count_110 ⟨Nat.zero_le _, Nat.zero_le _⟩ (fun r110 h110 => ?_)
      subst h110
      refine zc_S (As := [.int (nI (allF (szF sg) (atF sg 3) 8))]) (rest := []) ⟨hx, hb, hml, hown, hts⟩ (c_bitsOf l (allF (szF sg) (atF sg 3) 8) (allF_le (fun e t he ht => (hM.2.2 e t he ht).2.2.2.1.2) 8 (Nat.le_refl 8))) (va_cwS 1 hts gX3_count_X3_bitsOf rfl rfl rfl (by decide +kernel) ⟨Nat.le_of_ble_eq_true rfl, Nat.le_of_ble_eq_true rfl⟩) rfl hl.1 rfl (Nat.le_of_ble_eq_true rfl) dX3_count_113 ⟨Nat.zero_le _, Nat.zero_le _⟩ (fun r113 h113 => ?_)
      subst h113
      exact W.iret (v := nI (bitsN (allF (szF sg) (atF sg 3) 8) 16)) hx hb hr (fun tT ht hW => ⟨_, rfl, Or.inr (Or.inr (Or.inr (Or.inr (Or.inr (Or.inr (Or.inr (Or.inr (Or.inl ⟨rfl, rfl⟩)))))))), ht⟩) (fun _ h => absurd h List.not_mem_nil) dX3_count_116
    · refine lv_tableIn (x := nI 9) (off := 116) (tgt := 117) hx hb dX3_count_1 (by decide) (by decide) (by decide) (by decide) ?_
      refine lv_aload_n hx hb dX3_count_117 rfl (lv_at hl 0 rfl) ?_
      refine va_get (D := G.1) (ci := 3) (v := .int (nI kn)) (C := RX3) (T := TX3) (N := 14) hx hb hts mic_count_3 hown hK hP 0 rfl rfl 3 (by decide) (hts _ mwc_count_2) (fun _ h9 => h9) rfl dX3_count_118 ?_
      exact W.iret (v := nI kn) hx hb hr (fun tT ht hW => ⟨_, rfl, Or.inr (Or.inr (Or.inr (Or.inr (Or.inr (Or.inr (Or.inr (Or.inr (Or.inr (Or.inl ⟨rfl, rfl⟩))))))))), ht⟩) (fun _ h => absurd h List.not_mem_nil) dX3_count_121
    · refine lv_tableIn (x := nI 10) (off := 121) (tgt := 122) hx hb dX3_count_1 (by decide) (by decide) (by decide) (by decide) ?_
      refine lv_aload_n hx hb dX3_count_122 rfl (lv_at hl 0 rfl) ?_
      refine va_get (D := G.1) (ci := 3) (v := .int (nI ty)) (C := RX3) (T := TX3) (N := 14) hx hb hts mic_count_3 hown hK hP 0 rfl rfl 7 (by decide) (hts _ mwc_count_3) (fun _ h9 => h9) rfl dX3_count_123 ?_
      exact W.iret (v := nI ty) hx hb hr (fun tT ht hW => ⟨_, rfl, Or.inr (Or.inr (Or.inr (Or.inr (Or.inr (Or.inr (Or.inr (Or.inr (Or.inr (Or.inr (Or.inl ⟨rfl, rfl⟩)))))))))), ht⟩) (fun _ h => absurd h List.not_mem_nil) dX3_count_126
  · refine lv_tableOut (tgt := 127) hx hb dX3_count_1 (sw_out (n := 11) (by decide) hno (by decide)) (by decide) ?_
    refine lv_bipush (v := (-2)) hx hb dX3_count_127 (by decide) ?_
    exact W.iret (v := (-2)) hx hb hr (fun tT ht hW => ⟨_, rfl, Or.inr (Or.inr (Or.inr (Or.inr (Or.inr (Or.inr (Or.inr (Or.inr (Or.inr (Or.inr (Or.inr ⟨hno, rfl⟩)))))))))), ht⟩) (fun _ h => absurd h List.not_mem_nil) dX3_count_129
set_option maxRecDepth 100000 in
theorem mwc_refusal_0 : Cond.fieldLink RX3 29 "ExhibitTextsModel" "refusedBy" "I" ∈ wsX3_refusal := by decide +kernel
set_option maxRecDepth 100000 in
theorem mic_refusal_3 : ∀ w ∈ u_ws RX3 TX3 14, w ∈ wsX3_refusal := by decide +kernel
set_option maxRecDepth 100000 in
theorem mwc_refusal_2 : Cond.fieldLink RX3 25 "ExhibitTextsModel" "refusedAt" "I" ∈ wsX3_refusal := by decide +kernel
set_option maxHeartbeats 4000000 in
set_option maxRecDepth 100000 in
/-- X3_refusal: refusal -/
theorem c_refusal (l : Launch) (G : zG) (b0 : Nat) (b1 : Nat) (b2 : Nat) (b3 : Nat) (b4 : Nat) (b5 : Nat) (b6 : Nat) (kn : Nat) (ik : Nat) (ty : Nat) (ra : Int32) (rb : Int32) (rd : Nat) (iw : Nat) (fl : Int32) (x : Int32) : Met l yX3_refusal wsX3_refusal ({ frames := 1, cells := 0, slots := 0, locals := 22 } : Room) (zPc G [.ref b0, .int x] [(b0, .inr (3, [.ref b1, .ref b2, .ref b3, .int (nI kn), .ref b4, .int (nI ik), .ref b5, .int (nI ty), .int ra, .int rb, .int (nI rd), .int (nI iw), .ref b6, .int fl]))]) (vp_Si (fun (rR : Int32) => ((¬ ∃ n : Nat, 0 ≤ n ∧ n ≤ 1 ∧ x = nI n) ∧ rR = (-2)) ∨ (x = nI 0 ∧ rR = ra) ∨ (x = nI 1 ∧ rR = rb))) 0 0 (fun _ => False) := by
  refine zR (cc := cX3_refusal) (maxL := 2) (ret := (some .int)) (by decide) rfl (Nat.le_of_ble_eq_true rfl) ?_
  intro pP eE sS mM below meth cC hx hb hr hts hown hlk hml hK hN hP hD ls hl
  have hl : lv_has ls 2 [(0, .ref b0), (1, .int x)] := hl
  refine lv_iload_n hx hb dX3_refusal_0 rfl (lv_at hl 1 rfl) ?_
  refine lv_iconst (v := nI 0) hx hb dX3_refusal_1 (by decide) ?_
  refine lv_iconst (v := nI 1) hx hb dX3_refusal_2 (by decide) ?_
  refine zc_S (As := [.int x, .int (nI 0), .int (nI 1)]) (rest := []) ⟨hx, hb, hml, hown, hts⟩ (c_in_c l x 0 1 (by omega) (by omega)) (va_cwS 3 hts gX3_refusal_X3_in rfl rfl rfl (by decide +kernel) ⟨Nat.le_of_ble_eq_true rfl, Nat.le_of_ble_eq_true rfl⟩) rfl hl.1 rfl (Nat.le_of_ble_eq_true rfl) dX3_refusal_3 ⟨Nat.zero_le _, Nat.zero_le _⟩ (fun r3 h3 => ?_)
  rcases h3 with ⟨nX_3, h3_0, h3_1, rfl, rfl⟩ | ⟨h3_0, rfl⟩
  · refine lv_if_ne (tgt := 14) hx hb dX3_refusal_6 (by decide) (fun _ => ?_) (fun q => absurd q (by decide))
    refine lv_iload_n hx hb dX3_refusal_14 rfl (lv_at hl 1 rfl) ?_
    refine zk_zne (tgt := 25) hx hb dX3_refusal_15 (by decide) (by omega) (fun c15 => ?_) (fun c15 => ?_)
    · refine lv_aload_n hx hb dX3_refusal_25 rfl (lv_at hl 0 rfl) ?_
      refine va_get (D := G.1) (ci := 3) (v := .int rb) (C := RX3) (T := TX3) (N := 14) hx hb hts mic_refusal_3 hown hK hP 0 rfl rfl 9 (by decide) (hts _ mwc_refusal_0) (fun _ h9 => h9) rfl dX3_refusal_26 ?_
      exact W.iret (v := rb) hx hb hr (fun tT ht hW => ⟨_, rfl, Or.inr (Or.inr ⟨by rw [show nX_3 = 1 from by omega], rfl⟩), ht⟩) (fun _ h => absurd h List.not_mem_nil) dX3_refusal_29
    · refine lv_aload_n hx hb dX3_refusal_18 rfl (lv_at hl 0 rfl) ?_
      refine va_get (D := G.1) (ci := 3) (v := .int ra) (C := RX3) (T := TX3) (N := 14) hx hb hts mic_refusal_3 hown hK hP 0 rfl rfl 8 (by decide) (hts _ mwc_refusal_2) (fun _ h9 => h9) rfl dX3_refusal_19 ?_
      refine lv_goto (tgt := 29) hx hb dX3_refusal_22 (by decide) ?_
      exact W.iret (v := ra) hx hb hr (fun tT ht hW => ⟨_, rfl, Or.inr (Or.inl ⟨by rw [c15], rfl⟩), ht⟩) (fun _ h => absurd h List.not_mem_nil) dX3_refusal_29
  · refine lv_if_ne (tgt := 14) hx hb dX3_refusal_6 (by decide) (fun q => absurd (by decide) q) (fun _ => ?_)
    refine lv_bipush (v := (-2)) hx hb dX3_refusal_9 (by decide) ?_
    refine lv_goto (tgt := 29) hx hb dX3_refusal_11 (by decide) ?_
    exact W.iret (v := (-2)) hx hb hr (fun tT ht hW => ⟨_, rfl, Or.inl ⟨h3_0, rfl⟩, ht⟩) (fun _ h => absurd h List.not_mem_nil) dX3_refusal_29
set_option maxRecDepth 100000 in
theorem mwc_type_0 : Cond.fieldLink RX3 86 "ExhibitTextsModel" "typed" "I" ∈ wsX3_type := by decide +kernel
set_option maxRecDepth 100000 in
theorem mic_type_3 : ∀ w ∈ u_ws RX3 TX3 14, w ∈ wsX3_type := by decide +kernel
set_option maxRecDepth 100000 in
theorem mwc_type_2 : Cond.fieldLink RX3 22 "ExhibitTextsModel" "pad" "[I" ∈ wsX3_type := by decide +kernel
set_option maxHeartbeats 4000000 in
set_option maxRecDepth 100000 in
/-- X3_type: type -/
theorem c_type (l : Launch) (G : zG) (b0 : Nat) (b1 : Nat) (b2 : Nat) (b3 : Nat) (b4 : Nat) (b5 : Nat) (b6 : Nat) (kn : Nat) (ik : Nat) (ty : Nat) (ra : Int32) (rb : Int32) (rd : Nat) (iw : Nat) (fl : Int32) (pd : Nat → Nat) (ch : Nat) (hty : ty ≤ 60) : Met l yX3_type wsX3_type ({ frames := 0, cells := 0, slots := 0, locals := 0 } : Room) (zPc G [.ref b0, .int (nI ch)] [(b0, .inr (3, [.ref b1, .ref b2, .ref b3, .int (nI kn), .ref b4, .int (nI ik), .ref b5, .int (nI ty), .int ra, .int rb, .int (nI rd), .int (nI iw), .ref b6, .int fl])), (b5, .inl (G.2.1, 60, .inl (arN pd)))]) (va_Qi (fun (rR : Int32) (uU : Nat × (Nat → Nat)) => (ty = 60 ∧ rR = (-3) ∧ uU = (ty, pd)) ∨ (ty < 60 ∧ rR = nI (ty + 1) ∧ uU = (ty + 1, arU pd ty ch))) (fun uU tT => va_P G.1 vwCl ((fun (uU : Nat × (Nat → Nat)) => ([(b0, .inr (3, [.ref b1, .ref b2, .ref b3, .int (nI kn), .ref b4, .int (nI ik), .ref b5, .int (nI uU.1), .int ra, .int rb, .int (nI rd), .int (nI iw), .ref b6, .int fl])), (b5, .inl (G.2.1, 60, .inl (arN uU.2)))] : va_W)) uU) tT.heap) (zIn [(b0, .inr (3, [.ref b1, .ref b2, .ref b3, .int (nI kn), .ref b4, .int (nI ik), .ref b5, .int (nI ty), .int ra, .int rb, .int (nI rd), .int (nI iw), .ref b6, .int fl])), (b5, .inl (G.2.1, 60, .inl (arN pd)))])) 0 0 (zIn [(b0, .inr (3, [.ref b1, .ref b2, .ref b3, .int (nI kn), .ref b4, .int (nI ik), .ref b5, .int (nI ty), .int ra, .int rb, .int (nI rd), .int (nI iw), .ref b6, .int fl])), (b5, .inl (G.2.1, 60, .inl (arN pd)))]) := by
  refine zM (cc := cX3_type) (maxL := 2) (ret := (some .int)) (by decide) rfl (Nat.le_of_ble_eq_true rfl) ?_
  intro pP eE sS mM below meth cC hx hb hr hts hown hlk hml hnm hK hN hP hD hS ls hl
  have hl : lv_has ls 2 [(0, .ref b0), (1, .int (nI ch))] := hl
  refine lv_aload_n hx hb dX3_type_0 rfl (lv_at hl 0 rfl) ?_
  refine va_get (D := G.1) (ci := 3) (v := .int (nI ty)) (C := RX3) (T := TX3) (N := 14) hx hb hts mic_type_3 hown hK hP 0 rfl rfl 7 (by decide) (hts _ mwc_type_0) (fun _ h9 => h9) rfl dX3_type_1 ?_
  refine lv_bipush (v := nI 60) hx hb dX3_type_4 (by decide) ?_
  refine zk_ine (tgt := 12) hx hb dX3_type_6 (by decide) (by omega) (by omega) (fun c6 => ?_) (fun c6 => ?_)
  · refine lv_aload_n hx hb dX3_type_12 rfl (lv_at hl 0 rfl) ?_
    refine va_get (D := G.1) (ci := 3) (v := .ref b5) (C := RX3) (T := TX3) (N := 14) hx hb hts mic_type_3 hown hK hP 0 rfl rfl 6 (by decide) (hts _ mwc_type_2) (fun _ h9 => h9) rfl dX3_type_13 ?_
    refine lv_aload_n hx hb dX3_type_16 rfl (lv_at hl 0 rfl) ?_
    refine va_get (D := G.1) (ci := 3) (v := .int (nI ty)) (C := RX3) (T := TX3) (N := 14) hx hb hts mic_type_3 hown hK hP 0 rfl rfl 7 (by decide) (hts _ mwc_type_0) (fun _ h9 => h9) rfl dX3_type_17 ?_
    refine lv_iload_n hx hb dX3_type_20 rfl (lv_at hl 1 rfl) ?_
    refine zk_ast (f := pd) (k := ty) (v := ch) (ws2 := [(b0, .inr (3, [.ref b1, .ref b2, .ref b3, .int (nI kn), .ref b4, .int (nI ik), .ref b5, .int (nI ty), .int ra, .int rb, .int (nI rd), .int (nI iw), .ref b6, .int fl])), (b5, .inl (G.2.1, 60, .inl (arN (arU pd ty ch))))]) hx hb hK hP hD hS 1 0 rfl rfl (Nat.le_of_ble_eq_true rfl) (by omega) rfl dX3_type_21 (fun H locs hP hD hS => ?_)
    refine lv_aload_n hx hb dX3_type_22 rfl (lv_at hl 0 rfl) ?_
    refine lv_dup hx hb dX3_type_23 rfl ?_
    refine va_get (D := G.1) (ci := 3) (v := .int (nI ty)) (C := RX3) (T := TX3) (N := 14) hx hb hts mic_type_3 hown hK hP 0 rfl rfl 7 (by decide) (hts _ mwc_type_0) (fun _ h9 => h9) rfl dX3_type_24 ?_
    refine lv_iconst (v := nI 1) hx hb dX3_type_27 (by decide) ?_
    refine zk_add hx hb dX3_type_28 ?_
    refine zk_put (D := G.1) (ci := 3) (v := .int (nI (ty + 1))) (ty := .int) (C := RX3) (T := TX3) (N := 14) (ws2 := [(b0, .inr (3, [.ref b1, .ref b2, .ref b3, .int (nI kn), .ref b4, .int (nI ik), .ref b5, .int (nI (ty + 1)), .int ra, .int rb, .int (nI rd), .int (nI iw), .ref b6, .int fl])), (b5, .inl (G.2.1, 60, .inl (arN (arU pd ty ch))))]) hx hb hts mic_type_3 tyX3 tyX3_ok nmX3 hown hK hP hD hS 0 rfl rfl 7 (by decide) (hts _ mwc_type_0) (fun _ h9 => h9) rfl (by decide +kernel) rfl rfl (Nat.le_of_ble_eq_true rfl) rfl dX3_type_29 (fun H locs hP hD hS => ?_)
    refine lv_aload_n hx hb dX3_type_32 rfl (lv_at hl 0 rfl) ?_
    refine va_get (D := G.1) (ci := 3) (v := .int (nI (ty + 1))) (C := RX3) (T := TX3) (N := 14) hx hb hts mic_type_3 hown hK hP 0 rfl rfl 7 (by decide) (hts _ mwc_type_0) (fun _ h9 => h9) rfl dX3_type_33 ?_
    exact W.iret (v := nI (ty + 1)) hx hb hr (fun tT ht hW => ⟨⟨_, (ty + 1, arU pd ty ch), rfl, Or.inr ⟨by omega, rfl, rfl⟩, by show va_P G.1 vwCl _ tT.heap; rw [ht]; exact hP⟩, hS.F ht⟩) hS.2.2 dX3_type_36
  · refine lv_bipush (v := (-3)) hx hb dX3_type_9 (by decide) ?_
    exact W.iret (v := (-3)) hx hb hr (fun tT ht hW => ⟨⟨_, (ty, pd), rfl, Or.inl ⟨c6, rfl, rfl⟩, by show va_P G.1 vwCl _ tT.heap; rw [ht]; exact hP⟩, hS.F ht⟩) hS.2.2 dX3_type_11
set_option maxRecDepth 100000 in
theorem mwc_clearPad_0 : Cond.fieldLink RX3 86 "ExhibitTextsModel" "typed" "I" ∈ wsX3_clearPad := by decide +kernel
set_option maxRecDepth 100000 in
theorem mic_clearPad_3 : ∀ w ∈ u_ws RX3 TX3 14, w ∈ wsX3_clearPad := by decide +kernel
set_option maxHeartbeats 4000000 in
set_option maxRecDepth 100000 in
/-- X3_clearPad: clearPad -/
theorem c_clearPad (l : Launch) (G : zG) (b0 : Nat) (b1 : Nat) (b2 : Nat) (b3 : Nat) (b4 : Nat) (b5 : Nat) (b6 : Nat) (kn : Nat) (ik : Nat) (ty : Nat) (ra : Int32) (rb : Int32) (rd : Nat) (iw : Nat) (fl : Int32) : Met l yX3_clearPad wsX3_clearPad ({ frames := 0, cells := 0, slots := 0, locals := 0 } : Room) (zPc G [.ref b0] [(b0, .inr (3, [.ref b1, .ref b2, .ref b3, .int (nI kn), .ref b4, .int (nI ik), .ref b5, .int (nI ty), .int ra, .int rb, .int (nI rd), .int (nI iw), .ref b6, .int fl]))]) (va_Qi (fun (rR : Int32) (uU : Nat) => rR = nI ty ∧ uU = 0) (fun uU tT => va_P G.1 vwCl ((fun (uU : Nat) => ([(b0, .inr (3, [.ref b1, .ref b2, .ref b3, .int (nI kn), .ref b4, .int (nI ik), .ref b5, .int (nI uU), .int ra, .int rb, .int (nI rd), .int (nI iw), .ref b6, .int fl]))] : va_W)) uU) tT.heap) (zIn [(b0, .inr (3, [.ref b1, .ref b2, .ref b3, .int (nI kn), .ref b4, .int (nI ik), .ref b5, .int (nI ty), .int ra, .int rb, .int (nI rd), .int (nI iw), .ref b6, .int fl]))])) 0 0 (zIn [(b0, .inr (3, [.ref b1, .ref b2, .ref b3, .int (nI kn), .ref b4, .int (nI ik), .ref b5, .int (nI ty), .int ra, .int rb, .int (nI rd), .int (nI iw), .ref b6, .int fl]))]) := by
  refine zM (cc := cX3_clearPad) (maxL := 2) (ret := (some .int)) (by decide) rfl (Nat.le_of_ble_eq_true rfl) ?_
  intro pP eE sS mM below meth cC hx hb hr hts hown hlk hml hnm hK hN hP hD hS ls hl
  have hl : lv_has ls 2 [(0, .ref b0)] := hl
  refine lv_aload_n hx hb dX3_clearPad_0 rfl (lv_at hl 0 rfl) ?_
  refine va_get (D := G.1) (ci := 3) (v := .int (nI ty)) (C := RX3) (T := TX3) (N := 14) hx hb hts mic_clearPad_3 hown hK hP 0 rfl rfl 7 (by decide) (hts _ mwc_clearPad_0) (fun _ h9 => h9) rfl dX3_clearPad_1 ?_
  refine lv_istore_n (lv' := [(1, .int (nI ty)), (0, .ref b0)]) hx hb dX3_clearPad_4 rfl hl (by decide) rfl (fun ls hl => ?_)
  refine lv_aload_n hx hb dX3_clearPad_5 rfl (lv_at hl 1 rfl) ?_
  refine lv_iconst (v := nI 0) hx hb dX3_clearPad_6 (by decide) ?_
  refine zk_put (D := G.1) (ci := 3) (v := .int (nI 0)) (ty := .int) (C := RX3) (T := TX3) (N := 14) (ws2 := [(b0, .inr (3, [.ref b1, .ref b2, .ref b3, .int (nI kn), .ref b4, .int (nI ik), .ref b5, .int (nI 0), .int ra, .int rb, .int (nI rd), .int (nI iw), .ref b6, .int fl]))]) hx hb hts mic_clearPad_3 tyX3 tyX3_ok nmX3 hown hK hP hD hS 0 rfl rfl 7 (by decide) (hts _ mwc_clearPad_0) (fun _ h9 => h9) rfl (by decide +kernel) rfl rfl (Nat.le_of_ble_eq_true rfl) rfl dX3_clearPad_7 (fun H locs hP hD hS => ?_)
  refine lv_iload_n hx hb dX3_clearPad_10 rfl (lv_at hl 0 rfl) ?_
  exact W.iret (v := nI ty) hx hb hr (fun tT ht hW => ⟨⟨_, 0, rfl, ⟨rfl, rfl⟩, by show va_P G.1 vwCl _ tT.heap; rw [ht]; exact hP⟩, hS.F ht⟩) hS.2.2 dX3_clearPad_11
