set_option maxRecDepth 100000 in
theorem mwc2_text_0 : Cond.fieldLink RX2 12 "ExhibitTexts" "now" "LExhibitTexts$State;" ∈ wsX2_text := by decide +kernel
set_option maxRecDepth 100000 in
theorem mic2_text_2 : ∀ w ∈ u_ws RX2 TX2 10, w ∈ wsX2_text := by decide +kernel
set_option maxRecDepth 100000 in
theorem mwc2_text_2 : Cond.fieldLink RX2 115 "ExhibitTexts$State" "cells" "[I" ∈ wsX2_text := by decide +kernel
set_option maxRecDepth 100000 in
theorem mic2_text_1 : ∀ w ∈ u_ws RX1 TX1 12, w ∈ wsX2_text := by decide +kernel
set_option maxHeartbeats 4000000 in
set_option maxRecDepth 100000 in
/-- X2_text: text -/
theorem c2_text (l : Launch) (G : zG) (m0 : Nat) (t0 : Nat) (s0 : Nat) (hy : Nat) (p0 : Nat) (kp : Nat) (nx : Nat) (st : Nat) (re : Int32) (er : Int32) (a0 : Nat) (a1 : Nat) (a2 : Nat) (sz : Nat → Nat) (sc : Nat → Nat) (sg : Nat → Nat) (x : Int32) (y : Int32) (z : Int32) (hM : mOK sg) (hR : sRel sz sc sg) : Met l yX2_text wsX2_text ({ frames := 2, cells := 0, slots := 0, locals := 42 } : Room) (zPc G [.ref m0, .int x, .int y, .int z] [(m0, .inr (2, [.ref a0, .ref t0, .ref s0, .int (nI kp), .ref hy, .int (nI nx), .int (nI st), .ref p0, .int re, .int er])), (a0, .inr (1, [.ref a1, .ref a2, .int (nI (sg 0)), .int (nI (sg 1)), .int (nI (sg 7)), .int (nI (sg 8)), .int (nI (sg 9)), .int (nI (sg 2)), .int (nI (sg 3)), .int (nI (sg 4)), .int (nI (sg 5)), .int (nI (sg 6))])), (a1, .inl (G.2.1, 8, .inl (arN sz))), (a2, .inl (G.2.1, 640, .inl (arN sc)))]) (vp_Si (fun (rR : Int32) => (¬ pTn (szF sg) x y ∧ rR = (-1)) ∨ (∃ (eX : Nat) (tX : Nat), eX < 8 ∧ tX < sg (10 + 76 * eX) ∧ x = nI eX ∧ y = nI tX ∧ z = nI 0 ∧ rR = nI (sg (11 + 76 * eX + 15 * tX + 0))) ∨ (∃ (eX : Nat) (tX : Nat), eX < 8 ∧ tX < sg (10 + 76 * eX) ∧ x = nI eX ∧ y = nI tX ∧ z = nI 1 ∧ rR = nI (sg (11 + 76 * eX + 15 * tX + 1))) ∨ (∃ (eX : Nat) (tX : Nat), eX < 8 ∧ tX < sg (10 + 76 * eX) ∧ x = nI eX ∧ y = nI tX ∧ z = nI 2 ∧ rR = nI (sg (11 + 76 * eX + 15 * tX + 2))) ∨ (∃ (eX : Nat) (tX : Nat), eX < 8 ∧ tX < sg (10 + 76 * eX) ∧ x = nI eX ∧ y = nI tX ∧ z = nI 3 ∧ rR = nI (sg (11 + 76 * eX + 15 * tX + 3))) ∨ (∃ (eX : Nat) (tX : Nat), eX < 8 ∧ tX < sg (10 + 76 * eX) ∧ x = nI eX ∧ y = nI tX ∧ z = nI 4 ∧ rR = nI (rdg sg eX tX)) ∨ (∃ (eX : Nat) (tX : Nat), eX < 8 ∧ tX < sg (10 + 76 * eX) ∧ x = nI eX ∧ y = nI tX ∧ z = nI 5 ∧ rR = nI (sg (11 + 76 * eX + 15 * tX + 5))) ∨ (∃ (eX : Nat) (tX : Nat), eX < 8 ∧ tX < sg (10 + 76 * eX) ∧ x = nI eX ∧ y = nI tX ∧ z = nI 6 ∧ rR = nI (sg (11 + 76 * eX + 15 * tX + 4))) ∨ (∃ (eX : Nat) (tX : Nat), eX < 8 ∧ tX < sg (10 + 76 * eX) ∧ x = nI eX ∧ y = nI tX ∧ (¬ ∃ k : Nat, k < 7 ∧ z = nI k) ∧ rR = (-2)))) 0 0 (fun _ => False) := by
  refine zR (cc := cX2_text) (maxL := 5) (ret := (some .int)) (by decide) rfl (Nat.le_of_ble_eq_true rfl) ?_
  intro pP eE sS mM below meth cC hx hb hr hts hown hlk hml hK hN hP hD ls hl
  have hl : lv_has ls 5 [(0, .ref m0), (1, .int x), (2, .int y), (3, .int z)] := hl
  refine lv_aload_n hx hb dX2_text_0 rfl (lv_at hl 0 rfl) ?_
  refine va_get (D := G.1) (ci := 2) (v := .ref a0) (C := RX2) (T := TX2) (N := 10) hx hb hts mic2_text_2 hown hK hP 0 rfl rfl 0 (by decide) (hts _ mwc2_text_0) (fun _ h9 => h9) rfl dX2_text_1 ?_
  refine lv_iload_n hx hb dX2_text_4 rfl (lv_at hl 1 rfl) ?_
  refine lv_iload_n hx hb dX2_text_5 rfl (lv_at hl 2 rfl) ?_
  refine zc_R (As := [.int x, .int y]) (rest := []) ⟨hx, hb, hml, hown, hts⟩ (c_rowOf l G a0 a1 a2 sz sc sg x y hM hR) (cwV 2 hts gX2_text_X1_rowOf rfl rfl rfl (by decide +kernel) ⟨Nat.le_of_ble_eq_true rfl, Nat.le_of_ble_eq_true rfl⟩) hK hN hP hD [1, 2, 3] rfl (by decide) (ci := 1) rfl rfl rfl hl.1 rfl (Nat.le_of_ble_eq_true rfl) dX2_text_6 ⟨Nat.zero_le _, Nat.zero_le _⟩ (fun r6 h6 => ?_)
  rcases h6 with ⟨eX_6, tX_6, h6_0, h6_1, rfl, rfl, rfl⟩ | ⟨h6_0, rfl⟩
  · have hz5 := hM.2.1 eX_6 h6_0
    refine lv_istore (lv' := [(4, .int (nI ((eX_6 * 5 + tX_6) * 16))), (0, .ref m0), (1, .int (nI eX_6)), (2, .int (nI tX_6)), (3, .int z)]) hx hb dX2_text_9 hl (by decide) rfl (fun ls hl => ?_)
    refine lv_iload hx hb dX2_text_11 (lv_at hl 0 rfl) ?_
    refine zk_zge (tgt := 18) hx hb dX2_text_13 (by decide) (by omega) ?_
    refine lv_iload_n hx hb dX2_text_18 rfl (lv_at hl 4 rfl) ?_
    refine lv_if_lt (tgt := 28) hx hb dX2_text_19 (by decide) (fun c19 => ?_) (fun c19 => ?_)
    · refine lv_bipush (v := (-2)) hx hb dX2_text_28 (by decide) ?_
      exact W.iret (v := (-2)) hx hb hr (fun tT ht hW => ⟨_, rfl, Or.inr (Or.inr (Or.inr (Or.inr (Or.inr (Or.inr (Or.inr (Or.inr ⟨eX_6, tX_6, h6_0, h6_1, rfl, rfl, lt_no1 (by decide) c19, rfl⟩))))))), ht⟩) (fun _ h => absurd h List.not_mem_nil) dX2_text_30
    · refine lv_iload_n hx hb dX2_text_22 rfl (lv_at hl 4 rfl) ?_
      refine lv_bipush (v := nI 7) hx hb dX2_text_23 (by decide) ?_
      refine lv_icmp_lt (tgt := 31) hx hb dX2_text_25 (by decide) (fun c25 => ?_) (fun c25 => ?_)
      · obtain ⟨zY, hz7, rfl⟩ := lt_yes (by decide) c19 c25
        refine lv_aload_n hx hb dX2_text_31 rfl (lv_at hl 1 rfl) ?_
        refine va_get (D := G.1) (ci := 2) (v := .ref a0) (C := RX2) (T := TX2) (N := 10) hx hb hts mic2_text_2 hown hK hP 0 rfl rfl 0 (by decide) (hts _ mwc2_text_0) (fun _ h9 => h9) rfl dX2_text_32 ?_
        refine va_get (D := G.1) (ci := 1) (v := .ref a2) (C := RX1) (T := TX1) (N := 12) hx hb hts mic2_text_1 hown hK hP 1 rfl rfl 1 (by decide) (hts _ mwc2_text_2) (fun _ h9 => h9) rfl dX2_text_35 ?_
        refine lv_iload hx hb dX2_text_38 (lv_at hl 0 rfl) ?_
        refine lv_iload_n hx hb dX2_text_40 rfl (lv_at hl 4 rfl) ?_
        refine zk_add hx hb dX2_text_41 ?_
        rcases (show zY = 0 ∨ zY = 1 ∨ zY = 2 ∨ zY = 3 ∨ zY = 4 ∨ zY = 5 ∨ zY = 6 from by omega) with rfl | rfl | rfl | rfl | rfl | rfl | rfl
        · refine zk_ald (f := sc) (k := ((eX_6 * 5 + tX_6) * 16) + 0) hx hb hK hP 3 0 rfl rfl (Nat.le_of_ble_eq_true rfl) (by omega) dX2_text_42 ?_
          refine zk_top (y := nI (sg (11 + 76 * eX_6 + 15 * tX_6 + 0))) (congrArg nI (hR.2 eX_6 tX_6 h6_0 h6_1).1) ?_
          exact W.iret (v := nI (sg (11 + 76 * eX_6 + 15 * tX_6 + 0))) hx hb hr (fun tT ht hW => ⟨_, rfl, Or.inr (Or.inl ⟨eX_6, tX_6, h6_0, h6_1, rfl, rfl, rfl, rfl⟩), ht⟩) (fun _ h => absurd h List.not_mem_nil) dX2_text_43
        · refine zk_ald (f := sc) (k := ((eX_6 * 5 + tX_6) * 16) + 1) hx hb hK hP 3 0 rfl rfl (Nat.le_of_ble_eq_true rfl) (by omega) dX2_text_42 ?_
          refine zk_top (y := nI (sg (11 + 76 * eX_6 + 15 * tX_6 + 1))) (congrArg nI (hR.2 eX_6 tX_6 h6_0 h6_1).2.1) ?_
          exact W.iret (v := nI (sg (11 + 76 * eX_6 + 15 * tX_6 + 1))) hx hb hr (fun tT ht hW => ⟨_, rfl, Or.inr (Or.inr (Or.inl ⟨eX_6, tX_6, h6_0, h6_1, rfl, rfl, rfl, rfl⟩)), ht⟩) (fun _ h => absurd h List.not_mem_nil) dX2_text_43
        · refine zk_ald (f := sc) (k := ((eX_6 * 5 + tX_6) * 16) + 2) hx hb hK hP 3 0 rfl rfl (Nat.le_of_ble_eq_true rfl) (by omega) dX2_text_42 ?_
          refine zk_top (y := nI (sg (11 + 76 * eX_6 + 15 * tX_6 + 2))) (congrArg nI (hR.2 eX_6 tX_6 h6_0 h6_1).2.2.1) ?_
          exact W.iret (v := nI (sg (11 + 76 * eX_6 + 15 * tX_6 + 2))) hx hb hr (fun tT ht hW => ⟨_, rfl, Or.inr (Or.inr (Or.inr (Or.inl ⟨eX_6, tX_6, h6_0, h6_1, rfl, rfl, rfl, rfl⟩))), ht⟩) (fun _ h => absurd h List.not_mem_nil) dX2_text_43
        · refine zk_ald (f := sc) (k := ((eX_6 * 5 + tX_6) * 16) + 3) hx hb hK hP 3 0 rfl rfl (Nat.le_of_ble_eq_true rfl) (by omega) dX2_text_42 ?_
          refine zk_top (y := nI (sg (11 + 76 * eX_6 + 15 * tX_6 + 3))) (congrArg nI (hR.2 eX_6 tX_6 h6_0 h6_1).2.2.2.1) ?_
          exact W.iret (v := nI (sg (11 + 76 * eX_6 + 15 * tX_6 + 3))) hx hb hr (fun tT ht hW => ⟨_, rfl, Or.inr (Or.inr (Or.inr (Or.inr (Or.inl ⟨eX_6, tX_6, h6_0, h6_1, rfl, rfl, rfl, rfl⟩)))), ht⟩) (fun _ h => absurd h List.not_mem_nil) dX2_text_43
        · refine zk_ald (f := sc) (k := ((eX_6 * 5 + tX_6) * 16) + 4) hx hb hK hP 3 0 rfl rfl (Nat.le_of_ble_eq_true rfl) (by omega) dX2_text_42 ?_
          refine zk_top (y := nI (rdg sg eX_6 tX_6)) (congrArg nI (hR.2 eX_6 tX_6 h6_0 h6_1).2.2.2.2.1) ?_
          exact W.iret (v := nI (rdg sg eX_6 tX_6)) hx hb hr (fun tT ht hW => ⟨_, rfl, Or.inr (Or.inr (Or.inr (Or.inr (Or.inr (Or.inl ⟨eX_6, tX_6, h6_0, h6_1, rfl, rfl, rfl, rfl⟩))))), ht⟩) (fun _ h => absurd h List.not_mem_nil) dX2_text_43
        · refine zk_ald (f := sc) (k := ((eX_6 * 5 + tX_6) * 16) + 5) hx hb hK hP 3 0 rfl rfl (Nat.le_of_ble_eq_true rfl) (by omega) dX2_text_42 ?_
          refine zk_top (y := nI (sg (11 + 76 * eX_6 + 15 * tX_6 + 5))) (congrArg nI (hR.2 eX_6 tX_6 h6_0 h6_1).2.2.2.2.2.1) ?_
          exact W.iret (v := nI (sg (11 + 76 * eX_6 + 15 * tX_6 + 5))) hx hb hr (fun tT ht hW => ⟨_, rfl, Or.inr (Or.inr (Or.inr (Or.inr (Or.inr (Or.inr (Or.inl ⟨eX_6, tX_6, h6_0, h6_1, rfl, rfl, rfl, rfl⟩)))))), ht⟩) (fun _ h => absurd h List.not_mem_nil) dX2_text_43
        · refine zk_ald (f := sc) (k := ((eX_6 * 5 + tX_6) * 16) + 6) hx hb hK hP 3 0 rfl rfl (Nat.le_of_ble_eq_true rfl) (by omega) dX2_text_42 ?_
          refine zk_top (y := nI (sg (11 + 76 * eX_6 + 15 * tX_6 + 4))) (congrArg nI (hR.2 eX_6 tX_6 h6_0 h6_1).2.2.2.2.2.2.1) ?_
          exact W.iret (v := nI (sg (11 + 76 * eX_6 + 15 * tX_6 + 4))) hx hb hr (fun tT ht hW => ⟨_, rfl, Or.inr (Or.inr (Or.inr (Or.inr (Or.inr (Or.inr (Or.inr (Or.inl ⟨eX_6, tX_6, h6_0, h6_1, rfl, rfl, rfl, rfl⟩))))))), ht⟩) (fun _ h => absurd h List.not_mem_nil) dX2_text_43
      · refine lv_bipush (v := (-2)) hx hb dX2_text_28 (by decide) ?_
        exact W.iret (v := (-2)) hx hb hr (fun tT ht hW => ⟨_, rfl, Or.inr (Or.inr (Or.inr (Or.inr (Or.inr (Or.inr (Or.inr (Or.inr ⟨eX_6, tX_6, h6_0, h6_1, rfl, rfl, lt_no2 (by decide) c25, rfl⟩))))))), ht⟩) (fun _ h => absurd h List.not_mem_nil) dX2_text_30
  · refine lv_istore (lv' := [(4, .int (-1)), (0, .ref m0), (1, .int x), (2, .int y), (3, .int z)]) hx hb dX2_text_9 hl (by decide) rfl (fun ls hl => ?_)
    refine lv_iload hx hb dX2_text_11 (lv_at hl 0 rfl) ?_
    refine lv_if_ge (tgt := 18) hx hb dX2_text_13 (by decide) (fun q => absurd q (by decide)) (fun _ => ?_)
    refine lv_iconst (v := (-1)) hx hb dX2_text_16 (by decide) ?_
    exact W.iret (v := (-1)) hx hb hr (fun tT ht hW => ⟨_, rfl, Or.inl ⟨h6_0, rfl⟩, ht⟩) (fun _ h => absurd h List.not_mem_nil) dX2_text_17
set_option maxRecDepth 100000 in
theorem mwc2_caption_0 : Cond.fieldLink RX2 12 "ExhibitTexts" "now" "LExhibitTexts$State;" ∈ wsX2_caption := by decide +kernel
set_option maxRecDepth 100000 in
theorem mic2_caption_2 : ∀ w ∈ u_ws RX2 TX2 10, w ∈ wsX2_caption := by decide +kernel
set_option maxRecDepth 100000 in
theorem mwc2_caption_2 : Cond.fieldLink RX2 115 "ExhibitTexts$State" "cells" "[I" ∈ wsX2_caption := by decide +kernel
set_option maxRecDepth 100000 in
theorem mic2_caption_1 : ∀ w ∈ u_ws RX1 TX1 12, w ∈ wsX2_caption := by decide +kernel
set_option maxHeartbeats 4000000 in
set_option maxRecDepth 100000 in
/-- X2_caption: caption -/
theorem c2_caption (l : Launch) (G : zG) (m0 : Nat) (t0 : Nat) (s0 : Nat) (hy : Nat) (p0 : Nat) (kp : Nat) (nx : Nat) (st : Nat) (re : Int32) (er : Int32) (a0 : Nat) (a1 : Nat) (a2 : Nat) (sz : Nat → Nat) (sc : Nat → Nat) (sg : Nat → Nat) (x : Int32) (y : Int32) (z : Int32) (q : Int32) (hM : mOK sg) (hR : sRel sz sc sg) : Met l yX2_caption wsX2_caption ({ frames := 2, cells := 0, slots := 0, locals := 42 } : Room) (zPc G [.ref m0, .int x, .int y, .int z, .int q] [(m0, .inr (2, [.ref a0, .ref t0, .ref s0, .int (nI kp), .ref hy, .int (nI nx), .int (nI st), .ref p0, .int re, .int er])), (a0, .inr (1, [.ref a1, .ref a2, .int (nI (sg 0)), .int (nI (sg 1)), .int (nI (sg 7)), .int (nI (sg 8)), .int (nI (sg 9)), .int (nI (sg 2)), .int (nI (sg 3)), .int (nI (sg 4)), .int (nI (sg 5)), .int (nI (sg 6))])), (a1, .inl (G.2.1, 8, .inl (arN sz))), (a2, .inl (G.2.1, 640, .inl (arN sc)))]) (vp_Si (fun (rR : Int32) => (¬ pCp (szF sg) (atF sg 5) x y z ∧ rR = (-1)) ∨ (∃ (eX : Nat) (tX : Nat) (kX : Nat), eX < 8 ∧ tX < sg (10 + 76 * eX) ∧ kX < sg (11 + 76 * eX + 15 * tX + 5) ∧ x = nI eX ∧ y = nI tX ∧ z = nI kX ∧ (¬ ∃ n : Nat, 0 ≤ n ∧ n ≤ 2 ∧ q = nI n) ∧ rR = (-2)) ∨ (∃ (eX : Nat) (tX : Nat) (kX : Nat) (wX : Nat), eX < 8 ∧ tX < sg (10 + 76 * eX) ∧ kX < sg (11 + 76 * eX + 15 * tX + 5) ∧ x = nI eX ∧ y = nI tX ∧ z = nI kX ∧ wX ≤ 2 ∧ q = nI wX ∧ rR = nI (sg (11 + 76 * eX + 15 * tX + (6 + 3 * kX + wX)))))) 0 0 (fun _ => False) := by
  refine zR (cc := cX2_caption) (maxL := 7) (ret := (some .int)) (by decide) rfl (Nat.le_of_ble_eq_true rfl) ?_
  intro pP eE sS mM below meth cC hx hb hr hts hown hlk hml hK hN hP hD ls hl
  have hl : lv_has ls 7 [(0, .ref m0), (1, .int x), (2, .int y), (3, .int z), (4, .int q)] := hl
  refine lv_aload_n hx hb dX2_caption_0 rfl (lv_at hl 0 rfl) ?_
  refine va_get (D := G.1) (ci := 2) (v := .ref a0) (C := RX2) (T := TX2) (N := 10) hx hb hts mic2_caption_2 hown hK hP 0 rfl rfl 0 (by decide) (hts _ mwc2_caption_0) (fun _ h9 => h9) rfl dX2_caption_1 ?_
  refine lv_iload_n hx hb dX2_caption_4 rfl (lv_at hl 1 rfl) ?_
  refine lv_iload_n hx hb dX2_caption_5 rfl (lv_at hl 2 rfl) ?_
  refine zc_R (As := [.int x, .int y]) (rest := []) ⟨hx, hb, hml, hown, hts⟩ (c_rowOf l G a0 a1 a2 sz sc sg x y hM hR) (cwV 2 hts gX2_caption_X1_rowOf rfl rfl rfl (by decide +kernel) ⟨Nat.le_of_ble_eq_true rfl, Nat.le_of_ble_eq_true rfl⟩) hK hN hP hD [1, 2, 3] rfl (by decide) (ci := 1) rfl rfl rfl hl.1 rfl (Nat.le_of_ble_eq_true rfl) dX2_caption_6 ⟨Nat.zero_le _, Nat.zero_le _⟩ (fun r6 h6 => ?_)
  rcases h6 with ⟨eX_6, tX_6, h6_0, h6_1, rfl, rfl, rfl⟩ | ⟨h6_0, rfl⟩
  · have hz5 := hM.2.1 eX_6 h6_0
    have hc3 := (hM.2.2 eX_6 tX_6 h6_0 h6_1).2.2.2.2.1
    refine lv_istore (lv' := [(5, .int (nI ((eX_6 * 5 + tX_6) * 16))), (0, .ref m0), (1, .int (nI eX_6)), (2, .int (nI tX_6)), (3, .int z), (4, .int q)]) hx hb dX2_caption_9 hl (by decide) rfl (fun ls hl => ?_)
    refine lv_iload hx hb dX2_caption_11 (lv_at hl 0 rfl) ?_
    refine zk_zge (tgt := 18) hx hb dX2_caption_13 (by decide) (by omega) ?_
    refine lv_aload_n hx hb dX2_caption_18 rfl (lv_at hl 1 rfl) ?_
    refine va_get (D := G.1) (ci := 2) (v := .ref a0) (C := RX2) (T := TX2) (N := 10) hx hb hts mic2_caption_2 hown hK hP 0 rfl rfl 0 (by decide) (hts _ mwc2_caption_0) (fun _ h9 => h9) rfl dX2_caption_19 ?_
    refine lv_iload hx hb dX2_caption_22 (lv_at hl 0 rfl) ?_
    refine lv_iload_n hx hb dX2_caption_24 rfl (lv_at hl 4 rfl) ?_
    refine zc_R (As := [.int (nI ((eX_6 * 5 + tX_6) * 16)), .int z]) (rest := []) ⟨hx, hb, hml, hown, hts⟩ (c_captionOf l G a0 a1 a2 sz sc sg eX_6 tX_6 z hM hR h6_0 h6_1) (cwV 2 hts gX2_caption_X1_captionOf rfl rfl rfl (by decide +kernel) ⟨Nat.le_of_ble_eq_true rfl, Nat.le_of_ble_eq_true rfl⟩) hK hN hP hD [1, 2, 3] rfl (by decide) (ci := 1) rfl rfl rfl hl.1 rfl (Nat.le_of_ble_eq_true rfl) dX2_caption_25 ⟨Nat.zero_le _, Nat.zero_le _⟩ (fun r25 h25 => ?_)
    rcases h25 with ⟨kX_25, h25_0, rfl, rfl⟩ | ⟨h25_0, rfl⟩
    · refine lv_istore (lv' := [(6, .int (nI ((eX_6 * 5 + tX_6) * 16 + 7 + kX_25 * 3))), (5, .int (nI ((eX_6 * 5 + tX_6) * 16))), (0, .ref m0), (1, .int (nI eX_6)), (2, .int (nI tX_6)), (3, .int (nI kX_25)), (4, .int q)]) hx hb dX2_caption_28 hl (by decide) rfl (fun ls hl => ?_)
      refine lv_iload hx hb dX2_caption_30 (lv_at hl 0 rfl) ?_
      refine zk_zge (tgt := 37) hx hb dX2_caption_32 (by decide) (by omega) ?_
      refine lv_iload hx hb dX2_caption_37 (lv_at hl 6 rfl) ?_
      refine lv_if_lt (tgt := 48) hx hb dX2_caption_39 (by decide) (fun c39 => ?_) (fun c39 => ?_)
      · refine lv_bipush (v := (-2)) hx hb dX2_caption_48 (by decide) ?_
        exact W.iret (v := (-2)) hx hb hr (fun tT ht hW => ⟨_, rfl, Or.inr (Or.inl ⟨eX_6, tX_6, kX_25, h6_0, h6_1, h25_0, rfl, rfl, rfl, fun ⟨n, q1, q2, q3⟩ => lt_no1 (n := 3) (by decide) c39 ⟨n, by omega, q3⟩, rfl⟩), ht⟩) (fun _ h => absurd h List.not_mem_nil) dX2_caption_50
      · refine lv_iload hx hb dX2_caption_42 (lv_at hl 6 rfl) ?_
        refine lv_iconst (v := nI 3) hx hb dX2_caption_44 (by decide) ?_
        refine lv_icmp_lt (tgt := 51) hx hb dX2_caption_45 (by decide) (fun c45 => ?_) (fun c45 => ?_)
        · obtain ⟨qY, hq7, rfl⟩ := lt_yes (by decide) c39 c45
          refine lv_aload_n hx hb dX2_caption_51 rfl (lv_at hl 2 rfl) ?_
          refine va_get (D := G.1) (ci := 2) (v := .ref a0) (C := RX2) (T := TX2) (N := 10) hx hb hts mic2_caption_2 hown hK hP 0 rfl rfl 0 (by decide) (hts _ mwc2_caption_0) (fun _ h9 => h9) rfl dX2_caption_52 ?_
          refine va_get (D := G.1) (ci := 1) (v := .ref a2) (C := RX1) (T := TX1) (N := 12) hx hb hts mic2_caption_1 hown hK hP 1 rfl rfl 1 (by decide) (hts _ mwc2_caption_2) (fun _ h9 => h9) rfl dX2_caption_55 ?_
          refine lv_iload hx hb dX2_caption_58 (lv_at hl 0 rfl) ?_
          refine lv_iload hx hb dX2_caption_60 (lv_at hl 6 rfl) ?_
          refine zk_add hx hb dX2_caption_62 ?_
          rcases (show qY = 0 ∨ qY = 1 ∨ qY = 2 from by omega) with rfl | rfl | rfl
          · refine zk_ald (f := sc) (k := ((eX_6 * 5 + tX_6) * 16 + 7 + kX_25 * 3) + 0) hx hb hK hP 3 0 rfl rfl (Nat.le_of_ble_eq_true rfl) (by omega) dX2_caption_63 ?_
            refine zk_top (y := nI (sg (11 + 76 * eX_6 + 15 * tX_6 + (6 + 3 * kX_25 + 0)))) (congrArg nI ((hR.2 eX_6 tX_6 h6_0 h6_1).2.2.2.2.2.2.2 kX_25 (by omega) h25_0).1) ?_
            exact W.iret (v := nI (sg (11 + 76 * eX_6 + 15 * tX_6 + (6 + 3 * kX_25 + 0)))) hx hb hr (fun tT ht hW => ⟨_, rfl, Or.inr (Or.inr ⟨eX_6, tX_6, kX_25, 0, h6_0, h6_1, h25_0, rfl, rfl, rfl, by decide, rfl, rfl⟩), ht⟩) (fun _ h => absurd h List.not_mem_nil) dX2_caption_64
          · refine zk_ald (f := sc) (k := ((eX_6 * 5 + tX_6) * 16 + 7 + kX_25 * 3) + 1) hx hb hK hP 3 0 rfl rfl (Nat.le_of_ble_eq_true rfl) (by omega) dX2_caption_63 ?_
            refine zk_top (y := nI (sg (11 + 76 * eX_6 + 15 * tX_6 + (6 + 3 * kX_25 + 1)))) (congrArg nI ((hR.2 eX_6 tX_6 h6_0 h6_1).2.2.2.2.2.2.2 kX_25 (by omega) h25_0).2.1) ?_
            exact W.iret (v := nI (sg (11 + 76 * eX_6 + 15 * tX_6 + (6 + 3 * kX_25 + 1)))) hx hb hr (fun tT ht hW => ⟨_, rfl, Or.inr (Or.inr ⟨eX_6, tX_6, kX_25, 1, h6_0, h6_1, h25_0, rfl, rfl, rfl, by decide, rfl, rfl⟩), ht⟩) (fun _ h => absurd h List.not_mem_nil) dX2_caption_64
          · refine zk_ald (f := sc) (k := ((eX_6 * 5 + tX_6) * 16 + 7 + kX_25 * 3) + 2) hx hb hK hP 3 0 rfl rfl (Nat.le_of_ble_eq_true rfl) (by omega) dX2_caption_63 ?_
            refine zk_top (y := nI (sg (11 + 76 * eX_6 + 15 * tX_6 + (6 + 3 * kX_25 + 2)))) (congrArg nI ((hR.2 eX_6 tX_6 h6_0 h6_1).2.2.2.2.2.2.2 kX_25 (by omega) h25_0).2.2) ?_
            exact W.iret (v := nI (sg (11 + 76 * eX_6 + 15 * tX_6 + (6 + 3 * kX_25 + 2)))) hx hb hr (fun tT ht hW => ⟨_, rfl, Or.inr (Or.inr ⟨eX_6, tX_6, kX_25, 2, h6_0, h6_1, h25_0, rfl, rfl, rfl, by decide, rfl, rfl⟩), ht⟩) (fun _ h => absurd h List.not_mem_nil) dX2_caption_64
        · refine lv_bipush (v := (-2)) hx hb dX2_caption_48 (by decide) ?_
          exact W.iret (v := (-2)) hx hb hr (fun tT ht hW => ⟨_, rfl, Or.inr (Or.inl ⟨eX_6, tX_6, kX_25, h6_0, h6_1, h25_0, rfl, rfl, rfl, fun ⟨n, q1, q2, q3⟩ => lt_no2 (n := 3) (by decide) c45 ⟨n, by omega, q3⟩, rfl⟩), ht⟩) (fun _ h => absurd h List.not_mem_nil) dX2_caption_50
    · refine lv_istore (lv' := [(6, .int (-1)), (5, .int (nI ((eX_6 * 5 + tX_6) * 16))), (0, .ref m0), (1, .int (nI eX_6)), (2, .int (nI tX_6)), (3, .int z), (4, .int q)]) hx hb dX2_caption_28 hl (by decide) rfl (fun ls hl => ?_)
      refine lv_iload hx hb dX2_caption_30 (lv_at hl 0 rfl) ?_
      refine lv_if_ge (tgt := 37) hx hb dX2_caption_32 (by decide) (fun q => absurd q (by decide)) (fun _ => ?_)
      refine lv_iconst (v := (-1)) hx hb dX2_caption_35 (by decide) ?_
      exact W.iret (v := (-1)) hx hb hr (fun tT ht hW => ⟨_, rfl, Or.inl ⟨pCp_no h6_0 (by omega) (fun e t h1 h2 => by have h3 := hM.2.1 e h1; have h4 : t < sg (10 + 76 * e) := h2; omega) h25_0, rfl⟩, ht⟩) (fun _ h => absurd h List.not_mem_nil) dX2_caption_36
  · refine lv_istore (lv' := [(5, .int (-1)), (0, .ref m0), (1, .int x), (2, .int y), (3, .int z), (4, .int q)]) hx hb dX2_caption_9 hl (by decide) rfl (fun ls hl => ?_)
    refine lv_iload hx hb dX2_caption_11 (lv_at hl 0 rfl) ?_
    refine lv_if_ge (tgt := 18) hx hb dX2_caption_13 (by decide) (fun q => absurd q (by decide)) (fun _ => ?_)
    refine lv_iconst (v := (-1)) hx hb dX2_caption_16 (by decide) ?_
    exact W.iret (v := (-1)) hx hb hr (fun tT ht hW => ⟨_, rfl, Or.inl ⟨fun ⟨e, t, k, q1, q2, q3, q4, q5, q6⟩ => h6_0 ⟨e, t, q1, q2, q4, q5⟩, rfl⟩, ht⟩) (fun _ h => absurd h List.not_mem_nil) dX2_caption_17
set_option maxRecDepth 100000 in
theorem mwc2_visitor_0 : Cond.fieldLink RX2 12 "ExhibitTexts" "now" "LExhibitTexts$State;" ∈ wsX2_visitor := by decide +kernel
set_option maxRecDepth 100000 in
theorem mic2_visitor_2 : ∀ w ∈ u_ws RX2 TX2 10, w ∈ wsX2_visitor := by decide +kernel
set_option maxRecDepth 100000 in
theorem mwc2_visitor_2 : Cond.fieldLink RX2 122 "ExhibitTexts$State" "hasVisitor" "Z" ∈ wsX2_visitor := by decide +kernel
set_option maxRecDepth 100000 in
theorem mic2_visitor_1 : ∀ w ∈ u_ws RX1 TX1 12, w ∈ wsX2_visitor := by decide +kernel
set_option maxRecDepth 100000 in
theorem mwc2_visitor_4 : Cond.fieldLink RX2 125 "ExhibitTexts$State" "age" "I" ∈ wsX2_visitor := by decide +kernel
set_option maxRecDepth 100000 in
theorem mwc2_visitor_5 : Cond.fieldLink RX2 128 "ExhibitTexts$State" "pace" "I" ∈ wsX2_visitor := by decide +kernel
set_option maxRecDepth 100000 in
theorem mwc2_visitor_6 : Cond.fieldLink RX2 131 "ExhibitTexts$State" "seconds" "I" ∈ wsX2_visitor := by decide +kernel
set_option maxRecDepth 100000 in
theorem mwc2_visitor_7 : Cond.fieldLink RX2 134 "ExhibitTexts$State" "learned" "I" ∈ wsX2_visitor := by decide +kernel
set_option maxRecDepth 100000 in
theorem mwc2_visitor_8 : Cond.fieldLink RX2 142 "ExhibitTexts$State" "standsAt" "I" ∈ wsX2_visitor := by decide +kernel
set_option maxHeartbeats 4000000 in
set_option maxRecDepth 100000 in
/-- X2_visitor: visitor -/
theorem c2_visitor (l : Launch) (G : zG) (m0 : Nat) (t0 : Nat) (s0 : Nat) (hy : Nat) (p0 : Nat) (kp : Nat) (nx : Nat) (st : Nat) (re : Int32) (er : Int32) (a0 : Nat) (a1 : Nat) (a2 : Nat) (sz : Nat → Nat) (sc : Nat → Nat) (sg : Nat → Nat) (x : Int32) (hM : mOK sg) (hR : sRel sz sc sg) : Met l yX2_visitor wsX2_visitor ({ frames := 2, cells := 0, slots := 0, locals := 50 } : Room) (zPc G [.ref m0, .int x] [(m0, .inr (2, [.ref a0, .ref t0, .ref s0, .int (nI kp), .ref hy, .int (nI nx), .int (nI st), .ref p0, .int re, .int er])), (a0, .inr (1, [.ref a1, .ref a2, .int (nI (sg 0)), .int (nI (sg 1)), .int (nI (sg 7)), .int (nI (sg 8)), .int (nI (sg 9)), .int (nI (sg 2)), .int (nI (sg 3)), .int (nI (sg 4)), .int (nI (sg 5)), .int (nI (sg 6))])), (a1, .inl (G.2.1, 8, .inl (arN sz))), (a2, .inl (G.2.1, 640, .inl (arN sc)))]) (vp_Si (fun (rR : Int32) => ((¬ ∃ n : Nat, 0 ≤ n ∧ n ≤ 5 ∧ x = nI n) ∧ rR = (-2)) ∨ (∃ (wX : Nat), wX ≤ 5 ∧ x = nI wX ∧ sg 2 = 0 ∧ rR = (-5)) ∨ (∃ (wX : Nat), wX < 4 ∧ x = nI wX ∧ 0 < sg 2 ∧ rR = nI (sg (3 + wX))) ∨ (x = nI 4 ∧ 0 < sg 2 ∧ rR = nI (bitsN (sg 6) 16)) ∨ (x = nI 5 ∧ 0 < sg 2 ∧ sN sg = none ∧ rR = (-5)) ∨ (∃ (tX : Nat), x = nI 5 ∧ 0 < sg 2 ∧ sN sg = some tX ∧ rR = nI tX))) 0 0 (fun _ => False) := by
  refine zR (cc := cX2_visitor) (maxL := 2) (ret := (some .int)) (by decide) rfl (Nat.le_of_ble_eq_true rfl) ?_
  intro pP eE sS mM below meth cC hx hb hr hts hown hlk hml hK hN hP hD ls hl
  have hl : lv_has ls 2 [(0, .ref m0), (1, .int x)] := hl
  have hv := hM.1.2.2.1
  have h6 := hM.1.2.2.2.2.2
  refine lv_iload_n hx hb dX2_visitor_0 rfl (lv_at hl 1 rfl) ?_
  refine lv_if_lt (tgt := 9) hx hb dX2_visitor_1 (by decide) (fun c1 => ?_) (fun c1 => ?_)
  · refine lv_bipush (v := (-2)) hx hb dX2_visitor_9 (by decide) ?_
    exact W.iret (v := (-2)) hx hb hr (fun tT ht hW => ⟨_, rfl, Or.inl ⟨in_no0 (by decide) c1, rfl⟩, ht⟩) (fun _ h => absurd h List.not_mem_nil) dX2_visitor_11
  · refine lv_iload_n hx hb dX2_visitor_4 rfl (lv_at hl 1 rfl) ?_
    refine lv_iconst (v := nI 5) hx hb dX2_visitor_5 (by decide) ?_
    refine lv_icmp_le (tgt := 12) hx hb dX2_visitor_6 (by decide) (fun c6 => ?_) (fun c6 => ?_)
    · obtain ⟨wY, -, hw5, rfl⟩ := in_yes0 (by decide) c1 c6
      refine lv_aload_n hx hb dX2_visitor_12 rfl (lv_at hl 0 rfl) ?_
      refine va_get (D := G.1) (ci := 2) (v := .ref a0) (C := RX2) (T := TX2) (N := 10) hx hb hts mic2_visitor_2 hown hK hP 0 rfl rfl 0 (by decide) (hts _ mwc2_visitor_0) (fun _ h9 => h9) rfl dX2_visitor_13 ?_
      refine va_get (D := G.1) (ci := 1) (v := .int (nI (sg 2))) (C := RX1) (T := TX1) (N := 12) hx hb hts mic2_visitor_1 hown hK hP 1 rfl rfl 7 (by decide) (hts _ mwc2_visitor_2) (fun _ h9 => h9) rfl dX2_visitor_16 ?_
      refine zk_zne (tgt := 25) hx hb dX2_visitor_19 (by decide) (by omega) (fun c19 => ?_) (fun c19 => ?_)
      · refine lv_iload_n hx hb dX2_visitor_25 rfl (lv_at hl 1 rfl) ?_
        rcases (show wY = 0 ∨ wY = 1 ∨ wY = 2 ∨ wY = 3 ∨ wY = 4 ∨ wY = 5 from by omega) with rfl | rfl | rfl | rfl | rfl | rfl
        · refine lv_tableIn (x := nI 0) (off := 34) (tgt := 60) hx hb dX2_visitor_26 (by decide) (by decide) (by decide) (by decide) ?_
          refine lv_aload_n hx hb dX2_visitor_60 rfl (lv_at hl 0 rfl) ?_
          refine va_get (D := G.1) (ci := 2) (v := .ref a0) (C := RX2) (T := TX2) (N := 10) hx hb hts mic2_visitor_2 hown hK hP 0 rfl rfl 0 (by decide) (hts _ mwc2_visitor_0) (fun _ h9 => h9) rfl dX2_visitor_61 ?_
          refine va_get (D := G.1) (ci := 1) (v := .int (nI (sg 3))) (C := RX1) (T := TX1) (N := 12) hx hb hts mic2_visitor_1 hown hK hP 1 rfl rfl 8 (by decide) (hts _ mwc2_visitor_4) (fun _ h9 => h9) rfl dX2_visitor_64 ?_
          exact W.iret (v := nI (sg 3)) hx hb hr (fun tT ht hW => ⟨_, rfl, Or.inr (Or.inr (Or.inl ⟨0, by decide, rfl, by omega, rfl⟩)), ht⟩) (fun _ h => absurd h List.not_mem_nil) dX2_visitor_67
        · refine lv_tableIn (x := nI 1) (off := 42) (tgt := 68) hx hb dX2_visitor_26 (by decide) (by decide) (by decide) (by decide) ?_
          refine lv_aload_n hx hb dX2_visitor_68 rfl (lv_at hl 0 rfl) ?_
          refine va_get (D := G.1) (ci := 2) (v := .ref a0) (C := RX2) (T := TX2) (N := 10) hx hb hts mic2_visitor_2 hown hK hP 0 rfl rfl 0 (by decide) (hts _ mwc2_visitor_0) (fun _ h9 => h9) rfl dX2_visitor_69 ?_
          refine va_get (D := G.1) (ci := 1) (v := .int (nI (sg 4))) (C := RX1) (T := TX1) (N := 12) hx hb hts mic2_visitor_1 hown hK hP 1 rfl rfl 9 (by decide) (hts _ mwc2_visitor_5) (fun _ h9 => h9) rfl dX2_visitor_72 ?_
          exact W.iret (v := nI (sg 4)) hx hb hr (fun tT ht hW => ⟨_, rfl, Or.inr (Or.inr (Or.inl ⟨1, by decide, rfl, by omega, rfl⟩)), ht⟩) (fun _ h => absurd h List.not_mem_nil) dX2_visitor_75
        · refine lv_tableIn (x := nI 2) (off := 50) (tgt := 76) hx hb dX2_visitor_26 (by decide) (by decide) (by decide) (by decide) ?_
          refine lv_aload_n hx hb dX2_visitor_76 rfl (lv_at hl 0 rfl) ?_
          refine va_get (D := G.1) (ci := 2) (v := .ref a0) (C := RX2) (T := TX2) (N := 10) hx hb hts mic2_visitor_2 hown hK hP 0 rfl rfl 0 (by decide) (hts _ mwc2_visitor_0) (fun _ h9 => h9) rfl dX2_visitor_77 ?_
          refine va_get (D := G.1) (ci := 1) (v := .int (nI (sg 5))) (C := RX1) (T := TX1) (N := 12) hx hb hts mic2_visitor_1 hown hK hP 1 rfl rfl 10 (by decide) (hts _ mwc2_visitor_6) (fun _ h9 => h9) rfl dX2_visitor_80 ?_
          exact W.iret (v := nI (sg 5)) hx hb hr (fun tT ht hW => ⟨_, rfl, Or.inr (Or.inr (Or.inl ⟨2, by decide, rfl, by omega, rfl⟩)), ht⟩) (fun _ h => absurd h List.not_mem_nil) dX2_visitor_83
        · refine lv_tableIn (x := nI 3) (off := 58) (tgt := 84) hx hb dX2_visitor_26 (by decide) (by decide) (by decide) (by decide) ?_
          refine lv_aload_n hx hb dX2_visitor_84 rfl (lv_at hl 0 rfl) ?_
          refine va_get (D := G.1) (ci := 2) (v := .ref a0) (C := RX2) (T := TX2) (N := 10) hx hb hts mic2_visitor_2 hown hK hP 0 rfl rfl 0 (by decide) (hts _ mwc2_visitor_0) (fun _ h9 => h9) rfl dX2_visitor_85 ?_
          refine va_get (D := G.1) (ci := 1) (v := .int (nI (sg 6))) (C := RX1) (T := TX1) (N := 12) hx hb hts mic2_visitor_1 hown hK hP 1 rfl rfl 11 (by decide) (hts _ mwc2_visitor_7) (fun _ h9 => h9) rfl dX2_visitor_88 ?_
          exact W.iret (v := nI (sg 6)) hx hb hr (fun tT ht hW => ⟨_, rfl, Or.inr (Or.inr (Or.inl ⟨3, by decide, rfl, by omega, rfl⟩)), ht⟩) (fun _ h => absurd h List.not_mem_nil) dX2_visitor_91
        · refine lv_tableIn (x := nI 4) (off := 66) (tgt := 92) hx hb dX2_visitor_26 (by decide) (by decide) (by decide) (by decide) ?_
          refine lv_aload_n hx hb dX2_visitor_92 rfl (lv_at hl 0 rfl) ?_
          refine va_get (D := G.1) (ci := 2) (v := .ref a0) (C := RX2) (T := TX2) (N := 10) hx hb hts mic2_visitor_2 hown hK hP 0 rfl rfl 0 (by decide) (hts _ mwc2_visitor_0) (fun _ h9 => h9) rfl dX2_visitor_93 ?_
          refine va_get (D := G.1) (ci := 1) (v := .int (nI (sg 6))) (C := RX1) (T := TX1) (N := 12) hx hb hts mic2_visitor_1 hown hK hP 1 rfl rfl 11 (by decide) (hts _ mwc2_visitor_7) (fun _ h9 => h9) rfl dX2_visitor_96 ?_
          refine zc_S (As := [.int (nI (sg 6))]) (rest := []) ⟨hx, hb, hml, hown, hts⟩ (c_bitCount l (sg 6) h6) (va_cwS 1 hts gX2_visitor_J6_bitCount_0f7a4 rfl rfl rfl (by decide +kernel) ⟨Nat.le_of_ble_eq_true rfl, Nat.le_of_ble_eq_true rfl⟩) rfl hl.1 rfl (Nat.le_of_ble_eq_true rfl) dX2_visitor_99 ⟨Nat.zero_le _, Nat.zero_le _⟩ (fun r99 h99 => ?_)
          subst h99
          exact W.iret (v := nI (bitsN (sg 6) 16)) hx hb hr (fun tT ht hW => ⟨_, rfl, Or.inr (Or.inr (Or.inr (Or.inl ⟨rfl, by omega, rfl⟩))), ht⟩) (fun _ h => absurd h List.not_mem_nil) dX2_visitor_102
        · refine lv_tableOut (x := nI 5) (tgt := 103) hx hb dX2_visitor_26 (Or.inr (by decide)) (by decide) ?_
          refine lv_aload_n hx hb dX2_visitor_103 rfl (lv_at hl 0 rfl) ?_
          refine va_get (D := G.1) (ci := 2) (v := .ref a0) (C := RX2) (T := TX2) (N := 10) hx hb hts mic2_visitor_2 hown hK hP 0 rfl rfl 0 (by decide) (hts _ mwc2_visitor_0) (fun _ h9 => h9) rfl dX2_visitor_104 ?_
          refine lv_aload_n hx hb dX2_visitor_107 rfl (lv_at hl 0 rfl) ?_
          refine va_get (D := G.1) (ci := 2) (v := .ref a0) (C := RX2) (T := TX2) (N := 10) hx hb hts mic2_visitor_2 hown hK hP 0 rfl rfl 0 (by decide) (hts _ mwc2_visitor_0) (fun _ h9 => h9) rfl dX2_visitor_108 ?_
          refine va_get (D := G.1) (ci := 1) (v := .int (nI (sg 0))) (C := RX1) (T := TX1) (N := 12) hx hb hts mic2_visitor_1 hown hK hP 1 rfl rfl 2 (by decide) (hts _ mwc2_visitor_8) (fun _ h9 => h9) rfl dX2_visitor_111 ?_
          refine lv_aload_n hx hb dX2_visitor_114 rfl (lv_at hl 0 rfl) ?_
          refine va_get (D := G.1) (ci := 2) (v := .ref a0) (C := RX2) (T := TX2) (N := 10) hx hb hts mic2_visitor_2 hown hK hP 0 rfl rfl 0 (by decide) (hts _ mwc2_visitor_0) (fun _ h9 => h9) rfl dX2_visitor_115 ?_
          refine va_get (D := G.1) (ci := 1) (v := .int (nI (sg 3))) (C := RX1) (T := TX1) (N := 12) hx hb hts mic2_visitor_1 hown hK hP 1 rfl rfl 8 (by decide) (hts _ mwc2_visitor_4) (fun _ h9 => h9) rfl dX2_visitor_118 ?_
          refine zc_R (As := [.int (nI (sg 0)), .int (nI (sg 3))]) (rest := []) ⟨hx, hb, hml, hown, hts⟩ (c_textFor l G a0 a1 a2 sz sc sg (sg 0) (sg 3) hM hR hM.1.1 (by have := (hM.1.2.2.2.1 (by omega)).1; omega)) (cwV 2 hts gX2_visitor_X1_textFor rfl rfl rfl (by decide +kernel) ⟨Nat.le_of_ble_eq_true rfl, Nat.le_of_ble_eq_true rfl⟩) hK hN hP hD [1, 2, 3] rfl (by decide) (ci := 1) rfl rfl rfl hl.1 rfl (Nat.le_of_ble_eq_true rfl) dX2_visitor_121 ⟨Nat.zero_le _, Nat.zero_le _⟩ (fun r121 h121 => ?_)
          rcases h121 with ⟨h121_0, rfl⟩ | ⟨tX_121, h121_0, rfl⟩
          · exact W.iret (v := (-5)) hx hb hr (fun tT ht hW => ⟨_, rfl, Or.inr (Or.inr (Or.inr (Or.inr (Or.inl ⟨rfl, by omega, (if_neg (by omega)).trans h121_0, rfl⟩)))), ht⟩) (fun _ h => absurd h List.not_mem_nil) dX2_visitor_124
          · exact W.iret (v := nI tX_121) hx hb hr (fun tT ht hW => ⟨_, rfl, Or.inr (Or.inr (Or.inr (Or.inr (Or.inr ⟨tX_121, rfl, by omega, (if_neg (by omega)).trans h121_0, rfl⟩)))), ht⟩) (fun _ h => absurd h List.not_mem_nil) dX2_visitor_124
      · refine lv_bipush (v := (-5)) hx hb dX2_visitor_22 (by decide) ?_
        exact W.iret (v := (-5)) hx hb hr (fun tT ht hW => ⟨_, rfl, Or.inr (Or.inl ⟨wY, by omega, rfl, by omega, rfl⟩), ht⟩) (fun _ h => absurd h List.not_mem_nil) dX2_visitor_24
    · refine lv_bipush (v := (-2)) hx hb dX2_visitor_9 (by decide) ?_
      exact W.iret (v := (-2)) hx hb hr (fun tT ht hW => ⟨_, rfl, Or.inl ⟨in_no3 (by decide) (by decide) c6, rfl⟩, ht⟩) (fun _ h => absurd h List.not_mem_nil) dX2_visitor_11
set_option maxRecDepth 100000 in
theorem mwc2_shown_0 : Cond.fieldLink RX2 12 "ExhibitTexts" "now" "LExhibitTexts$State;" ∈ wsX2_shown := by decide +kernel
set_option maxRecDepth 100000 in
theorem mic2_shown_2 : ∀ w ∈ u_ws RX2 TX2 10, w ∈ wsX2_shown := by decide +kernel
set_option maxHeartbeats 4000000 in
set_option maxRecDepth 100000 in
/-- X2_shown: shown -/
theorem c2_shown (l : Launch) (G : zG) (m0 : Nat) (t0 : Nat) (s0 : Nat) (hy : Nat) (p0 : Nat) (kp : Nat) (nx : Nat) (st : Nat) (re : Int32) (er : Int32) (a0 : Nat) (a1 : Nat) (a2 : Nat) (sz : Nat → Nat) (sc : Nat → Nat) (sg : Nat → Nat) (x : Int32) (y : Int32) (hM : mOK sg) (hR : sRel sz sc sg) : Met l yX2_shown wsX2_shown ({ frames := 2, cells := 0, slots := 0, locals := 50 } : Room) (zPc G [.ref m0, .int x, .int y] [(m0, .inr (2, [.ref a0, .ref t0, .ref s0, .int (nI kp), .ref hy, .int (nI nx), .int (nI st), .ref p0, .int re, .int er])), (a0, .inr (1, [.ref a1, .ref a2, .int (nI (sg 0)), .int (nI (sg 1)), .int (nI (sg 7)), .int (nI (sg 8)), .int (nI (sg 9)), .int (nI (sg 2)), .int (nI (sg 3)), .int (nI (sg 4)), .int (nI (sg 5)), .int (nI (sg 6))])), (a1, .inl (G.2.1, 8, .inl (arN sz))), (a2, .inl (G.2.1, 640, .inl (arN sc)))]) (vp_Si (fun (rR : Int32) => (¬ pE x ∧ rR = (-1)) ∨ (∃ (eX : Nat), eX < 8 ∧ x = nI eX ∧ (¬ ∃ n : Nat, 4 ≤ n ∧ n ≤ 99 ∧ y = nI n) ∧ rR = (-2)) ∨ (∃ (eX : Nat) (aX : Nat), eX < 8 ∧ x = nI eX ∧ 4 ≤ aX ∧ aX ≤ 99 ∧ y = nI aX ∧ shT sg eX aX = none ∧ rR = (-5)) ∨ (∃ (eX : Nat) (aX : Nat) (tX : Nat), eX < 8 ∧ x = nI eX ∧ 4 ≤ aX ∧ aX ≤ 99 ∧ y = nI aX ∧ shT sg eX aX = some tX ∧ rR = nI tX))) 0 0 (fun _ => False) := by
  refine zR (cc := cX2_shown) (maxL := 3) (ret := (some .int)) (by decide) rfl (Nat.le_of_ble_eq_true rfl) ?_
  intro pP eE sS mM below meth cC hx hb hr hts hown hlk hml hK hN hP hD ls hl
  have hl : lv_has ls 3 [(0, .ref m0), (1, .int x), (2, .int y)] := hl
  refine lv_iload_n hx hb dX2_shown_0 rfl (lv_at hl 1 rfl) ?_
  refine zc_S (As := [.int x]) (rest := []) ⟨hx, hb, hml, hown, hts⟩ (c_xExhibit l x ) (va_cwS 1 hts gX2_shown_X2_isExhibit rfl rfl rfl (by decide +kernel) ⟨Nat.le_of_ble_eq_true rfl, Nat.le_of_ble_eq_true rfl⟩) rfl hl.1 rfl (Nat.le_of_ble_eq_true rfl) dX2_shown_1 ⟨Nat.zero_le _, Nat.zero_le _⟩ (fun r1 h1 => ?_)
  rcases h1 with ⟨eX_1, h1_0, rfl, rfl⟩ | ⟨h1_0, rfl⟩
  · refine lv_if_ne (tgt := 9) hx hb dX2_shown_4 (by decide) (fun _ => ?_) (fun q => absurd q (by decide))
    refine lv_iload_n hx hb dX2_shown_9 rfl (lv_at hl 2 rfl) ?_
    refine zc_S (As := [.int y]) (rest := []) ⟨hx, hb, hml, hown, hts⟩ (c_xAge l y ) (va_cwS 1 hts gX2_shown_X2_isAge rfl rfl rfl (by decide +kernel) ⟨Nat.le_of_ble_eq_true rfl, Nat.le_of_ble_eq_true rfl⟩) rfl hl.1 rfl (Nat.le_of_ble_eq_true rfl) dX2_shown_10 ⟨Nat.zero_le _, Nat.zero_le _⟩ (fun r10 h10 => ?_)
    rcases h10 with ⟨aX_10, h10_0, h10_1, rfl, rfl⟩ | ⟨h10_0, rfl⟩
    · refine lv_if_ne (tgt := 19) hx hb dX2_shown_13 (by decide) (fun _ => ?_) (fun q => absurd q (by decide))
      refine lv_aload_n hx hb dX2_shown_19 rfl (lv_at hl 0 rfl) ?_
      refine va_get (D := G.1) (ci := 2) (v := .ref a0) (C := RX2) (T := TX2) (N := 10) hx hb hts mic2_shown_2 hown hK hP 0 rfl rfl 0 (by decide) (hts _ mwc2_shown_0) (fun _ h9 => h9) rfl dX2_shown_20 ?_
      refine lv_iload_n hx hb dX2_shown_23 rfl (lv_at hl 1 rfl) ?_
      refine lv_iload_n hx hb dX2_shown_24 rfl (lv_at hl 2 rfl) ?_
      refine zc_R (As := [.int (nI eX_1), .int (nI aX_10)]) (rest := []) ⟨hx, hb, hml, hown, hts⟩ (c_textFor l G a0 a1 a2 sz sc sg eX_1 aX_10 hM hR h1_0 h10_1) (cwV 2 hts gX2_shown_X1_textFor rfl rfl rfl (by decide +kernel) ⟨Nat.le_of_ble_eq_true rfl, Nat.le_of_ble_eq_true rfl⟩) hK hN hP hD [1, 2, 3] rfl (by decide) (ci := 1) rfl rfl rfl hl.1 rfl (Nat.le_of_ble_eq_true rfl) dX2_shown_25 ⟨Nat.zero_le _, Nat.zero_le _⟩ (fun r25 h25 => ?_)
      rcases h25 with ⟨h25_0, rfl⟩ | ⟨tX_25, h25_0, rfl⟩
      · exact W.iret (v := (-5)) hx hb hr (fun tT ht hW => ⟨_, rfl, Or.inr (Or.inr (Or.inl ⟨eX_1, aX_10, h1_0, rfl, h10_0, h10_1, rfl, h25_0, rfl⟩)), ht⟩) (fun _ h => absurd h List.not_mem_nil) dX2_shown_28
      · exact W.iret (v := nI tX_25) hx hb hr (fun tT ht hW => ⟨_, rfl, Or.inr (Or.inr (Or.inr ⟨eX_1, aX_10, tX_25, h1_0, rfl, h10_0, h10_1, rfl, h25_0, rfl⟩)), ht⟩) (fun _ h => absurd h List.not_mem_nil) dX2_shown_28
    · refine lv_if_ne (tgt := 19) hx hb dX2_shown_13 (by decide) (fun q => absurd (by decide) q) (fun _ => ?_)
      refine lv_bipush (v := (-2)) hx hb dX2_shown_16 (by decide) ?_
      exact W.iret (v := (-2)) hx hb hr (fun tT ht hW => ⟨_, rfl, Or.inr (Or.inl ⟨eX_1, h1_0, rfl, h10_0, rfl⟩), ht⟩) (fun _ h => absurd h List.not_mem_nil) dX2_shown_18
  · refine lv_if_ne (tgt := 9) hx hb dX2_shown_4 (by decide) (fun q => absurd (by decide) q) (fun _ => ?_)
    refine lv_iconst (v := (-1)) hx hb dX2_shown_7 (by decide) ?_
    exact W.iret (v := (-1)) hx hb hr (fun tT ht hW => ⟨_, rfl, Or.inl ⟨h1_0, rfl⟩, ht⟩) (fun _ h => absurd h List.not_mem_nil) dX2_shown_8
set_option maxRecDepth 100000 in
theorem mwc2_unmet_0 : Cond.fieldLink RX2 12 "ExhibitTexts" "now" "LExhibitTexts$State;" ∈ wsX2_unmet := by decide +kernel
set_option maxRecDepth 100000 in
theorem mic2_unmet_2 : ∀ w ∈ u_ws RX2 TX2 10, w ∈ wsX2_unmet := by decide +kernel
set_option maxHeartbeats 4000000 in
set_option maxRecDepth 100000 in
/-- X2_unmet: unmet -/
theorem c2_unmet (l : Launch) (G : zG) (m0 : Nat) (t0 : Nat) (s0 : Nat) (hy : Nat) (p0 : Nat) (kp : Nat) (nx : Nat) (st : Nat) (re : Int32) (er : Int32) (a0 : Nat) (a1 : Nat) (a2 : Nat) (sz : Nat → Nat) (sc : Nat → Nat) (sg : Nat → Nat) (x : Int32) (hM : mOK sg) (hR : sRel sz sc sg) : Met l yX2_unmet wsX2_unmet ({ frames := 3, cells := 0, slots := 0, locals := 74 } : Room) (zPc G [.ref m0, .int x] [(m0, .inr (2, [.ref a0, .ref t0, .ref s0, .int (nI kp), .ref hy, .int (nI nx), .int (nI st), .ref p0, .int re, .int er])), (a0, .inr (1, [.ref a1, .ref a2, .int (nI (sg 0)), .int (nI (sg 1)), .int (nI (sg 7)), .int (nI (sg 8)), .int (nI (sg 9)), .int (nI (sg 2)), .int (nI (sg 3)), .int (nI (sg 4)), .int (nI (sg 5)), .int (nI (sg 6))])), (a1, .inl (G.2.1, 8, .inl (arN sz))), (a2, .inl (G.2.1, 640, .inl (arN sc)))]) (vp_Si (fun (rR : Int32) => ((¬ ∃ n : Nat, 4 ≤ n ∧ n ≤ 99 ∧ x = nI n) ∧ rR = (-2)) ∨ (∃ (aX : Nat), 4 ≤ aX ∧ aX ≤ 99 ∧ x = nI aX ∧ rR = andN (allF (szF sg) (atF sg 3) 8) (metF (fun e => shT sg e aX) (atF sg 3) 8)))) 0 0 (fun _ => False) := by
  refine zR (cc := cX2_unmet) (maxL := 2) (ret := (some .int)) (by decide) rfl (Nat.le_of_ble_eq_true rfl) ?_
  intro pP eE sS mM below meth cC hx hb hr hts hown hlk hml hK hN hP hD ls hl
  have hl : lv_has ls 2 [(0, .ref m0), (1, .int x)] := hl
  refine lv_iload_n hx hb dX2_unmet_0 rfl (lv_at hl 1 rfl) ?_
  refine zc_S (As := [.int x]) (rest := []) ⟨hx, hb, hml, hown, hts⟩ (c_xAge l x ) (va_cwS 1 hts gX2_unmet_X2_isAge rfl rfl rfl (by decide +kernel) ⟨Nat.le_of_ble_eq_true rfl, Nat.le_of_ble_eq_true rfl⟩) rfl hl.1 rfl (Nat.le_of_ble_eq_true rfl) dX2_unmet_1 ⟨Nat.zero_le _, Nat.zero_le _⟩ (fun r1 h1 => ?_)
  rcases h1 with ⟨aX_1, h1_0, h1_1, rfl, rfl⟩ | ⟨h1_0, rfl⟩
  · refine lv_if_ne (tgt := 10) hx hb dX2_unmet_4 (by decide) (fun _ => ?_) (fun q => absurd q (by decide))
    refine lv_aload_n hx hb dX2_unmet_10 rfl (lv_at hl 0 rfl) ?_
    refine va_get (D := G.1) (ci := 2) (v := .ref a0) (C := RX2) (T := TX2) (N := 10) hx hb hts mic2_unmet_2 hown hK hP 0 rfl rfl 0 (by decide) (hts _ mwc2_unmet_0) (fun _ h9 => h9) rfl dX2_unmet_11 ?_
    refine zc_R (As := []) (rest := []) ⟨hx, hb, hml, hown, hts⟩ (c_xallFacts l G a0 a1 a2 sz sc sg hM hR) (cwV 0 hts gX2_unmet_X1_allFacts rfl rfl rfl (by decide +kernel) ⟨Nat.le_of_ble_eq_true rfl, Nat.le_of_ble_eq_true rfl⟩) hK hN hP hD [1, 2, 3] rfl (by decide) (ci := 1) rfl rfl rfl hl.1 rfl (Nat.le_of_ble_eq_true rfl) dX2_unmet_14 ⟨Nat.zero_le _, Nat.zero_le _⟩ (fun r14 h14 => ?_)
    subst h14
    refine lv_aload_n hx hb dX2_unmet_17 rfl (lv_at hl 0 rfl) ?_
    refine va_get (D := G.1) (ci := 2) (v := .ref a0) (C := RX2) (T := TX2) (N := 10) hx hb hts mic2_unmet_2 hown hK hP 0 rfl rfl 0 (by decide) (hts _ mwc2_unmet_0) (fun _ h9 => h9) rfl dX2_unmet_18 ?_
    refine lv_iload_n hx hb dX2_unmet_21 rfl (lv_at hl 1 rfl) ?_
    refine zc_R (As := [.int (nI aX_1)]) (rest := [.int (nI (allF (szF sg) (atF sg 3) 8))]) ⟨hx, hb, hml, hown, hts⟩ (c_factsFor l G a0 a1 a2 sz sc sg aX_1 hM hR h1_1) (cwV 1 hts gX2_unmet_X1_factsFor rfl rfl rfl (by decide +kernel) ⟨Nat.le_of_ble_eq_true rfl, Nat.le_of_ble_eq_true rfl⟩) hK hN hP hD [1, 2, 3] rfl (by decide) (ci := 1) rfl rfl rfl hl.1 rfl (Nat.le_of_ble_eq_true rfl) dX2_unmet_22 ⟨Nat.zero_le _, Nat.zero_le _⟩ (fun r22 h22 => ?_)
    subst h22
    refine lv_iconst (v := (-1)) hx hb dX2_unmet_25 (by decide) ?_
    refine lv_ixor hx hb dX2_unmet_26 ?_
    refine lv_iand hx hb dX2_unmet_27 ?_
    exact W.iret (v := (nI (allF (szF sg) (atF sg 3) 8)) &&& ((nI (metF (fun e => shT sg e aX_1) (atF sg 3) 8)) ^^^ (-1))) hx hb hr (fun tT ht hW => ⟨_, rfl, Or.inr ⟨aX_1, h1_0, h1_1, rfl, rfl⟩, ht⟩) (fun _ h => absurd h List.not_mem_nil) dX2_unmet_28
  · refine lv_if_ne (tgt := 10) hx hb dX2_unmet_4 (by decide) (fun q => absurd (by decide) q) (fun _ => ?_)
    refine lv_bipush (v := (-2)) hx hb dX2_unmet_7 (by decide) ?_
    exact W.iret (v := (-2)) hx hb hr (fun tT ht hW => ⟨_, rfl, Or.inl ⟨h1_0, rfl⟩, ht⟩) (fun _ h => absurd h List.not_mem_nil) dX2_unmet_9
set_option maxRecDepth 100000 in
theorem mwc2_ages_0 : Cond.fieldLink RX2 12 "ExhibitTexts" "now" "LExhibitTexts$State;" ∈ wsX2_ages := by decide +kernel
set_option maxRecDepth 100000 in
theorem mic2_ages_2 : ∀ w ∈ u_ws RX2 TX2 10, w ∈ wsX2_ages := by decide +kernel
set_option maxHeartbeats 4000000 in
set_option maxRecDepth 100000 in
/-- X2_ages: ages -/
theorem c2_ages (l : Launch) (G : zG) (m0 : Nat) (t0 : Nat) (s0 : Nat) (hy : Nat) (p0 : Nat) (kp : Nat) (nx : Nat) (st : Nat) (re : Int32) (er : Int32) (a0 : Nat) (a1 : Nat) (a2 : Nat) (sz : Nat → Nat) (sc : Nat → Nat) (sg : Nat → Nat) (x : Int32) (y : Int32) (z : Int32) (hM : mOK sg) (hR : sRel sz sc sg) : Met l yX2_ages wsX2_ages ({ frames := 2, cells := 0, slots := 0, locals := 50 } : Room) (zPc G [.ref m0, .int x, .int y, .int z] [(m0, .inr (2, [.ref a0, .ref t0, .ref s0, .int (nI kp), .ref hy, .int (nI nx), .int (nI st), .ref p0, .int re, .int er])), (a0, .inr (1, [.ref a1, .ref a2, .int (nI (sg 0)), .int (nI (sg 1)), .int (nI (sg 7)), .int (nI (sg 8)), .int (nI (sg 9)), .int (nI (sg 2)), .int (nI (sg 3)), .int (nI (sg 4)), .int (nI (sg 5)), .int (nI (sg 6))])), (a1, .inl (G.2.1, 8, .inl (arN sz))), (a2, .inl (G.2.1, 640, .inl (arN sc)))]) (vp_Si (fun (rR : Int32) => (¬ pTn (szF sg) x y ∧ rR = (-1)) ∨ (∃ (eX : Nat) (tX : Nat), eX < 8 ∧ tX < sg (10 + 76 * eX) ∧ x = nI eX ∧ y = nI tX ∧ (¬ ∃ n : Nat, 0 ≤ n ∧ n ≤ 2 ∧ z = nI n) ∧ rR = (-2)) ∨ (∃ (eX : Nat) (tX : Nat), eX < 8 ∧ tX < sg (10 + 76 * eX) ∧ x = nI eX ∧ y = nI tX ∧ z = nI 0 ∧ rR = enc (agL (agP (fun a => shT sg eX a) tX) 96)) ∨ (∃ (eX : Nat) (tX : Nat), eX < 8 ∧ tX < sg (10 + 76 * eX) ∧ x = nI eX ∧ y = nI tX ∧ z = nI 1 ∧ rR = enc (agG (agP (fun a => shT sg eX a) tX) 96)) ∨ (∃ (eX : Nat) (tX : Nat), eX < 8 ∧ tX < sg (10 + 76 * eX) ∧ x = nI eX ∧ y = nI tX ∧ z = nI 2 ∧ rR = nI (agM (agP (fun a => shT sg eX a) tX) 96)))) 0 0 (fun _ => False) := by
  refine zR (cc := cX2_ages) (maxL := 8) (ret := (some .int)) (by decide) rfl (Nat.le_of_ble_eq_true rfl) ?_
  intro pP eE sS mM below meth cC hx hb hr hts hown hlk hml hK hN hP hD ls hl
  have hl : lv_has ls 8 [(0, .ref m0), (1, .int x), (2, .int y), (3, .int z)] := hl
  refine lv_aload_n hx hb dX2_ages_0 rfl (lv_at hl 0 rfl) ?_
  refine va_get (D := G.1) (ci := 2) (v := .ref a0) (C := RX2) (T := TX2) (N := 10) hx hb hts mic2_ages_2 hown hK hP 0 rfl rfl 0 (by decide) (hts _ mwc2_ages_0) (fun _ h9 => h9) rfl dX2_ages_1 ?_
  refine lv_iload_n hx hb dX2_ages_4 rfl (lv_at hl 1 rfl) ?_
  refine lv_iload_n hx hb dX2_ages_5 rfl (lv_at hl 2 rfl) ?_
  refine zc_R (As := [.int x, .int y]) (rest := []) ⟨hx, hb, hml, hown, hts⟩ (c_rowOf l G a0 a1 a2 sz sc sg x y hM hR) (cwV 2 hts gX2_ages_X1_rowOf rfl rfl rfl (by decide +kernel) ⟨Nat.le_of_ble_eq_true rfl, Nat.le_of_ble_eq_true rfl⟩) hK hN hP hD [1, 2, 3] rfl (by decide) (ci := 1) rfl rfl rfl hl.1 rfl (Nat.le_of_ble_eq_true rfl) dX2_ages_6 ⟨Nat.zero_le _, Nat.zero_le _⟩ (fun r6 h6 => ?_)
  rcases h6 with ⟨eX_6, tX_6, h6_0, h6_1, rfl, rfl, rfl⟩ | ⟨h6_0, rfl⟩
  · have hz5 := hM.2.1 eX_6 h6_0
    refine zk_zge (tgt := 14) hx hb dX2_ages_9 (by decide) (by omega) ?_
    refine lv_iload_n hx hb dX2_ages_14 rfl (lv_at hl 3 rfl) ?_
    refine lv_if_lt (tgt := 23) hx hb dX2_ages_15 (by decide) (fun c15 => ?_) (fun c15 => ?_)
    · refine lv_bipush (v := (-2)) hx hb dX2_ages_23 (by decide) ?_
      exact W.iret (v := (-2)) hx hb hr (fun tT ht hW => ⟨_, rfl, Or.inr (Or.inl ⟨eX_6, tX_6, h6_0, h6_1, rfl, rfl, in_no0 (by decide) c15, rfl⟩), ht⟩) (fun _ h => absurd h List.not_mem_nil) dX2_ages_25
    · refine lv_iload_n hx hb dX2_ages_18 rfl (lv_at hl 3 rfl) ?_
      refine lv_iconst (v := nI 2) hx hb dX2_ages_19 (by decide) ?_
      refine lv_icmp_le (tgt := 26) hx hb dX2_ages_20 (by decide) (fun c20 => ?_) (fun c20 => ?_)
      · obtain ⟨zY, -, hz2, rfl⟩ := in_yes0 (by decide) c15 c20
        refine lv_bipush (v := (-5)) hx hb dX2_ages_26 (by decide) ?_
        refine lv_istore (lv' := [(4, .int (-5)), (0, .ref m0), (1, .int (nI eX_6)), (2, .int (nI tX_6)), (3, .int (nI zY))]) hx hb dX2_ages_28 hl (by decide) rfl (fun ls hl => ?_)
        refine lv_bipush (v := (-5)) hx hb dX2_ages_30 (by decide) ?_
        refine lv_istore (lv' := [(5, .int (-5)), (4, .int (-5)), (0, .ref m0), (1, .int (nI eX_6)), (2, .int (nI tX_6)), (3, .int (nI zY))]) hx hb dX2_ages_32 hl (by decide) rfl (fun ls hl => ?_)
        refine lv_iconst (v := nI 0) hx hb dX2_ages_34 (by decide) ?_
        refine lv_istore (lv' := [(6, .int (nI 0)), (5, .int (-5)), (4, .int (-5)), (0, .ref m0), (1, .int (nI eX_6)), (2, .int (nI tX_6)), (3, .int (nI zY))]) hx hb dX2_ages_35 hl (by decide) rfl (fun ls hl => ?_)
        refine lv_iconst (v := nI 4) hx hb dX2_ages_37 (by decide) ?_
        refine lv_istore (lv' := [(7, .int (nI 4)), (6, .int (nI 0)), (5, .int (-5)), (4, .int (-5)), (0, .ref m0), (1, .int (nI eX_6)), (2, .int (nI tX_6)), (3, .int (nI zY))]) hx hb dX2_ages_38 hl (by decide) rfl (fun ls hl => ?_)
        have lp40 : ∀ (fu40 : Nat), ∀ (kX : Nat) (yl : Int32) (yg : Int32) (ym : Nat) (ls : Array Slot), (96 - kX) < fu40 → (kX ≤ 96) → (ym ≤ kX) → (yl = enc (agL (agP (fun a => shT sg eX_6 a) tX_6) kX)) → (yg = enc (agG (agP (fun a => shT sg eX_6 a) tX_6) kX)) → (ym = agM (agP (fun a => shT sg eX_6 a) tX_6) kX) → lv_has ls 8 [(0, .ref m0), (1, .int (nI eX_6)), (2, .int (nI tX_6)), (3, .int (nI zY)), (4, .int yl), (5, .int yg), (6, .int (nI ym)), (7, .int (nI (4 + kX)))] → W pP l eE (headSpec wsX2_ages ({ frames := 2, cells := 0, slots := 0, locals := 50 } : Room)).room sS mM ([.ref m0, .int (nI eX_6), .int (nI tX_6), .int (nI zY)] : List Value).toArray below meth cC sS.heap [] 0 0 (MQ below (vp_Si (fun (rR : Int32) => (¬ pTn (szF sg) (nI eX_6) (nI tX_6) ∧ rR = (-1)) ∨ (∃ (eX : Nat) (tX : Nat), eX < 8 ∧ tX < sg (10 + 76 * eX) ∧ (nI eX_6) = nI eX ∧ (nI tX_6) = nI tX ∧ (¬ ∃ n : Nat, 0 ≤ n ∧ n ≤ 2 ∧ (nI zY) = nI n) ∧ rR = (-2)) ∨ (∃ (eX : Nat) (tX : Nat), eX < 8 ∧ tX < sg (10 + 76 * eX) ∧ (nI eX_6) = nI eX ∧ (nI tX_6) = nI tX ∧ (nI zY) = nI 0 ∧ rR = enc (agL (agP (fun a => shT sg eX a) tX) 96)) ∨ (∃ (eX : Nat) (tX : Nat), eX < 8 ∧ tX < sg (10 + 76 * eX) ∧ (nI eX_6) = nI eX ∧ (nI tX_6) = nI tX ∧ (nI zY) = nI 1 ∧ rR = enc (agG (agP (fun a => shT sg eX a) tX) 96)) ∨ (∃ (eX : Nat) (tX : Nat), eX < 8 ∧ tX < sg (10 + 76 * eX) ∧ (nI eX_6) = nI eX ∧ (nI tX_6) = nI tX ∧ (nI zY) = nI 2 ∧ rR = nI (agM (agP (fun a => shT sg eX a) tX) 96)))) ([.ref m0, .int (nI eX_6), .int (nI tX_6), .int (nI zY)] : List Value).toArray sS 0 0 (fun _ => False)) (F0 mM 40 ls []) := by
          intro fu40
          induction fu40 with
          | zero => intro kX yl yg ym ls hfu40; exact absurd hfu40 (Nat.not_lt_zero _)
          | succ fu40 ih40 =>
            intro kX yl yg ym ls hfu40 hk hm hl4 hl5 hl6 hl
            refine lv_iload hx hb dX2_ages_40 (lv_at hl 7 rfl) ?_
            refine lv_bipush (v := nI 99) hx hb dX2_ages_42 (by decide) ?_
            refine zk_igt (tgt := 88) hx hb dX2_ages_44 (by decide) (by omega) (by omega) (fun c44 => ?_) (fun c44 => ?_)
            · refine lv_iload_n hx hb dX2_ages_88 rfl (lv_at hl 3 rfl) ?_
              refine lv_iconst (v := nI 2) hx hb dX2_ages_89 (by decide) ?_
              refine zk_ine (tgt := 96) hx hb dX2_ages_90 (by decide) (by omega) (by omega) (fun c90 => ?_) (fun c90 => ?_)
              · refine lv_iload_n hx hb dX2_ages_96 rfl (lv_at hl 3 rfl) ?_
                refine zk_zne (tgt := 105) hx hb dX2_ages_97 (by decide) (by omega) (fun c97 => ?_) (fun c97 => ?_)
                · refine lv_iload hx hb dX2_ages_105 (lv_at hl 5 rfl) ?_
                  have hk9 : kX = 96 := by omega
                  subst hk9
                  have hn9 : zY = 1 := by omega
                  subst hn9
                  exact W.iret (v := yg) hx hb hr (fun tT ht hW => ⟨_, rfl, Or.inr (Or.inr (Or.inr (Or.inl ⟨eX_6, tX_6, h6_0, h6_1, rfl, rfl, rfl, hl5⟩))), ht⟩) (fun _ h => absurd h List.not_mem_nil) dX2_ages_107
                · refine lv_iload hx hb dX2_ages_100 (lv_at hl 4 rfl) ?_
                  refine lv_goto (tgt := 107) hx hb dX2_ages_102 (by decide) ?_
                  have hk9 : kX = 96 := by omega
                  subst hk9
                  subst c97
                  exact W.iret (v := yl) hx hb hr (fun tT ht hW => ⟨_, rfl, Or.inr (Or.inr (Or.inl ⟨eX_6, tX_6, h6_0, h6_1, rfl, rfl, rfl, hl4⟩)), ht⟩) (fun _ h => absurd h List.not_mem_nil) dX2_ages_107
              · refine lv_iload hx hb dX2_ages_93 (lv_at hl 6 rfl) ?_
                have hk9 : kX = 96 := by omega
                subst hk9
                subst c90
                exact W.iret (v := nI ym) hx hb hr (fun tT ht hW => ⟨_, rfl, Or.inr (Or.inr (Or.inr (Or.inr ⟨eX_6, tX_6, h6_0, h6_1, rfl, rfl, rfl, (congrArg nI hl6)⟩))), ht⟩) (fun _ h => absurd h List.not_mem_nil) dX2_ages_95
            · refine lv_aload_n hx hb dX2_ages_47 rfl (lv_at hl 0 rfl) ?_
              refine va_get (D := G.1) (ci := 2) (v := .ref a0) (C := RX2) (T := TX2) (N := 10) hx hb hts mic2_ages_2 hown hK hP 0 rfl rfl 0 (by decide) (hts _ mwc2_ages_0) (fun _ h9 => h9) rfl dX2_ages_48 ?_
              refine lv_iload_n hx hb dX2_ages_51 rfl (lv_at hl 1 rfl) ?_
              refine lv_iload hx hb dX2_ages_52 (lv_at hl 7 rfl) ?_
              refine zc_R (As := [.int (nI eX_6), .int (nI (4 + kX))]) (rest := []) ⟨hx, hb, hml, hown, hts⟩ (c_textFor l G a0 a1 a2 sz sc sg eX_6 (4 + kX) hM hR h6_0 (by omega)) (cwV 2 hts gX2_ages_X1_textFor rfl rfl rfl (by decide +kernel) ⟨Nat.le_of_ble_eq_true rfl, Nat.le_of_ble_eq_true rfl⟩) hK hN hP hD [1, 2, 3] rfl (by decide) (ci := 1) rfl rfl rfl hl.1 rfl (Nat.le_of_ble_eq_true rfl) dX2_ages_54 ⟨Nat.zero_le _, Nat.zero_le _⟩ (fun r54 h54 => ?_)
              rcases h54 with ⟨h54_0, rfl⟩ | ⟨tX_54, h54_0, rfl⟩
              · have hP9 : ¬ shT sg eX_6 (4 + kX) = some tX_6 := fun q => by rw [q] at h54_0; cases h54_0
                refine lv_iload_n hx hb dX2_ages_57 rfl (lv_at hl 2 rfl) ?_
                refine lv_icmp_ne (tgt := 82) hx hb dX2_ages_58 (by decide) (fun _ => ?_) (fun q => absurd q (fun q => enc_ne (by omega) q.symm))
                refine zk_inc (a := 4 + kX) (d := 1) (lv' := [(7, .int (nI (4 + kX + 1))), (0, .ref m0), (1, .int (nI eX_6)), (2, .int (nI tX_6)), (3, .int (nI zY)), (4, .int yl), (5, .int yg), (6, .int (nI ym))]) hx hb dX2_ages_82 hl (K := 7) rfl (by decide) (by decide) rfl (fun ls hl => ?_)
                refine lv_goto (tgt := 40) hx hb dX2_ages_85 (by decide) ?_
                exact ih40 (kX + 1) yl yg ym _ (by omega) (by omega) (by omega) (by show _ = enc (if _ then _ else _); first | (rw [if_pos (decide_eq_true hP9), if_pos c63] <;> rfl) | (rw [if_pos (decide_eq_true hP9), if_neg (by omega)]; exact hl4) | (rw [if_neg (fun q => hP9 (of_decide_eq_true q))]; exact hl4)) (by show _ = enc (if _ then _ else _); first | (rw [if_pos (decide_eq_true hP9)] <;> rfl) | (rw [if_neg (fun q => hP9 (of_decide_eq_true q))]; exact hl5)) (by show _ = (if _ then _ else _); first | rw [if_pos (decide_eq_true hP9), ← hl6] | (rw [if_neg (fun q => hP9 (of_decide_eq_true q))]; exact hl6)) (lv_sub hl [1, 2, 3, 4, 5, 6, 7, 0] rfl)
              · have hlt := shA_lt h54_0
                refine lv_iload_n hx hb dX2_ages_57 rfl (lv_at hl 2 rfl) ?_
                refine zk_ine (tgt := 82) hx hb dX2_ages_58 (by decide) (by omega) (by omega) (fun c58 => ?_) (fun c58 => ?_)
                · have hP9 : ¬ shT sg eX_6 (4 + kX) = some tX_6 := fun q => c58 (Option.some.inj (h54_0.symm.trans q))
                  refine zk_inc (a := 4 + kX) (d := 1) (lv' := [(7, .int (nI (4 + kX + 1))), (0, .ref m0), (1, .int (nI eX_6)), (2, .int (nI tX_6)), (3, .int (nI zY)), (4, .int yl), (5, .int yg), (6, .int (nI ym))]) hx hb dX2_ages_82 hl (K := 7) rfl (by decide) (by decide) rfl (fun ls hl => ?_)
                  refine lv_goto (tgt := 40) hx hb dX2_ages_85 (by decide) ?_
                  exact ih40 (kX + 1) yl yg ym _ (by omega) (by omega) (by omega) (by show _ = enc (if _ then _ else _); first | (rw [if_pos (decide_eq_true hP9), if_pos c63] <;> rfl) | (rw [if_pos (decide_eq_true hP9), if_neg (by omega)]; exact hl4) | (rw [if_neg (fun q => hP9 (of_decide_eq_true q))]; exact hl4)) (by show _ = enc (if _ then _ else _); first | (rw [if_pos (decide_eq_true hP9)] <;> rfl) | (rw [if_neg (fun q => hP9 (of_decide_eq_true q))]; exact hl5)) (by show _ = (if _ then _ else _); first | rw [if_pos (decide_eq_true hP9), ← hl6] | (rw [if_neg (fun q => hP9 (of_decide_eq_true q))]; exact hl6)) (lv_sub hl [1, 2, 3, 4, 5, 6, 7, 0] rfl)
                · have hP9 : shT sg eX_6 (4 + kX) = some tX_6 := by rw [h54_0, c58]
                  refine lv_iload hx hb dX2_ages_61 (lv_at hl 6 rfl) ?_
                  refine zk_zne (tgt := 71) hx hb dX2_ages_63 (by decide) (by omega) (fun c63 => ?_) (fun c63 => ?_)
                  · refine lv_iload hx hb dX2_ages_71 (lv_at hl 4 rfl) ?_
                    refine lv_istore (lv' := [(4, .int yl), (0, .ref m0), (1, .int (nI eX_6)), (2, .int (nI tX_6)), (3, .int (nI zY)), (5, .int yg), (6, .int (nI ym)), (7, .int (nI (4 + kX)))]) hx hb dX2_ages_73 hl (by decide) rfl (fun ls hl => ?_)
                    refine lv_iload hx hb dX2_ages_75 (lv_at hl 7 rfl) ?_
                    refine lv_istore (lv' := [(5, .int (nI (4 + kX))), (4, .int yl), (0, .ref m0), (1, .int (nI eX_6)), (2, .int (nI tX_6)), (3, .int (nI zY)), (6, .int (nI ym)), (7, .int (nI (4 + kX)))]) hx hb dX2_ages_77 hl (by decide) rfl (fun ls hl => ?_)
                    refine zk_inc (a := ym) (d := 1) (lv' := [(6, .int (nI (ym + 1))), (5, .int (nI (4 + kX))), (4, .int yl), (0, .ref m0), (1, .int (nI eX_6)), (2, .int (nI tX_6)), (3, .int (nI zY)), (7, .int (nI (4 + kX)))]) hx hb dX2_ages_79 hl (K := 6) rfl (by decide) (by decide) rfl (fun ls hl => ?_)
                    refine zk_inc (a := 4 + kX) (d := 1) (lv' := [(7, .int (nI (4 + kX + 1))), (6, .int (nI (ym + 1))), (5, .int (nI (4 + kX))), (4, .int yl), (0, .ref m0), (1, .int (nI eX_6)), (2, .int (nI tX_6)), (3, .int (nI zY))]) hx hb dX2_ages_82 hl (K := 7) rfl (by decide) (by decide) rfl (fun ls hl => ?_)
                    refine lv_goto (tgt := 40) hx hb dX2_ages_85 (by decide) ?_
                    exact ih40 (kX + 1) yl (nI (4 + kX)) (ym + 1) _ (by omega) (by omega) (by omega) (by show _ = enc (if _ then _ else _); first | (rw [if_pos (decide_eq_true hP9), if_pos c63] <;> rfl) | (rw [if_pos (decide_eq_true hP9), if_neg (by omega)]; exact hl4) | (rw [if_neg (fun q => hP9 (of_decide_eq_true q))]; exact hl4)) (by show _ = enc (if _ then _ else _); first | (rw [if_pos (decide_eq_true hP9)] <;> rfl) | (rw [if_neg (fun q => hP9 (of_decide_eq_true q))]; exact hl5)) (by show _ = (if _ then _ else _); first | rw [if_pos (decide_eq_true hP9), ← hl6] | (rw [if_neg (fun q => hP9 (of_decide_eq_true q))]; exact hl6)) (lv_sub hl [4, 5, 6, 7, 3, 2, 1, 0] rfl)
                  · rw [hl6] at c63
                    refine lv_iload hx hb dX2_ages_66 (lv_at hl 7 rfl) ?_
                    refine lv_goto (tgt := 73) hx hb dX2_ages_68 (by decide) ?_
                    refine lv_istore (lv' := [(4, .int (nI (4 + kX))), (0, .ref m0), (1, .int (nI eX_6)), (2, .int (nI tX_6)), (3, .int (nI zY)), (5, .int yg), (6, .int (nI ym)), (7, .int (nI (4 + kX)))]) hx hb dX2_ages_73 hl (by decide) rfl (fun ls hl => ?_)
                    refine lv_iload hx hb dX2_ages_75 (lv_at hl 7 rfl) ?_
                    refine lv_istore (lv' := [(5, .int (nI (4 + kX))), (4, .int (nI (4 + kX))), (0, .ref m0), (1, .int (nI eX_6)), (2, .int (nI tX_6)), (3, .int (nI zY)), (6, .int (nI ym)), (7, .int (nI (4 + kX)))]) hx hb dX2_ages_77 hl (by decide) rfl (fun ls hl => ?_)
                    refine zk_inc (a := ym) (d := 1) (lv' := [(6, .int (nI (ym + 1))), (5, .int (nI (4 + kX))), (4, .int (nI (4 + kX))), (0, .ref m0), (1, .int (nI eX_6)), (2, .int (nI tX_6)), (3, .int (nI zY)), (7, .int (nI (4 + kX)))]) hx hb dX2_ages_79 hl (K := 6) rfl (by decide) (by decide) rfl (fun ls hl => ?_)
                    refine zk_inc (a := 4 + kX) (d := 1) (lv' := [(7, .int (nI (4 + kX + 1))), (6, .int (nI (ym + 1))), (5, .int (nI (4 + kX))), (4, .int (nI (4 + kX))), (0, .ref m0), (1, .int (nI eX_6)), (2, .int (nI tX_6)), (3, .int (nI zY))]) hx hb dX2_ages_82 hl (K := 7) rfl (by decide) (by decide) rfl (fun ls hl => ?_)
                    refine lv_goto (tgt := 40) hx hb dX2_ages_85 (by decide) ?_
                    exact ih40 (kX + 1) (nI (4 + kX)) (nI (4 + kX)) (ym + 1) _ (by omega) (by omega) (by omega) (by show _ = enc (if _ then _ else _); first | (rw [if_pos (decide_eq_true hP9), if_pos c63] <;> rfl) | (rw [if_pos (decide_eq_true hP9), if_neg (by omega)]; exact hl4) | (rw [if_neg (fun q => hP9 (of_decide_eq_true q))]; exact hl4)) (by show _ = enc (if _ then _ else _); first | (rw [if_pos (decide_eq_true hP9)] <;> rfl) | (rw [if_neg (fun q => hP9 (of_decide_eq_true q))]; exact hl5)) (by show _ = (if _ then _ else _); first | rw [if_pos (decide_eq_true hP9), ← hl6] | (rw [if_neg (fun q => hP9 (of_decide_eq_true q))]; exact hl6)) (lv_sub hl [4, 5, 6, 7, 3, 2, 1, 0] rfl)
        exact lp40 _ 0 (-5) (-5) 0 _ (Nat.lt_succ_self _) (by omega) (by omega) rfl rfl rfl (lv_sub hl [4, 5, 6, 7, 3, 2, 1, 0] rfl)
      · refine lv_bipush (v := (-2)) hx hb dX2_ages_23 (by decide) ?_
        exact W.iret (v := (-2)) hx hb hr (fun tT ht hW => ⟨_, rfl, Or.inr (Or.inl ⟨eX_6, tX_6, h6_0, h6_1, rfl, rfl, in_no3 (by decide) (by decide) c20, rfl⟩), ht⟩) (fun _ h => absurd h List.not_mem_nil) dX2_ages_25
  · refine lv_if_ge (tgt := 14) hx hb dX2_ages_9 (by decide) (fun q => absurd q (by decide)) (fun _ => ?_)
    refine lv_iconst (v := (-1)) hx hb dX2_ages_12 (by decide) ?_
    exact W.iret (v := (-1)) hx hb hr (fun tT ht hW => ⟨_, rfl, Or.inl ⟨h6_0, rfl⟩, ht⟩) (fun _ h => absurd h List.not_mem_nil) dX2_ages_13
set_option maxRecDepth 100000 in
theorem mwc2_count_0 : Cond.fieldLink RX2 12 "ExhibitTexts" "now" "LExhibitTexts$State;" ∈ wsX2_count := by decide +kernel
set_option maxRecDepth 100000 in
theorem mic2_count_2 : ∀ w ∈ u_ws RX2 TX2 10, w ∈ wsX2_count := by decide +kernel
set_option maxRecDepth 100000 in
theorem mwc2_count_2 : Cond.fieldLink RX2 142 "ExhibitTexts$State" "standsAt" "I" ∈ wsX2_count := by decide +kernel
set_option maxRecDepth 100000 in
theorem mic2_count_1 : ∀ w ∈ u_ws RX1 TX1 12, w ∈ wsX2_count := by decide +kernel
set_option maxRecDepth 100000 in
theorem mwc2_count_4 : Cond.fieldLink RX2 168 "ExhibitTexts$State" "turning" "I" ∈ wsX2_count := by decide +kernel
set_option maxRecDepth 100000 in
theorem mwc2_count_5 : Cond.fieldLink RX2 171 "ExhibitTexts$State" "visitors" "I" ∈ wsX2_count := by decide +kernel
set_option maxRecDepth 100000 in
theorem mwc2_count_6 : Cond.fieldLink RX2 174 "ExhibitTexts$State" "textsRead" "I" ∈ wsX2_count := by decide +kernel
set_option maxRecDepth 100000 in
theorem mwc2_count_7 : Cond.fieldLink RX2 177 "ExhibitTexts$State" "captionsRead" "I" ∈ wsX2_count := by decide +kernel
set_option maxRecDepth 100000 in
theorem mwc2_count_8 : Cond.fieldLink RX2 95 "ExhibitTexts" "statesInHistory" "I" ∈ wsX2_count := by decide +kernel
set_option maxRecDepth 100000 in
theorem mwc2_count_9 : Cond.fieldLink RX2 29 "ExhibitTexts" "pad" "LExhibitTexts$Pad;" ∈ wsX2_count := by decide +kernel
set_option maxRecDepth 100000 in
theorem mwc2_count_10 : Cond.fieldLink RX2 92 "ExhibitTexts$Pad" "length" "I" ∈ wsX2_count := by decide +kernel
set_option maxRecDepth 100000 in
theorem mic2_count_0 : ∀ w ∈ u_ws RX0 TX0 10, w ∈ wsX2_count := by decide +kernel
set_option maxHeartbeats 4000000 in
set_option maxRecDepth 100000 in
/-- X2_count: count -/
theorem c2_count (l : Launch) (G : zG) (m0 : Nat) (t0 : Nat) (s0 : Nat) (hy : Nat) (p0 : Nat) (kp : Nat) (nx : Nat) (st : Nat) (re : Int32) (er : Int32) (a0 : Nat) (a1 : Nat) (a2 : Nat) (sz : Nat → Nat) (sc : Nat → Nat) (sg : Nat → Nat) (p1 : Nat) (pn : Nat) (pp : Nat) (ic : Nat) (ex : Int32) (tx : Int32) (wo : Int32) (se : Int32) (lo : Int32) (fa : Int32) (pd : Nat → Nat) (x : Int32) (hM : mOK sg) (hR : sRel sz sc sg) : Met l yX2_count wsX2_count ({ frames := 1, cells := 0, slots := 0, locals := 23 } : Room) (zPc G [.ref m0, .int x] [(m0, .inr (2, [.ref a0, .ref t0, .ref s0, .int (nI kp), .ref hy, .int (nI nx), .int (nI st), .ref p0, .int re, .int er])), (a0, .inr (1, [.ref a1, .ref a2, .int (nI (sg 0)), .int (nI (sg 1)), .int (nI (sg 7)), .int (nI (sg 8)), .int (nI (sg 9)), .int (nI (sg 2)), .int (nI (sg 3)), .int (nI (sg 4)), .int (nI (sg 5)), .int (nI (sg 6))])), (a1, .inl (G.2.1, 8, .inl (arN sz))), (a2, .inl (G.2.1, 640, .inl (arN sc))), (p0, .inr (0, [.ref p1, .int (nI pn), .int (nI pp), .int (nI ic), .int ex, .int tx, .int wo, .int se, .int lo, .int fa]))]) (vp_Si (fun (rR : Int32) => (x = nI 0 ∧ rR = nI (sumN (szF sg) 8)) ∨ (x = nI 1 ∧ rR = nI (capS (szF sg) (atF sg 5) 8)) ∨ (x = nI 2 ∧ rR = nI (sg 0)) ∨ (x = nI 3 ∧ rR = nI (sg 1)) ∨ (x = nI 4 ∧ rR = nI (sg 7)) ∨ (x = nI 5 ∧ rR = nI (sg 8)) ∨ (x = nI 6 ∧ rR = nI (sg 9)) ∨ (x = nI 7 ∧ rR = nI (capS (szF sg) (nrF (atF sg 4)) 8)) ∨ (x = nI 8 ∧ rR = nI (bitsN (allF (szF sg) (atF sg 3) 8) 16)) ∨ (x = nI 9 ∧ rR = nI st) ∨ (x = nI 10 ∧ rR = nI pn) ∨ ((¬ ∃ k : Nat, k < 11 ∧ x = nI k) ∧ rR = (-2)))) 0 0 (fun _ => False) := by
  refine zR (cc := cX2_count) (maxL := 2) (ret := (some .int)) (by decide) rfl (Nat.le_of_ble_eq_true rfl) ?_
  intro pP eE sS mM below meth cC hx hb hr hts hown hlk hml hK hN hP hD ls hl
  have hl : lv_has ls 2 [(0, .ref m0), (1, .int x)] := hl
  refine lv_iload_n hx hb dX2_count_0 rfl (lv_at hl 1 rfl) ?_
  rcases sw_in (n := 11) x with ⟨swX, hsw, hswe⟩ | hno
  · subst hswe
    rcases (show swX = 0 ∨ swX = 1 ∨ swX = 2 ∨ swX = 3 ∨ swX = 4 ∨ swX = 5 ∨ swX = 6 ∨ swX = 7 ∨ swX = 8 ∨ swX = 9 ∨ swX = 10 from by omega) with rfl | rfl | rfl | rfl | rfl | rfl | rfl | rfl | rfl | rfl | rfl
    · refine lv_tableIn (x := nI 0) (off := 59) (tgt := 60) hx hb dX2_count_1 (by decide) (by decide) (by decide) (by decide) ?_
      refine lv_aload_n hx hb dX2_count_60 rfl (lv_at hl 0 rfl) ?_
      refine va_get (D := G.1) (ci := 2) (v := .ref a0) (C := RX2) (T := TX2) (N := 10) hx hb hts mic2_count_2 hown hK hP 0 rfl rfl 0 (by decide) (hts _ mwc2_count_0) (fun _ h9 => h9) rfl dX2_count_61 ?_
      refine zc_R (As := []) (rest := []) ⟨hx, hb, hml, hown, hts⟩ (c_xtexts l G a0 a1 a2 sz sc sg hM hR) (cwV 0 hts gX2_count_X1_countTexts rfl rfl rfl (by decide +kernel) ⟨Nat.le_of_ble_eq_true rfl, Nat.le_of_ble_eq_true rfl⟩) hK hN hP hD [1, 2, 3] rfl (by decide) (ci := 1) rfl rfl rfl hl.1 rfl (Nat.le_of_ble_eq_true rfl) dX2_count_64 ⟨Nat.zero_le _, Nat.zero_le _⟩ (fun r64 h64 => ?_)
      subst h64
      exact W.iret (v := nI (sumN (szF sg) 8)) hx hb hr (fun tT ht hW => ⟨_, rfl, Or.inl ⟨rfl, rfl⟩, ht⟩) (fun _ h => absurd h List.not_mem_nil) dX2_count_67
    · refine lv_tableIn (x := nI 1) (off := 67) (tgt := 68) hx hb dX2_count_1 (by decide) (by decide) (by decide) (by decide) ?_
      refine lv_aload_n hx hb dX2_count_68 rfl (lv_at hl 0 rfl) ?_
      refine va_get (D := G.1) (ci := 2) (v := .ref a0) (C := RX2) (T := TX2) (N := 10) hx hb hts mic2_count_2 hown hK hP 0 rfl rfl 0 (by decide) (hts _ mwc2_count_0) (fun _ h9 => h9) rfl dX2_count_69 ?_
      refine zc_R (As := []) (rest := []) ⟨hx, hb, hml, hown, hts⟩ (c_xcaps l G a0 a1 a2 sz sc sg hM hR) (cwV 0 hts gX2_count_X1_countCaptions rfl rfl rfl (by decide +kernel) ⟨Nat.le_of_ble_eq_true rfl, Nat.le_of_ble_eq_true rfl⟩) hK hN hP hD [1, 2, 3] rfl (by decide) (ci := 1) rfl rfl rfl hl.1 rfl (Nat.le_of_ble_eq_true rfl) dX2_count_72 ⟨Nat.zero_le _, Nat.zero_le _⟩ (fun r72 h72 => ?_)
      subst h72
      exact W.iret (v := nI (capS (szF sg) (atF sg 5) 8)) hx hb hr (fun tT ht hW => ⟨_, rfl, Or.inr (Or.inl ⟨rfl, rfl⟩), ht⟩) (fun _ h => absurd h List.not_mem_nil) dX2_count_75
    · refine lv_tableIn (x := nI 2) (off := 75) (tgt := 76) hx hb dX2_count_1 (by decide) (by decide) (by decide) (by decide) ?_
      refine lv_aload_n hx hb dX2_count_76 rfl (lv_at hl 0 rfl) ?_
      refine va_get (D := G.1) (ci := 2) (v := .ref a0) (C := RX2) (T := TX2) (N := 10) hx hb hts mic2_count_2 hown hK hP 0 rfl rfl 0 (by decide) (hts _ mwc2_count_0) (fun _ h9 => h9) rfl dX2_count_77 ?_
      refine va_get (D := G.1) (ci := 1) (v := .int (nI (sg 0))) (C := RX1) (T := TX1) (N := 12) hx hb hts mic2_count_1 hown hK hP 1 rfl rfl 2 (by decide) (hts _ mwc2_count_2) (fun _ h9 => h9) rfl dX2_count_80 ?_
      exact W.iret (v := nI (sg 0)) hx hb hr (fun tT ht hW => ⟨_, rfl, Or.inr (Or.inr (Or.inl ⟨rfl, rfl⟩)), ht⟩) (fun _ h => absurd h List.not_mem_nil) dX2_count_83
    · refine lv_tableIn (x := nI 3) (off := 83) (tgt := 84) hx hb dX2_count_1 (by decide) (by decide) (by decide) (by decide) ?_
      refine lv_aload_n hx hb dX2_count_84 rfl (lv_at hl 0 rfl) ?_
      refine va_get (D := G.1) (ci := 2) (v := .ref a0) (C := RX2) (T := TX2) (N := 10) hx hb hts mic2_count_2 hown hK hP 0 rfl rfl 0 (by decide) (hts _ mwc2_count_0) (fun _ h9 => h9) rfl dX2_count_85 ?_
      refine va_get (D := G.1) (ci := 1) (v := .int (nI (sg 1))) (C := RX1) (T := TX1) (N := 12) hx hb hts mic2_count_1 hown hK hP 1 rfl rfl 3 (by decide) (hts _ mwc2_count_4) (fun _ h9 => h9) rfl dX2_count_88 ?_
      exact W.iret (v := nI (sg 1)) hx hb hr (fun tT ht hW => ⟨_, rfl, Or.inr (Or.inr (Or.inr (Or.inl ⟨rfl, rfl⟩))), ht⟩) (fun _ h => absurd h List.not_mem_nil) dX2_count_91
    · refine lv_tableIn (x := nI 4) (off := 91) (tgt := 92) hx hb dX2_count_1 (by decide) (by decide) (by decide) (by decide) ?_
      refine lv_aload_n hx hb dX2_count_92 rfl (lv_at hl 0 rfl) ?_
      refine va_get (D := G.1) (ci := 2) (v := .ref a0) (C := RX2) (T := TX2) (N := 10) hx hb hts mic2_count_2 hown hK hP 0 rfl rfl 0 (by decide) (hts _ mwc2_count_0) (fun _ h9 => h9) rfl dX2_count_93 ?_
      refine va_get (D := G.1) (ci := 1) (v := .int (nI (sg 7))) (C := RX1) (T := TX1) (N := 12) hx hb hts mic2_count_1 hown hK hP 1 rfl rfl 4 (by decide) (hts _ mwc2_count_5) (fun _ h9 => h9) rfl dX2_count_96 ?_
      exact W.iret (v := nI (sg 7)) hx hb hr (fun tT ht hW => ⟨_, rfl, Or.inr (Or.inr (Or.inr (Or.inr (Or.inl ⟨rfl, rfl⟩)))), ht⟩) (fun _ h => absurd h List.not_mem_nil) dX2_count_99
    · refine lv_tableIn (x := nI 5) (off := 99) (tgt := 100) hx hb dX2_count_1 (by decide) (by decide) (by decide) (by decide) ?_
      refine lv_aload_n hx hb dX2_count_100 rfl (lv_at hl 0 rfl) ?_
      refine va_get (D := G.1) (ci := 2) (v := .ref a0) (C := RX2) (T := TX2) (N := 10) hx hb hts mic2_count_2 hown hK hP 0 rfl rfl 0 (by decide) (hts _ mwc2_count_0) (fun _ h9 => h9) rfl dX2_count_101 ?_
      refine va_get (D := G.1) (ci := 1) (v := .int (nI (sg 8))) (C := RX1) (T := TX1) (N := 12) hx hb hts mic2_count_1 hown hK hP 1 rfl rfl 5 (by decide) (hts _ mwc2_count_6) (fun _ h9 => h9) rfl dX2_count_104 ?_
      exact W.iret (v := nI (sg 8)) hx hb hr (fun tT ht hW => ⟨_, rfl, Or.inr (Or.inr (Or.inr (Or.inr (Or.inr (Or.inl ⟨rfl, rfl⟩))))), ht⟩) (fun _ h => absurd h List.not_mem_nil) dX2_count_107
    · refine lv_tableIn (x := nI 6) (off := 107) (tgt := 108) hx hb dX2_count_1 (by decide) (by decide) (by decide) (by decide) ?_
      refine lv_aload_n hx hb dX2_count_108 rfl (lv_at hl 0 rfl) ?_
      refine va_get (D := G.1) (ci := 2) (v := .ref a0) (C := RX2) (T := TX2) (N := 10) hx hb hts mic2_count_2 hown hK hP 0 rfl rfl 0 (by decide) (hts _ mwc2_count_0) (fun _ h9 => h9) rfl dX2_count_109 ?_
      refine va_get (D := G.1) (ci := 1) (v := .int (nI (sg 9))) (C := RX1) (T := TX1) (N := 12) hx hb hts mic2_count_1 hown hK hP 1 rfl rfl 6 (by decide) (hts _ mwc2_count_7) (fun _ h9 => h9) rfl dX2_count_112 ?_
      exact W.iret (v := nI (sg 9)) hx hb hr (fun tT ht hW => ⟨_, rfl, Or.inr (Or.inr (Or.inr (Or.inr (Or.inr (Or.inr (Or.inl ⟨rfl, rfl⟩)))))), ht⟩) (fun _ h => absurd h List.not_mem_nil) dX2_count_115
    · refine lv_tableIn (x := nI 7) (off := 115) (tgt := 116) hx hb dX2_count_1 (by decide) (by decide) (by decide) (by decide) ?_
      refine lv_aload_n hx hb dX2_count_116 rfl (lv_at hl 0 rfl) ?_
      refine va_get (D := G.1) (ci := 2) (v := .ref a0) (C := RX2) (T := TX2) (N := 10) hx hb hts mic2_count_2 hown hK hP 0 rfl rfl 0 (by decide) (hts _ mwc2_count_0) (fun _ h9 => h9) rfl dX2_count_117 ?_
      refine zc_R (As := []) (rest := []) ⟨hx, hb, hml, hown, hts⟩ (c_xnever l G a0 a1 a2 sz sc sg hM hR) (cwV 0 hts gX2_count_X1_countNeverRead rfl rfl rfl (by decide +kernel) ⟨Nat.le_of_ble_eq_true rfl, Nat.le_of_ble_eq_true rfl⟩) hK hN hP hD [1, 2, 3] rfl (by decide) (ci := 1) rfl rfl rfl hl.1 rfl (Nat.le_of_ble_eq_true rfl) dX2_count_120 ⟨Nat.zero_le _, Nat.zero_le _⟩ (fun r120 h120 => ?_)
      subst h120
      exact W.iret (v := nI (capS (szF sg) (nrF (atF sg 4)) 8)) hx hb hr (fun tT ht hW => ⟨_, rfl, Or.inr (Or.inr (Or.inr (Or.inr (Or.inr (Or.inr (Or.inr (Or.inl ⟨rfl, rfl⟩))))))), ht⟩) (fun _ h => absurd h List.not_mem_nil) dX2_count_123
    · refine lv_tableIn (x := nI 8) (off := 123) (tgt := 124) hx hb dX2_count_1 (by decide) (by decide) (by decide) (by decide) ?_
      refine lv_aload_n hx hb dX2_count_124 rfl (lv_at hl 0 rfl) ?_
      refine va_get (D := G.1) (ci := 2) (v := .ref a0) (C := RX2) (T := TX2) (N := 10) hx hb hts mic2_count_2 hown hK hP 0 rfl rfl 0 (by decide) (hts _ mwc2_count_0) (fun _ h9 => h9) rfl dX2_count_125 ?_
      refine zc_R (As := []) (rest := []) ⟨hx, hb, hml, hown, hts⟩ (c_xallFacts l G a0 a1 a2 sz sc sg hM hR) (cwV 0 hts gX2_count_X1_allFacts rfl rfl rfl (by decide +kernel) ⟨Nat.le_of_ble_eq_true rfl, Nat.le_of_ble_eq_true rfl⟩) hK hN hP hD [1, 2, 3] rfl (by decide) (ci := 1) rfl rfl rfl hl.1 rfl (Nat.le_of_ble_eq_true rfl) dX2_count_128 ⟨Nat.zero_le _, Nat.zero_le _⟩ (fun r128 h128 => ?_)
      subst h128
      refine zc_S (As := [.int (nI (allF (szF sg) (atF sg 3) 8))]) (rest := []) ⟨hx, hb, hml, hown, hts⟩ (c_bitCount l (allF (szF sg) (atF sg 3) 8) (allF_le (fun e t he ht => (hM.2.2 e t he ht).2.2.2.1.2) 8 (Nat.le_refl 8))) (va_cwS 1 hts gX2_count_J6_bitCount_0f7a4 rfl rfl rfl (by decide +kernel) ⟨Nat.le_of_ble_eq_true rfl, Nat.le_of_ble_eq_true rfl⟩) rfl hl.1 rfl (Nat.le_of_ble_eq_true rfl) dX2_count_131 ⟨Nat.zero_le _, Nat.zero_le _⟩ (fun r131 h131 => ?_)
      subst h131
      exact W.iret (v := nI (bitsN (allF (szF sg) (atF sg 3) 8) 16)) hx hb hr (fun tT ht hW => ⟨_, rfl, Or.inr (Or.inr (Or.inr (Or.inr (Or.inr (Or.inr (Or.inr (Or.inr (Or.inl ⟨rfl, rfl⟩)))))))), ht⟩) (fun _ h => absurd h List.not_mem_nil) dX2_count_134
    · refine lv_tableIn (x := nI 9) (off := 134) (tgt := 135) hx hb dX2_count_1 (by decide) (by decide) (by decide) (by decide) ?_
      refine lv_aload_n hx hb dX2_count_135 rfl (lv_at hl 0 rfl) ?_
      refine va_get (D := G.1) (ci := 2) (v := .int (nI st)) (C := RX2) (T := TX2) (N := 10) hx hb hts mic2_count_2 hown hK hP 0 rfl rfl 6 (by decide) (hts _ mwc2_count_8) (fun _ h9 => h9) rfl dX2_count_136 ?_
      exact W.iret (v := nI st) hx hb hr (fun tT ht hW => ⟨_, rfl, Or.inr (Or.inr (Or.inr (Or.inr (Or.inr (Or.inr (Or.inr (Or.inr (Or.inr (Or.inl ⟨rfl, rfl⟩))))))))), ht⟩) (fun _ h => absurd h List.not_mem_nil) dX2_count_139
    · refine lv_tableIn (x := nI 10) (off := 139) (tgt := 140) hx hb dX2_count_1 (by decide) (by decide) (by decide) (by decide) ?_
      refine lv_aload_n hx hb dX2_count_140 rfl (lv_at hl 0 rfl) ?_
      refine va_get (D := G.1) (ci := 2) (v := .ref p0) (C := RX2) (T := TX2) (N := 10) hx hb hts mic2_count_2 hown hK hP 0 rfl rfl 7 (by decide) (hts _ mwc2_count_9) (fun _ h9 => h9) rfl dX2_count_141 ?_
      refine va_get (D := G.1) (ci := 0) (v := .int (nI pn)) (C := RX0) (T := TX0) (N := 10) hx hb hts mic2_count_0 hown hK hP 4 rfl rfl 1 (by decide) (hts _ mwc2_count_10) (fun _ h9 => h9) rfl dX2_count_144 ?_
      exact W.iret (v := nI pn) hx hb hr (fun tT ht hW => ⟨_, rfl, Or.inr (Or.inr (Or.inr (Or.inr (Or.inr (Or.inr (Or.inr (Or.inr (Or.inr (Or.inr (Or.inl ⟨rfl, rfl⟩)))))))))), ht⟩) (fun _ h => absurd h List.not_mem_nil) dX2_count_147
  · refine lv_tableOut (tgt := 148) hx hb dX2_count_1 (sw_out (n := 11) (by decide) hno (by decide)) (by decide) ?_
    refine lv_bipush (v := (-2)) hx hb dX2_count_148 (by decide) ?_
    exact W.iret (v := (-2)) hx hb hr (fun tT ht hW => ⟨_, rfl, Or.inr (Or.inr (Or.inr (Or.inr (Or.inr (Or.inr (Or.inr (Or.inr (Or.inr (Or.inr (Or.inr ⟨hno, rfl⟩)))))))))), ht⟩) (fun _ h => absurd h List.not_mem_nil) dX2_count_150
