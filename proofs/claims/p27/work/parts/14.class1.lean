set_option maxHeartbeats 4000000 in
set_option maxRecDepth 100000 in
/-- X2_isExhibit:  -/
theorem c_xExhibit (l : Launch) (x : Int32) : Met l yX2_isExhibit wsX2_isExhibit ({ frames := 0, cells := 0, slots := 0, locals := 0 } : Room) (fun vV _ => vV = ([.int x] : List Value).toArray) (vp_Si (fun (rR : Int32) => (∃ (eX : Nat), eX < 8 ∧ x = nI eX ∧ rR = nI 1) ∨ (¬ pE x ∧ rR = nI 0))) 0 0 (fun _ => False) := by
  refine zS (cc := cX2_isExhibit) (maxL := 1) (ret := (some .boolean)) (by decide) rfl (Nat.le_of_ble_eq_true rfl) ?_
  intro pP eE sS mM below meth cC hx hb hr hts hown hlk hml ls hl
  have hl : lv_has ls 1 [(0, .int x)] := hl
  refine lv_iload_n hx hb dX2_isExhibit_0 rfl (lv_at hl 0 rfl) ?_
  refine lv_if_lt (tgt := 14) hx hb dX2_isExhibit_1 (by decide) (fun c1 => ?_) (fun c1 => ?_)
  · refine lv_iconst (v := nI 0) hx hb dX2_isExhibit_14 (by decide) ?_
    exact W.zret (ty := .boolean) (v := nI 0) hx hb hr (rfl) (fun tT ht hW => ⟨_, rfl, Or.inr ⟨lt_no1 (n := 8) (by decide) c1, rfl⟩, ht⟩) (fun _ h => absurd h List.not_mem_nil) dX2_isExhibit_15
  · refine lv_iload_n hx hb dX2_isExhibit_4 rfl (lv_at hl 0 rfl) ?_
    refine lv_bipush (v := nI 8) hx hb dX2_isExhibit_5 (by decide) ?_
    refine lv_icmp_ge (tgt := 14) hx hb dX2_isExhibit_7 (by decide) (fun c7 => ?_) (fun c7 => ?_)
    · refine lv_iconst (v := nI 0) hx hb dX2_isExhibit_14 (by decide) ?_
      exact W.zret (ty := .boolean) (v := nI 0) hx hb hr (rfl) (fun tT ht hW => ⟨_, rfl, Or.inr ⟨lt_no2 (n := 8) (by decide) (Int32.not_lt.mpr c7), rfl⟩, ht⟩) (fun _ h => absurd h List.not_mem_nil) dX2_isExhibit_15
    · refine lv_iconst (v := nI 1) hx hb dX2_isExhibit_10 (by decide) ?_
      refine lv_goto (tgt := 15) hx hb dX2_isExhibit_11 (by decide) ?_
      obtain ⟨eX, h1, h2⟩ := lt_yes (n := 8) (by decide) c1 (Int32.not_le.mp c7)
      exact W.zret (ty := .boolean) (v := nI 1) hx hb hr (rfl) (fun tT ht hW => ⟨_, rfl, Or.inl ⟨eX, h1, h2, rfl⟩, ht⟩) (fun _ h => absurd h List.not_mem_nil) dX2_isExhibit_15
set_option maxHeartbeats 4000000 in
set_option maxRecDepth 100000 in
/-- X2_isExhibit:  -/
theorem c_xExhibit_n (l : Launch) (e : Nat) (he : e < 8) : Met l yX2_isExhibit wsX2_isExhibit ({ frames := 0, cells := 0, slots := 0, locals := 0 } : Room) (fun vV _ => vV = ([.int (nI e)] : List Value).toArray) (vp_Si (fun (rR : Int32) => rR = nI 1)) 0 0 (fun _ => False) := by
  refine zS (cc := cX2_isExhibit) (maxL := 1) (ret := (some .boolean)) (by decide) rfl (Nat.le_of_ble_eq_true rfl) ?_
  intro pP eE sS mM below meth cC hx hb hr hts hown hlk hml ls hl
  have hl : lv_has ls 1 [(0, .int (nI e))] := hl
  refine lv_iload_n hx hb dX2_isExhibit_0 rfl (lv_at hl 0 rfl) ?_
  refine zk_zlt (tgt := 14) hx hb dX2_isExhibit_1 (by decide) (by omega) ?_
  refine lv_iload_n hx hb dX2_isExhibit_4 rfl (lv_at hl 0 rfl) ?_
  refine lv_bipush (v := nI 8) hx hb dX2_isExhibit_5 (by decide) ?_
  refine zk_ige (tgt := 14) hx hb dX2_isExhibit_7 (by decide) (by omega) (by omega) (fun c7 => ?_) (fun c7 => ?_)
  · omega
  · refine lv_iconst (v := nI 1) hx hb dX2_isExhibit_10 (by decide) ?_
    refine lv_goto (tgt := 15) hx hb dX2_isExhibit_11 (by decide) ?_
    exact W.zret (ty := .boolean) (v := nI 1) hx hb hr (rfl) (fun tT ht hW => ⟨_, rfl, rfl, ht⟩) (fun _ h => absurd h List.not_mem_nil) dX2_isExhibit_15
set_option maxHeartbeats 4000000 in
set_option maxRecDepth 100000 in
/-- X2_isAge:  -/
theorem c_xAge (l : Launch) (x : Int32) : Met l yX2_isAge wsX2_isAge ({ frames := 0, cells := 0, slots := 0, locals := 0 } : Room) (fun vV _ => vV = ([.int x] : List Value).toArray) (vp_Si (fun (rR : Int32) => (∃ (aX : Nat), 4 ≤ aX ∧ aX ≤ 99 ∧ x = nI aX ∧ rR = nI 1) ∨ ((¬ ∃ n : Nat, 4 ≤ n ∧ n ≤ 99 ∧ x = nI n) ∧ rR = nI 0))) 0 0 (fun _ => False) := by
  refine zS (cc := cX2_isAge) (maxL := 1) (ret := (some .boolean)) (by decide) rfl (Nat.le_of_ble_eq_true rfl) ?_
  intro pP eE sS mM below meth cC hx hb hr hts hown hlk hml ls hl
  have hl : lv_has ls 1 [(0, .int x)] := hl
  refine lv_iload_n hx hb dX2_isAge_0 rfl (lv_at hl 0 rfl) ?_
  refine lv_iconst (v := nI 4) hx hb dX2_isAge_1 (by decide) ?_
  refine lv_icmp_lt (tgt := 15) hx hb dX2_isAge_2 (by decide) (fun c2 => ?_) (fun c2 => ?_)
  · refine lv_iconst (v := nI 0) hx hb dX2_isAge_15 (by decide) ?_
    exact W.zret (ty := .boolean) (v := nI 0) hx hb hr (rfl) (fun tT ht hW => ⟨_, rfl, Or.inr ⟨in_no1 (by decide) (by decide) c2, rfl⟩, ht⟩) (fun _ h => absurd h List.not_mem_nil) dX2_isAge_16
  · refine lv_iload_n hx hb dX2_isAge_5 rfl (lv_at hl 0 rfl) ?_
    refine lv_bipush (v := nI 99) hx hb dX2_isAge_6 (by decide) ?_
    refine lv_icmp_gt (tgt := 15) hx hb dX2_isAge_8 (by decide) (fun c8 => ?_) (fun c8 => ?_)
    · refine lv_iconst (v := nI 0) hx hb dX2_isAge_15 (by decide) ?_
      exact W.zret (ty := .boolean) (v := nI 0) hx hb hr (rfl) (fun tT ht hW => ⟨_, rfl, Or.inr ⟨in_no2 (by decide) (by decide) c8, rfl⟩, ht⟩) (fun _ h => absurd h List.not_mem_nil) dX2_isAge_16
    · refine lv_iconst (v := nI 1) hx hb dX2_isAge_11 (by decide) ?_
      refine lv_goto (tgt := 16) hx hb dX2_isAge_12 (by decide) ?_
      obtain ⟨aX, h1, h2, h3⟩ := in_yes (by decide) (by decide) c2 c8
      exact W.zret (ty := .boolean) (v := nI 1) hx hb hr (rfl) (fun tT ht hW => ⟨_, rfl, Or.inl ⟨aX, h1, h2, h3, rfl⟩, ht⟩) (fun _ h => absurd h List.not_mem_nil) dX2_isAge_16
set_option maxHeartbeats 4000000 in
set_option maxRecDepth 100000 in
/-- X2_isText:  -/
theorem c_xText (l : Launch) (aw : Int32) (as : Int32) (az : Int32) : Met l yX2_isText wsX2_isText ({ frames := 0, cells := 0, slots := 0, locals := 0 } : Room) (fun vV _ => vV = ([.int aw, .int as, .int az] : List Value).toArray) (vp_Si (fun (rR : Int32) => (∃ (wX : Nat) (sX : Nat) (zX : Nat), 1 ≤ wX ∧ wX ≤ 300 ∧ 1 ≤ sX ∧ sX ≤ 50 ∧ sX ≤ wX ∧ zX ≤ wX ∧ aw = nI wX ∧ as = nI sX ∧ az = nI zX ∧ rR = nI 1) ∨ (¬ pT3 aw as az ∧ rR = nI 0))) 0 0 (fun _ => False) := by
  refine zS (cc := cX2_isText) (maxL := 3) (ret := (some .boolean)) (by decide) rfl (Nat.le_of_ble_eq_true rfl) ?_
  intro pP eE sS mM below meth cC hx hb hr hts hown hlk hml ls hl
  have hl : lv_has ls 3 [(0, .int aw), (1, .int as), (2, .int az)] := hl
  refine lv_iload_n hx hb dX2_isText_0 rfl (lv_at hl 0 rfl) ?_
  refine lv_iconst (v := nI 1) hx hb dX2_isText_1 (by decide) ?_
  refine lv_icmp_lt (tgt := 41) hx hb dX2_isText_2 (by decide) (fun c2 => ?_) (fun c2 => ?_)
  · refine lv_iconst (v := nI 0) hx hb dX2_isText_41 (by decide) ?_
    exact W.zret (ty := .boolean) (v := nI 0) hx hb hr (rfl) (fun tT ht hW => ⟨_, rfl, Or.inr ⟨fun ⟨w1, s1, z1, q1, q2, q3, q4, q5, q6⟩ => in_no1 (by decide) (by decide) c2 ⟨w1, q1.1, q1.2, q4⟩, rfl⟩, ht⟩) (fun _ h => absurd h List.not_mem_nil) dX2_isText_42
  · refine lv_iload_n hx hb dX2_isText_5 rfl (lv_at hl 0 rfl) ?_
    refine lv_sipush (v := nI 300) hx hb dX2_isText_6 (by decide) ?_
    refine lv_icmp_gt (tgt := 41) hx hb dX2_isText_9 (by decide) (fun c9 => ?_) (fun c9 => ?_)
    · refine lv_iconst (v := nI 0) hx hb dX2_isText_41 (by decide) ?_
      exact W.zret (ty := .boolean) (v := nI 0) hx hb hr (rfl) (fun tT ht hW => ⟨_, rfl, Or.inr ⟨fun ⟨w1, s1, z1, q1, q2, q3, q4, q5, q6⟩ => in_no2 (by decide) (by decide) c9 ⟨w1, q1.1, q1.2, q4⟩, rfl⟩, ht⟩) (fun _ h => absurd h List.not_mem_nil) dX2_isText_42
    · obtain ⟨wY, hw1, hw2, rfl⟩ := in_yes (by decide) (by decide) c2 c9
      refine lv_iload_n hx hb dX2_isText_12 rfl (lv_at hl 1 rfl) ?_
      refine lv_iconst (v := nI 1) hx hb dX2_isText_13 (by decide) ?_
      refine lv_icmp_lt (tgt := 41) hx hb dX2_isText_14 (by decide) (fun c14 => ?_) (fun c14 => ?_)
      · refine lv_iconst (v := nI 0) hx hb dX2_isText_41 (by decide) ?_
        exact W.zret (ty := .boolean) (v := nI 0) hx hb hr (rfl) (fun tT ht hW => ⟨_, rfl, Or.inr ⟨fun ⟨w1, s1, z1, q1, q2, q3, q4, q5, q6⟩ => in_no1 (by decide) (by decide) c14 ⟨s1, q2.1, q2.2.1, q5⟩, rfl⟩, ht⟩) (fun _ h => absurd h List.not_mem_nil) dX2_isText_42
      · refine lv_iload_n hx hb dX2_isText_17 rfl (lv_at hl 1 rfl) ?_
        refine lv_bipush (v := nI 50) hx hb dX2_isText_18 (by decide) ?_
        refine lv_icmp_gt (tgt := 41) hx hb dX2_isText_20 (by decide) (fun c20 => ?_) (fun c20 => ?_)
        · refine lv_iconst (v := nI 0) hx hb dX2_isText_41 (by decide) ?_
          exact W.zret (ty := .boolean) (v := nI 0) hx hb hr (rfl) (fun tT ht hW => ⟨_, rfl, Or.inr ⟨fun ⟨w1, s1, z1, q1, q2, q3, q4, q5, q6⟩ => in_no2 (by decide) (by decide) c20 ⟨s1, q2.1, q2.2.1, q5⟩, rfl⟩, ht⟩) (fun _ h => absurd h List.not_mem_nil) dX2_isText_42
        · obtain ⟨sY, hs1, hs2, rfl⟩ := in_yes (by decide) (by decide) c14 c20
          refine lv_iload_n hx hb dX2_isText_23 rfl (lv_at hl 1 rfl) ?_
          refine lv_iload_n hx hb dX2_isText_24 rfl (lv_at hl 0 rfl) ?_
          refine zk_igt (tgt := 41) hx hb dX2_isText_25 (by decide) (by omega) (by omega) (fun c25 => ?_) (fun c25 => ?_)
          · refine lv_iconst (v := nI 0) hx hb dX2_isText_41 (by decide) ?_
            exact W.zret (ty := .boolean) (v := nI 0) hx hb hr (rfl) (fun tT ht hW => ⟨_, rfl, Or.inr ⟨fun ⟨w1, s1, z1, q1, q2, q3, q4, q5, q6⟩ => by have i1 := nI_inj (by omega) (by omega) q4; have i2 := nI_inj (by omega) (by omega) q5; omega, rfl⟩, ht⟩) (fun _ h => absurd h List.not_mem_nil) dX2_isText_42
          · refine lv_iload_n hx hb dX2_isText_28 rfl (lv_at hl 2 rfl) ?_
            refine lv_if_lt (tgt := 41) hx hb dX2_isText_29 (by decide) (fun c29 => ?_) (fun c29 => ?_)
            · refine lv_iconst (v := nI 0) hx hb dX2_isText_41 (by decide) ?_
              exact W.zret (ty := .boolean) (v := nI 0) hx hb hr (rfl) (fun tT ht hW => ⟨_, rfl, Or.inr ⟨fun ⟨w1, s1, z1, q1, q2, q3, q4, q5, q6⟩ => in_no0 (hi := 300) (by decide) c29 ⟨z1, Nat.zero_le _, by omega, q6⟩, rfl⟩, ht⟩) (fun _ h => absurd h List.not_mem_nil) dX2_isText_42
            · refine lv_iload_n hx hb dX2_isText_32 rfl (lv_at hl 2 rfl) ?_
              refine lv_iload_n hx hb dX2_isText_33 rfl (lv_at hl 0 rfl) ?_
              refine lv_icmp_gt (tgt := 41) hx hb dX2_isText_34 (by decide) (fun c34 => ?_) (fun c34 => ?_)
              · refine lv_iconst (v := nI 0) hx hb dX2_isText_41 (by decide) ?_
                exact W.zret (ty := .boolean) (v := nI 0) hx hb hr (rfl) (fun tT ht hW => ⟨_, rfl, Or.inr ⟨fun ⟨w1, s1, z1, q1, q2, q3, q4, q5, q6⟩ => by have i1 := nI_inj (by omega) (by omega) q4; subst i1; exact in_no2 (lo := 0) (by decide) (by omega) c34 ⟨z1, Nat.zero_le _, q3, q6⟩, rfl⟩, ht⟩) (fun _ h => absurd h List.not_mem_nil) dX2_isText_42
              · obtain ⟨zY, hz1, hz2, rfl⟩ := in_yes0g (by omega) c29 c34
                refine lv_iconst (v := nI 1) hx hb dX2_isText_37 (by decide) ?_
                refine lv_goto (tgt := 42) hx hb dX2_isText_38 (by decide) ?_
                exact W.zret (ty := .boolean) (v := nI 1) hx hb hr (rfl) (fun tT ht hW => ⟨_, rfl, Or.inl ⟨wY, sY, zY, hw1, hw2, hs1, hs2, c25, hz2, rfl, rfl, rfl, rfl⟩, ht⟩) (fun _ h => absurd h List.not_mem_nil) dX2_isText_42
set_option maxRecDepth 100000 in
theorem mwc_rowOf_0 : Cond.initialized RX2 ∈ wsX1_rowOf := by decide +kernel
set_option maxRecDepth 100000 in
theorem mwc_rowOf_1 : Cond.static yX2_isExhibit ∈ wsX1_rowOf := by decide +kernel
set_option maxRecDepth 100000 in
theorem mwc_rowOf_2 : Cond.fieldLink RX1 9 "ExhibitTexts$State" "sizes" "[I" ∈ wsX1_rowOf := by decide +kernel
set_option maxRecDepth 100000 in
theorem mic_rowOf_1 : ∀ w ∈ u_ws RX1 TX1 12, w ∈ wsX1_rowOf := by decide +kernel
set_option maxHeartbeats 4000000 in
set_option maxRecDepth 100000 in
/-- X1_rowOf: where a text lies -/
theorem c_rowOf (l : Launch) (G : zG) (a0 : Nat) (a1 : Nat) (a2 : Nat) (sz : Nat → Nat) (sc : Nat → Nat) (sg : Nat → Nat) (x : Int32) (y : Int32) (hM : mOK sg) (hR : sRel sz sc sg) : Met l yX1_rowOf wsX1_rowOf ({ frames := 1, cells := 0, slots := 0, locals := 20 } : Room) (zPc G [.ref a0, .int x, .int y] [(a0, .inr (1, [.ref a1, .ref a2, .int (nI (sg 0)), .int (nI (sg 1)), .int (nI (sg 7)), .int (nI (sg 8)), .int (nI (sg 9)), .int (nI (sg 2)), .int (nI (sg 3)), .int (nI (sg 4)), .int (nI (sg 5)), .int (nI (sg 6))])), (a1, .inl (G.2.1, 8, .inl (arN sz))), (a2, .inl (G.2.1, 640, .inl (arN sc)))]) (vp_Si (fun (rR : Int32) => (∃ (eX : Nat) (tX : Nat), eX < 8 ∧ tX < sg (10 + 76 * eX) ∧ x = nI eX ∧ y = nI tX ∧ rR = nI ((eX * 5 + tX) * 16)) ∨ (¬ pTn (szF sg) x y ∧ rR = (-1)))) 0 0 (fun _ => False) := by
  refine zR (cc := cX1_rowOf) (maxL := 3) (ret := (some .int)) (by decide) rfl (Nat.le_of_ble_eq_true rfl) ?_
  intro pP eE sS mM below meth cC hx hb hr hts hown hlk hml hK hN hP hD ls hl
  have hl : lv_has ls 3 [(0, .ref a0), (1, .int x), (2, .int y)] := hl
  refine lv_iload_n hx hb dX1_rowOf_0 rfl (lv_at hl 1 rfl) ?_
  refine zc_SN (As := [.int x]) (rest := []) ⟨hx, hb, hml, hown, hts⟩ (c_xExhibit l x ) ⟨va_cnB 1 hts gX1_rowOf_X2_isExhibit_n56 rfl rfl rfl hN.X1_X2_isExhibit (hts _ mwc_rowOf_0) (by decide +kernel) ⟨Nat.le_of_ble_eq_true rfl, Nat.le_of_ble_eq_true rfl⟩, hts _ mwc_rowOf_1, trivial⟩ rfl hl.1 rfl (Nat.le_of_ble_eq_true rfl) dX1_rowOf_1 ⟨Nat.zero_le _, Nat.zero_le _⟩ (fun r1 h1 => ?_)
  rcases h1 with ⟨eX_1, h1_0, rfl, rfl⟩ | ⟨h1_0, rfl⟩
  · refine lv_if_eq (tgt := 21) hx hb dX1_rowOf_4 (by decide) (fun q => absurd q (by decide)) (fun _ => ?_)
    refine lv_iload_n hx hb dX1_rowOf_7 rfl (lv_at hl 2 rfl) ?_
    refine lv_if_lt (tgt := 21) hx hb dX1_rowOf_8 (by decide) (fun c8 => ?_) (fun c8 => ?_)
    · refine lv_iconst (v := (-1)) hx hb dX1_rowOf_21 (by decide) ?_
      exact W.iret (v := (-1)) hx hb hr (fun tT ht hW => ⟨_, rfl, Or.inr ⟨fun ⟨e, t, q1, q2, q3, q4⟩ => lt_no1 (n := 5) (by decide) c8 ⟨t, by have := hM.2.1 e q1; have q2 : t < sg (10 + 76 * e) := q2; omega, q4⟩, rfl⟩, ht⟩) (fun _ h => absurd h List.not_mem_nil) dX1_rowOf_22
    · refine lv_iload_n hx hb dX1_rowOf_11 rfl (lv_at hl 2 rfl) ?_
      refine lv_aload_n hx hb dX1_rowOf_12 rfl (lv_at hl 0 rfl) ?_
      refine va_get (D := G.1) (ci := 1) (v := .ref a1) (C := RX1) (T := TX1) (N := 12) hx hb hts mic_rowOf_1 hown hK hP 0 rfl rfl 0 (by decide) (hts _ mwc_rowOf_2) (fun _ h9 => h9) rfl dX1_rowOf_13 ?_
      refine lv_iload_n hx hb dX1_rowOf_16 rfl (lv_at hl 1 rfl) ?_
      have hz5 := hM.2.1 eX_1 h1_0
      refine zk_ald (f := sz) (k := eX_1) hx hb hK hP 1 0 rfl rfl (Nat.le_of_ble_eq_true rfl) (by omega) dX1_rowOf_17 ?_
      refine zk_top (y := nI (sg (10 + 76 * eX_1))) (congrArg nI (hR.1 eX_1 h1_0)) ?_
      refine lv_icmp_lt (tgt := 23) hx hb dX1_rowOf_18 (by decide) (fun c18 => ?_) (fun c18 => ?_)
      · obtain ⟨tY, ht1, rfl⟩ := lt_yes (by omega) c8 c18
        refine lv_iload_n hx hb dX1_rowOf_23 rfl (lv_at hl 1 rfl) ?_
        refine lv_iconst (v := nI 5) hx hb dX1_rowOf_24 (by decide) ?_
        refine zk_mul hx hb dX1_rowOf_25 ?_
        refine lv_iload_n hx hb dX1_rowOf_26 rfl (lv_at hl 2 rfl) ?_
        refine zk_add hx hb dX1_rowOf_27 ?_
        refine lv_bipush (v := nI 16) hx hb dX1_rowOf_28 (by decide) ?_
        refine zk_mul hx hb dX1_rowOf_30 ?_
        exact W.iret (v := nI (((eX_1 * 5) + tY) * 16)) hx hb hr (fun tT ht hW => ⟨_, rfl, Or.inl ⟨eX_1, tY, h1_0, ht1, rfl, rfl, rfl⟩, ht⟩) (fun _ h => absurd h List.not_mem_nil) dX1_rowOf_31
      · refine lv_iconst (v := (-1)) hx hb dX1_rowOf_21 (by decide) ?_
        exact W.iret (v := (-1)) hx hb hr (fun tT ht hW => ⟨_, rfl, Or.inr ⟨pTn_no (sz := szF sg) h1_0 (lt_no2 (n := sg (10 + 76 * eX_1)) (by omega) c18), rfl⟩, ht⟩) (fun _ h => absurd h List.not_mem_nil) dX1_rowOf_22
  · refine lv_if_eq (tgt := 21) hx hb dX1_rowOf_4 (by decide) (fun _ => ?_) (fun q => absurd (by decide) q)
    refine lv_iconst (v := (-1)) hx hb dX1_rowOf_21 (by decide) ?_
    exact W.iret (v := (-1)) hx hb hr (fun tT ht hW => ⟨_, rfl, Or.inr ⟨fun ⟨e, t, q1, q2, q3, q4⟩ => h1_0 ⟨e, q1, q3⟩, rfl⟩, ht⟩) (fun _ h => absurd h List.not_mem_nil) dX1_rowOf_22
set_option maxRecDepth 100000 in
theorem mwc_rowOf_n_0 : Cond.initialized RX2 ∈ wsX1_rowOf := by decide +kernel
set_option maxRecDepth 100000 in
theorem mwc_rowOf_n_1 : Cond.static yX2_isExhibit ∈ wsX1_rowOf := by decide +kernel
set_option maxRecDepth 100000 in
theorem mwc_rowOf_n_2 : Cond.fieldLink RX1 9 "ExhibitTexts$State" "sizes" "[I" ∈ wsX1_rowOf := by decide +kernel
set_option maxRecDepth 100000 in
theorem mic_rowOf_n_1 : ∀ w ∈ u_ws RX1 TX1 12, w ∈ wsX1_rowOf := by decide +kernel
set_option maxHeartbeats 4000000 in
set_option maxRecDepth 100000 in
/-- X1_rowOf: where a text that is known lies -/
theorem c_rowOf_n (l : Launch) (G : zG) (a0 : Nat) (a1 : Nat) (a2 : Nat) (sz : Nat → Nat) (sc : Nat → Nat) (sg : Nat → Nat) (e : Nat) (t : Nat) (hM : mOK sg) (hR : sRel sz sc sg) (he : e < 8) (ht : t < sg (10 + 76 * e)) : Met l yX1_rowOf wsX1_rowOf ({ frames := 1, cells := 0, slots := 0, locals := 20 } : Room) (zPc G [.ref a0, .int (nI e), .int (nI t)] [(a0, .inr (1, [.ref a1, .ref a2, .int (nI (sg 0)), .int (nI (sg 1)), .int (nI (sg 7)), .int (nI (sg 8)), .int (nI (sg 9)), .int (nI (sg 2)), .int (nI (sg 3)), .int (nI (sg 4)), .int (nI (sg 5)), .int (nI (sg 6))])), (a1, .inl (G.2.1, 8, .inl (arN sz))), (a2, .inl (G.2.1, 640, .inl (arN sc)))]) (vp_Si (fun (rR : Int32) => rR = nI ((e * 5 + t) * 16))) 0 0 (fun _ => False) := by
  refine zR (cc := cX1_rowOf) (maxL := 3) (ret := (some .int)) (by decide) rfl (Nat.le_of_ble_eq_true rfl) ?_
  intro pP eE sS mM below meth cC hx hb hr hts hown hlk hml hK hN hP hD ls hl
  have hl : lv_has ls 3 [(0, .ref a0), (1, .int (nI e)), (2, .int (nI t))] := hl
  have hz5 := hM.2.1 e he
  refine lv_iload_n hx hb dX1_rowOf_0 rfl (lv_at hl 1 rfl) ?_
  refine zc_SN (As := [.int (nI e)]) (rest := []) ⟨hx, hb, hml, hown, hts⟩ (c_xExhibit_n l e (by omega)) ⟨va_cnB 1 hts gX1_rowOf_X2_isExhibit_n56 rfl rfl rfl hN.X1_X2_isExhibit (hts _ mwc_rowOf_n_0) (by decide +kernel) ⟨Nat.le_of_ble_eq_true rfl, Nat.le_of_ble_eq_true rfl⟩, hts _ mwc_rowOf_n_1, trivial⟩ rfl hl.1 rfl (Nat.le_of_ble_eq_true rfl) dX1_rowOf_1 ⟨Nat.zero_le _, Nat.zero_le _⟩ (fun r1 h1 => ?_)
  subst h1
  refine lv_if_eq (tgt := 21) hx hb dX1_rowOf_4 (by decide) (fun q => absurd q (by decide)) (fun _ => ?_)
  refine lv_iload_n hx hb dX1_rowOf_7 rfl (lv_at hl 2 rfl) ?_
  refine zk_zlt (tgt := 21) hx hb dX1_rowOf_8 (by decide) (by omega) ?_
  refine lv_iload_n hx hb dX1_rowOf_11 rfl (lv_at hl 2 rfl) ?_
  refine lv_aload_n hx hb dX1_rowOf_12 rfl (lv_at hl 0 rfl) ?_
  refine va_get (D := G.1) (ci := 1) (v := .ref a1) (C := RX1) (T := TX1) (N := 12) hx hb hts mic_rowOf_n_1 hown hK hP 0 rfl rfl 0 (by decide) (hts _ mwc_rowOf_n_2) (fun _ h9 => h9) rfl dX1_rowOf_13 ?_
  refine lv_iload_n hx hb dX1_rowOf_16 rfl (lv_at hl 1 rfl) ?_
  refine zk_ald (f := sz) (k := e) hx hb hK hP 1 0 rfl rfl (Nat.le_of_ble_eq_true rfl) (by omega) dX1_rowOf_17 ?_
  refine zk_top (y := nI (sg (10 + 76 * e))) (congrArg nI (hR.1 e he)) ?_
  refine zk_ilt (tgt := 23) hx hb dX1_rowOf_18 (by decide) (by omega) (by omega) (fun c18 => ?_) (fun c18 => ?_)
  · refine lv_iload_n hx hb dX1_rowOf_23 rfl (lv_at hl 1 rfl) ?_
    refine lv_iconst (v := nI 5) hx hb dX1_rowOf_24 (by decide) ?_
    refine zk_mul hx hb dX1_rowOf_25 ?_
    refine lv_iload_n hx hb dX1_rowOf_26 rfl (lv_at hl 2 rfl) ?_
    refine zk_add hx hb dX1_rowOf_27 ?_
    refine lv_bipush (v := nI 16) hx hb dX1_rowOf_28 (by decide) ?_
    refine zk_mul hx hb dX1_rowOf_30 ?_
    exact W.iret (v := nI (((e * 5) + t) * 16)) hx hb hr (fun tT ht hW => ⟨_, rfl, rfl, ht⟩) (fun _ h => absurd h List.not_mem_nil) dX1_rowOf_31
  · omega
set_option maxRecDepth 100000 in
theorem mwc_rowOf_m_0 : Cond.initialized RX2 ∈ wsX1_rowOf := by decide +kernel
set_option maxRecDepth 100000 in
theorem mwc_rowOf_m_1 : Cond.static yX2_isExhibit ∈ wsX1_rowOf := by decide +kernel
set_option maxHeartbeats 4000000 in
set_option maxRecDepth 100000 in
/-- X1_rowOf: no text has no row -/
theorem c_rowOf_m (l : Launch) (G : zG) (a0 : Nat) (a1 : Nat) (a2 : Nat) (sz : Nat → Nat) (sc : Nat → Nat) (sg : Nat → Nat) (e : Nat) (hM : mOK sg) (hR : sRel sz sc sg) (he : e < 8) : Met l yX1_rowOf wsX1_rowOf ({ frames := 1, cells := 0, slots := 0, locals := 20 } : Room) (zPc G [.ref a0, .int (nI e), .int (-5)] [(a0, .inr (1, [.ref a1, .ref a2, .int (nI (sg 0)), .int (nI (sg 1)), .int (nI (sg 7)), .int (nI (sg 8)), .int (nI (sg 9)), .int (nI (sg 2)), .int (nI (sg 3)), .int (nI (sg 4)), .int (nI (sg 5)), .int (nI (sg 6))])), (a1, .inl (G.2.1, 8, .inl (arN sz))), (a2, .inl (G.2.1, 640, .inl (arN sc)))]) (vp_Si (fun (rR : Int32) => rR = (-1))) 0 0 (fun _ => False) := by
  refine zR (cc := cX1_rowOf) (maxL := 3) (ret := (some .int)) (by decide) rfl (Nat.le_of_ble_eq_true rfl) ?_
  intro pP eE sS mM below meth cC hx hb hr hts hown hlk hml hK hN hP hD ls hl
  have hl : lv_has ls 3 [(0, .ref a0), (1, .int (nI e)), (2, .int (-5))] := hl
  refine lv_iload_n hx hb dX1_rowOf_0 rfl (lv_at hl 1 rfl) ?_
  refine zc_SN (As := [.int (nI e)]) (rest := []) ⟨hx, hb, hml, hown, hts⟩ (c_xExhibit_n l e (by omega)) ⟨va_cnB 1 hts gX1_rowOf_X2_isExhibit_n56 rfl rfl rfl hN.X1_X2_isExhibit (hts _ mwc_rowOf_m_0) (by decide +kernel) ⟨Nat.le_of_ble_eq_true rfl, Nat.le_of_ble_eq_true rfl⟩, hts _ mwc_rowOf_m_1, trivial⟩ rfl hl.1 rfl (Nat.le_of_ble_eq_true rfl) dX1_rowOf_1 ⟨Nat.zero_le _, Nat.zero_le _⟩ (fun r1 h1 => ?_)
  subst h1
  refine lv_if_eq (tgt := 21) hx hb dX1_rowOf_4 (by decide) (fun q => absurd q (by decide)) (fun _ => ?_)
  refine lv_iload_n hx hb dX1_rowOf_7 rfl (lv_at hl 2 rfl) ?_
  refine lv_if_lt (tgt := 21) hx hb dX1_rowOf_8 (by decide) (fun _ => ?_) (fun q => absurd (by decide) q)
  refine lv_iconst (v := (-1)) hx hb dX1_rowOf_21 (by decide) ?_
  exact W.iret (v := (-1)) hx hb hr (fun tT ht hW => ⟨_, rfl, rfl, ht⟩) (fun _ h => absurd h List.not_mem_nil) dX1_rowOf_22
set_option maxRecDepth 100000 in
theorem mwc_captionOf_0 : Cond.fieldLink RX1 15 "ExhibitTexts$State" "cells" "[I" ∈ wsX1_captionOf := by decide +kernel
set_option maxRecDepth 100000 in
theorem mic_captionOf_1 : ∀ w ∈ u_ws RX1 TX1 12, w ∈ wsX1_captionOf := by decide +kernel
set_option maxHeartbeats 4000000 in
set_option maxRecDepth 100000 in
/-- X1_captionOf: where a caption lies -/
theorem c_captionOf (l : Launch) (G : zG) (a0 : Nat) (a1 : Nat) (a2 : Nat) (sz : Nat → Nat) (sc : Nat → Nat) (sg : Nat → Nat) (e : Nat) (t : Nat) (y : Int32) (hM : mOK sg) (hR : sRel sz sc sg) (he : e < 8) (ht : t < sg (10 + 76 * e)) : Met l yX1_captionOf wsX1_captionOf ({ frames := 0, cells := 0, slots := 0, locals := 0 } : Room) (zPc G [.ref a0, .int (nI ((e * 5 + t) * 16)), .int y] [(a0, .inr (1, [.ref a1, .ref a2, .int (nI (sg 0)), .int (nI (sg 1)), .int (nI (sg 7)), .int (nI (sg 8)), .int (nI (sg 9)), .int (nI (sg 2)), .int (nI (sg 3)), .int (nI (sg 4)), .int (nI (sg 5)), .int (nI (sg 6))])), (a1, .inl (G.2.1, 8, .inl (arN sz))), (a2, .inl (G.2.1, 640, .inl (arN sc)))]) (vp_Si (fun (rR : Int32) => (∃ (kX : Nat), kX < sg (11 + 76 * e + 15 * t + 5) ∧ y = nI kX ∧ rR = nI ((e * 5 + t) * 16 + 7 + kX * 3)) ∨ ((¬ ∃ k : Nat, k < sg (11 + 76 * e + 15 * t + 5) ∧ y = nI k) ∧ rR = (-1)))) 0 0 (fun _ => False) := by
  refine zR (cc := cX1_captionOf) (maxL := 3) (ret := (some .int)) (by decide) rfl (Nat.le_of_ble_eq_true rfl) ?_
  intro pP eE sS mM below meth cC hx hb hr hts hown hlk hml hK hN hP hD ls hl
  have hl : lv_has ls 3 [(0, .ref a0), (1, .int (nI ((e * 5 + t) * 16))), (2, .int y)] := hl
  have hz5 := hM.2.1 e he
  have hc3 := (hM.2.2 e t he ht).2.2.2.2.1
  refine lv_iload_n hx hb dX1_captionOf_0 rfl (lv_at hl 2 rfl) ?_
  refine lv_if_lt (tgt := 16) hx hb dX1_captionOf_1 (by decide) (fun c1 => ?_) (fun c1 => ?_)
  · refine lv_iconst (v := (-1)) hx hb dX1_captionOf_16 (by decide) ?_
    exact W.iret (v := (-1)) hx hb hr (fun tT ht hW => ⟨_, rfl, Or.inr ⟨lt_no1 (by omega) c1, rfl⟩, ht⟩) (fun _ h => absurd h List.not_mem_nil) dX1_captionOf_17
  · refine lv_iload_n hx hb dX1_captionOf_4 rfl (lv_at hl 2 rfl) ?_
    refine lv_aload_n hx hb dX1_captionOf_5 rfl (lv_at hl 0 rfl) ?_
    refine va_get (D := G.1) (ci := 1) (v := .ref a2) (C := RX1) (T := TX1) (N := 12) hx hb hts mic_captionOf_1 hown hK hP 0 rfl rfl 1 (by decide) (hts _ mwc_captionOf_0) (fun _ h9 => h9) rfl dX1_captionOf_6 ?_
    refine lv_iload_n hx hb dX1_captionOf_9 rfl (lv_at hl 1 rfl) ?_
    refine lv_iconst (v := nI 5) hx hb dX1_captionOf_10 (by decide) ?_
    refine zk_add hx hb dX1_captionOf_11 ?_
    refine zk_ald (f := sc) (k := ((e * 5 + t) * 16) + 5) hx hb hK hP 2 0 rfl rfl (Nat.le_of_ble_eq_true rfl) (by omega) dX1_captionOf_12 ?_
    refine zk_top (y := nI (sg (11 + 76 * e + 15 * t + 5))) (congrArg nI (hR.2 e t he ht).2.2.2.2.2.1) ?_
    refine lv_icmp_lt (tgt := 18) hx hb dX1_captionOf_13 (by decide) (fun c13 => ?_) (fun c13 => ?_)
    · obtain ⟨kY, hk1, rfl⟩ := lt_yes (by omega) c1 c13
      refine lv_iload_n hx hb dX1_captionOf_18 rfl (lv_at hl 1 rfl) ?_
      refine lv_bipush (v := nI 7) hx hb dX1_captionOf_19 (by decide) ?_
      refine zk_add hx hb dX1_captionOf_21 ?_
      refine lv_iload_n hx hb dX1_captionOf_22 rfl (lv_at hl 2 rfl) ?_
      refine lv_iconst (v := nI 3) hx hb dX1_captionOf_23 (by decide) ?_
      refine zk_mul hx hb dX1_captionOf_24 ?_
      refine zk_add hx hb dX1_captionOf_25 ?_
      exact W.iret (v := nI ((((e * 5 + t) * 16) + 7) + (kY * 3))) hx hb hr (fun tT ht hW => ⟨_, rfl, Or.inl ⟨kY, hk1, rfl, rfl⟩, ht⟩) (fun _ h => absurd h List.not_mem_nil) dX1_captionOf_26
    · refine lv_iconst (v := (-1)) hx hb dX1_captionOf_16 (by decide) ?_
      exact W.iret (v := (-1)) hx hb hr (fun tT ht hW => ⟨_, rfl, Or.inr ⟨lt_no2 (by omega) c13, rfl⟩, ht⟩) (fun _ h => absurd h List.not_mem_nil) dX1_captionOf_17
set_option maxRecDepth 100000 in
theorem mwc_timeFor_0 : Cond.fieldLink RX1 47 "ExhibitTexts$State" "pace" "I" ∈ wsX1_timeFor := by decide +kernel
set_option maxRecDepth 100000 in
theorem mic_timeFor_1 : ∀ w ∈ u_ws RX1 TX1 12, w ∈ wsX1_timeFor := by decide +kernel
set_option maxRecDepth 100000 in
theorem mwc_timeFor_2 : Cond.methodLink RX1 103 Lib.Math.max.name ∈ wsX1_timeFor := by decide +kernel
set_option maxRecDepth 100000 in
theorem mwc_timeFor_3 : Cond.static Lib.Math.max.name ∈ wsX1_timeFor := by decide +kernel
set_option maxRecDepth 100000 in
theorem mwc_timeFor_4 : Cond.initialized "java/lang/Math" ∈ wsX1_timeFor := by decide +kernel
set_option maxRecDepth 100000 in
theorem mwc_timeFor_5 : Cond.code Lib.Math.max.name Lib.Math.max.code 2 (some .int) ∈ wsX1_timeFor := by decide +kernel
set_option maxHeartbeats 4000000 in
set_option maxRecDepth 100000 in
/-- X1_timeFor: seconds for words -/
theorem c_timeFor (l : Launch) (G : zG) (a0 : Nat) (a1 : Nat) (a2 : Nat) (sz : Nat → Nat) (sc : Nat → Nat) (sg : Nat → Nat) (w : Nat) (hM : mOK sg) (hR : sRel sz sc sg) (hv : sg 2 = 1) (hw : w ≤ 300) : Met l yX1_timeFor wsX1_timeFor ({ frames := 1, cells := 0, slots := 0, locals := 21 } : Room) (zPc G [.ref a0, .int (nI w)] [(a0, .inr (1, [.ref a1, .ref a2, .int (nI (sg 0)), .int (nI (sg 1)), .int (nI (sg 7)), .int (nI (sg 8)), .int (nI (sg 9)), .int (nI (sg 2)), .int (nI (sg 3)), .int (nI (sg 4)), .int (nI (sg 5)), .int (nI (sg 6))])), (a1, .inl (G.2.1, 8, .inl (arN sz))), (a2, .inl (G.2.1, 640, .inl (arN sc)))]) (vp_Si (fun (rR : Int32) => rR = nI (secs w (sg 4)))) 0 0 (fun _ => False) := by
  refine zR (cc := cX1_timeFor) (maxL := 3) (ret := (some .int)) (by decide) rfl (Nat.le_of_ble_eq_true rfl) ?_
  intro pP eE sS mM below meth cC hx hb hr hts hown hlk hml hK hN hP hD ls hl
  have hl : lv_has ls 3 [(0, .ref a0), (1, .int (nI w))] := hl
  have hp3 := hM.1.2.2.2.1 hv
  refine lv_aload_n hx hb dX1_timeFor_0 rfl (lv_at hl 0 rfl) ?_
  refine va_get (D := G.1) (ci := 1) (v := .int (nI (sg 4))) (C := RX1) (T := TX1) (N := 12) hx hb hts mic_timeFor_1 hown hK hP 0 rfl rfl 9 (by decide) (hts _ mwc_timeFor_0) (fun _ h9 => h9) rfl dX1_timeFor_1 ?_
  refine lv_bipush (v := nI 30) hx hb dX1_timeFor_4 (by decide) ?_
  refine va_mmax hx hb (hml.trans hl.1.symm) hown (hts _ mwc_timeFor_2) (hts _ mwc_timeFor_3) (hts _ mwc_timeFor_4) (hts _ mwc_timeFor_5) (Nat.le_of_ble_eq_true rfl) (Nat.le_of_ble_eq_true rfl) (Nat.zero_le _) (Nat.zero_le _) dX1_timeFor_6 ?_
  refine zk_top (y := nI (max (sg 4) 30)) (zI_max (by omega) (by omega)) ?_
  refine zk_top (y := nI (sg 4)) (congrArg nI (Nat.max_eq_left (by omega))) ?_
  refine lv_istore_n (lv' := [(2, .int (nI (sg 4))), (0, .ref a0), (1, .int (nI w))]) hx hb dX1_timeFor_9 rfl hl (by decide) rfl (fun ls hl => ?_)
  refine lv_bipush (v := nI 60) hx hb dX1_timeFor_10 (by decide) ?_
  refine lv_iload_n hx hb dX1_timeFor_12 rfl (lv_at hl 2 rfl) ?_
  refine zk_mul hx hb dX1_timeFor_13 ?_
  refine lv_iload_n hx hb dX1_timeFor_14 rfl (lv_at hl 0 rfl) ?_
  refine zk_add hx hb dX1_timeFor_15 ?_
  refine lv_iconst (v := nI 1) hx hb dX1_timeFor_16 (by decide) ?_
  refine zk_sub hx hb dX1_timeFor_17 (by omega) ?_
  refine lv_iload_n hx hb dX1_timeFor_18 rfl (lv_at hl 0 rfl) ?_
  refine zk_div hx hb dX1_timeFor_19 (by omega) (by omega) (by omega) ?_
  exact W.iret (v := nI ((((60 * w) + (sg 4)) - 1) / (sg 4))) hx hb hr (fun tT ht hW => ⟨_, rfl, rfl, ht⟩) (fun _ h => absurd h List.not_mem_nil) dX1_timeFor_20
set_option maxRecDepth 100000 in
theorem mwc_fitsBetter_0 : Cond.fieldLink RX1 15 "ExhibitTexts$State" "cells" "[I" ∈ wsX1_fitsBetter := by decide +kernel
set_option maxRecDepth 100000 in
theorem mic_fitsBetter_1 : ∀ w ∈ u_ws RX1 TX1 12, w ∈ wsX1_fitsBetter := by decide +kernel
set_option maxHeartbeats 4000000 in
set_option maxRecDepth 100000 in
/-- X1_fitsBetter: whether a text is shown rather than an earlier one -/
theorem c_fitsBetter (l : Launch) (G : zG) (a0 : Nat) (a1 : Nat) (a2 : Nat) (sz : Nat → Nat) (sc : Nat → Nat) (sg : Nat → Nat) (e : Nat) (t : Nat) (f : Nat) (ag : Nat) (hM : mOK sg) (hR : sRel sz sc sg) (he : e < 8) (ht : t < sg (10 + 76 * e)) (hf : f < sg (10 + 76 * e)) (hag : ag ≤ 99) : Met l yX1_fitsBetter wsX1_fitsBetter ({ frames := 0, cells := 0, slots := 0, locals := 0 } : Room) (zPc G [.ref a0, .int (nI (e * 5 * 16 + t * 16)), .int (nI (e * 5 * 16 + f * 16)), .int (nI ag)] [(a0, .inr (1, [.ref a1, .ref a2, .int (nI (sg 0)), .int (nI (sg 1)), .int (nI (sg 7)), .int (nI (sg 8)), .int (nI (sg 9)), .int (nI (sg 2)), .int (nI (sg 3)), .int (nI (sg 4)), .int (nI (sg 5)), .int (nI (sg 6))])), (a1, .inl (G.2.1, 8, .inl (arN sz))), (a2, .inl (G.2.1, 640, .inl (arN sc)))]) (vp_Si (fun (rR : Int32) => (fbP sg e ag t f ∧ rR = nI 1) ∨ (¬ fbP sg e ag t f ∧ rR = nI 0))) 0 0 (fun _ => False) := by
  refine zR (cc := cX1_fitsBetter) (maxL := 6) (ret := (some .boolean)) (by decide) rfl (Nat.le_of_ble_eq_true rfl) ?_
  intro pP eE sS mM below meth cC hx hb hr hts hown hlk hml hK hN hP hD ls hl
  have hl : lv_has ls 6 [(0, .ref a0), (1, .int (nI (e * 5 * 16 + t * 16))), (2, .int (nI (e * 5 * 16 + f * 16))), (3, .int (nI ag))] := hl
  have hz5 := hM.2.1 e he
  have hrt := rdg_le (hM.2.2 e t he ht)
  have hrf := rdg_le (hM.2.2 e f he hf)
  have hwt := (hM.2.2 e t he ht).1
  have hwf := (hM.2.2 e f he hf).1
  refine lv_aload_n hx hb dX1_fitsBetter_0 rfl (lv_at hl 0 rfl) ?_
  refine va_get (D := G.1) (ci := 1) (v := .ref a2) (C := RX1) (T := TX1) (N := 12) hx hb hts mic_fitsBetter_1 hown hK hP 0 rfl rfl 1 (by decide) (hts _ mwc_fitsBetter_0) (fun _ h9 => h9) rfl dX1_fitsBetter_1 ?_
  refine lv_iload_n hx hb dX1_fitsBetter_4 rfl (lv_at hl 1 rfl) ?_
  refine lv_iconst (v := nI 4) hx hb dX1_fitsBetter_5 (by decide) ?_
  refine zk_add hx hb dX1_fitsBetter_6 ?_
  refine zk_ald (f := sc) (k := (e * 5 * 16 + t * 16) + 4) hx hb hK hP 2 0 rfl rfl (Nat.le_of_ble_eq_true rfl) (by omega) dX1_fitsBetter_7 ?_
  refine zk_top (y := nI (rdg sg e t)) (congrArg nI ((congrArg sc (by omega)).trans (hR.2 e t he (by omega)).2.2.2.2.1)) ?_
  refine lv_istore (lv' := [(4, .int (nI (rdg sg e t))), (0, .ref a0), (1, .int (nI (e * 5 * 16 + t * 16))), (2, .int (nI (e * 5 * 16 + f * 16))), (3, .int (nI ag))]) hx hb dX1_fitsBetter_8 hl (by decide) rfl (fun ls hl => ?_)
  refine lv_aload_n hx hb dX1_fitsBetter_10 rfl (lv_at hl 1 rfl) ?_
  refine va_get (D := G.1) (ci := 1) (v := .ref a2) (C := RX1) (T := TX1) (N := 12) hx hb hts mic_fitsBetter_1 hown hK hP 0 rfl rfl 1 (by decide) (hts _ mwc_fitsBetter_0) (fun _ h9 => h9) rfl dX1_fitsBetter_11 ?_
  refine lv_iload_n hx hb dX1_fitsBetter_14 rfl (lv_at hl 3 rfl) ?_
  refine lv_iconst (v := nI 4) hx hb dX1_fitsBetter_15 (by decide) ?_
  refine zk_add hx hb dX1_fitsBetter_16 ?_
  refine zk_ald (f := sc) (k := (e * 5 * 16 + f * 16) + 4) hx hb hK hP 2 0 rfl rfl (Nat.le_of_ble_eq_true rfl) (by omega) dX1_fitsBetter_17 ?_
  refine zk_top (y := nI (rdg sg e f)) (congrArg nI ((congrArg sc (by omega)).trans (hR.2 e f he (by omega)).2.2.2.2.1)) ?_
  refine lv_istore (lv' := [(5, .int (nI (rdg sg e f))), (4, .int (nI (rdg sg e t))), (0, .ref a0), (1, .int (nI (e * 5 * 16 + t * 16))), (2, .int (nI (e * 5 * 16 + f * 16))), (3, .int (nI ag))]) hx hb dX1_fitsBetter_18 hl (by decide) rfl (fun ls hl => ?_)
  refine lv_iload hx hb dX1_fitsBetter_20 (lv_at hl 1 rfl) ?_
  refine lv_iload_n hx hb dX1_fitsBetter_22 rfl (lv_at hl 5 rfl) ?_
  refine zk_igt (tgt := 32) hx hb dX1_fitsBetter_23 (by decide) (by omega) (by omega) (fun c23 => ?_) (fun c23 => ?_)
  · refine lv_iload hx hb dX1_fitsBetter_32 (lv_at hl 1 rfl) ?_
    refine lv_iload hx hb dX1_fitsBetter_34 (lv_at hl 0 rfl) ?_
    refine zk_ige (tgt := 43) hx hb dX1_fitsBetter_36 (by decide) (by omega) (by omega) (fun c36 => ?_) (fun c36 => ?_)
    · refine lv_iconst (v := nI 0) hx hb dX1_fitsBetter_43 (by decide) ?_
      exact W.zret (ty := .boolean) (v := nI 0) hx hb hr (rfl) (fun tT ht hW => ⟨_, rfl, Or.inr ⟨by unfold fbP; omega, rfl⟩, ht⟩) (fun _ h => absurd h List.not_mem_nil) dX1_fitsBetter_44
    · refine lv_iconst (v := nI 1) hx hb dX1_fitsBetter_39 (by decide) ?_
      refine lv_goto (tgt := 44) hx hb dX1_fitsBetter_40 (by decide) ?_
      exact W.zret (ty := .boolean) (v := nI 1) hx hb hr (rfl) (fun tT ht hW => ⟨_, rfl, Or.inl ⟨by unfold fbP; omega, rfl⟩, ht⟩) (fun _ h => absurd h List.not_mem_nil) dX1_fitsBetter_44
  · refine lv_iload hx hb dX1_fitsBetter_26 (lv_at hl 0 rfl) ?_
    refine lv_iload_n hx hb dX1_fitsBetter_28 rfl (lv_at hl 5 rfl) ?_
    refine zk_ile (tgt := 45) hx hb dX1_fitsBetter_29 (by decide) (by omega) (by omega) (fun c29 => ?_) (fun c29 => ?_)
    · refine lv_iload hx hb dX1_fitsBetter_45 (lv_at hl 1 rfl) ?_
      refine lv_iload hx hb dX1_fitsBetter_47 (lv_at hl 0 rfl) ?_
      refine zk_ieq (tgt := 65) hx hb dX1_fitsBetter_49 (by decide) (by omega) (by omega) (fun c49 => ?_) (fun c49 => ?_)
      · refine lv_aload_n hx hb dX1_fitsBetter_65 rfl (lv_at hl 2 rfl) ?_
        refine va_get (D := G.1) (ci := 1) (v := .ref a2) (C := RX1) (T := TX1) (N := 12) hx hb hts mic_fitsBetter_1 hown hK hP 0 rfl rfl 1 (by decide) (hts _ mwc_fitsBetter_0) (fun _ h9 => h9) rfl dX1_fitsBetter_66 ?_
        refine lv_iload_n hx hb dX1_fitsBetter_69 rfl (lv_at hl 3 rfl) ?_
        refine lv_iconst (v := nI 0) hx hb dX1_fitsBetter_70 (by decide) ?_
        refine zk_add hx hb dX1_fitsBetter_71 ?_
        refine zk_ald (f := sc) (k := (e * 5 * 16 + t * 16) + 0) hx hb hK hP 2 0 rfl rfl (Nat.le_of_ble_eq_true rfl) (by omega) dX1_fitsBetter_72 ?_
        refine zk_top (y := nI (sg (11 + 76 * e + 15 * t + 0))) (congrArg nI ((congrArg sc (by omega)).trans (hR.2 e t he (by omega)).1)) ?_
        refine lv_aload_n hx hb dX1_fitsBetter_73 rfl (lv_at hl 2 rfl) ?_
        refine va_get (D := G.1) (ci := 1) (v := .ref a2) (C := RX1) (T := TX1) (N := 12) hx hb hts mic_fitsBetter_1 hown hK hP 0 rfl rfl 1 (by decide) (hts _ mwc_fitsBetter_0) (fun _ h9 => h9) rfl dX1_fitsBetter_74 ?_
        refine lv_iload_n hx hb dX1_fitsBetter_77 rfl (lv_at hl 4 rfl) ?_
        refine lv_iconst (v := nI 0) hx hb dX1_fitsBetter_78 (by decide) ?_
        refine zk_add hx hb dX1_fitsBetter_79 ?_
        refine zk_ald (f := sc) (k := (e * 5 * 16 + f * 16) + 0) hx hb hK hP 2 0 rfl rfl (Nat.le_of_ble_eq_true rfl) (by omega) dX1_fitsBetter_80 ?_
        refine zk_top (y := nI (sg (11 + 76 * e + 15 * f + 0))) (congrArg nI ((congrArg sc (by omega)).trans (hR.2 e f he (by omega)).1)) ?_
        refine zk_ige (tgt := 88) hx hb dX1_fitsBetter_81 (by decide) (by omega) (by omega) (fun c81 => ?_) (fun c81 => ?_)
        · refine lv_iconst (v := nI 0) hx hb dX1_fitsBetter_88 (by decide) ?_
          exact W.zret (ty := .boolean) (v := nI 0) hx hb hr (rfl) (fun tT ht hW => ⟨_, rfl, Or.inr ⟨by unfold fbP; omega, rfl⟩, ht⟩) (fun _ h => absurd h List.not_mem_nil) dX1_fitsBetter_89
        · refine lv_iconst (v := nI 1) hx hb dX1_fitsBetter_84 (by decide) ?_
          refine lv_goto (tgt := 89) hx hb dX1_fitsBetter_85 (by decide) ?_
          exact W.zret (ty := .boolean) (v := nI 1) hx hb hr (rfl) (fun tT ht hW => ⟨_, rfl, Or.inl ⟨by unfold fbP; omega, rfl⟩, ht⟩) (fun _ h => absurd h List.not_mem_nil) dX1_fitsBetter_89
      · refine lv_iload hx hb dX1_fitsBetter_52 (lv_at hl 1 rfl) ?_
        refine lv_iload hx hb dX1_fitsBetter_54 (lv_at hl 0 rfl) ?_
        refine zk_ile (tgt := 63) hx hb dX1_fitsBetter_56 (by decide) (by omega) (by omega) (fun c56 => ?_) (fun c56 => ?_)
        · refine lv_iconst (v := nI 0) hx hb dX1_fitsBetter_63 (by decide) ?_
          exact W.zret (ty := .boolean) (v := nI 0) hx hb hr (rfl) (fun tT ht hW => ⟨_, rfl, Or.inr ⟨by unfold fbP; omega, rfl⟩, ht⟩) (fun _ h => absurd h List.not_mem_nil) dX1_fitsBetter_64
        · refine lv_iconst (v := nI 1) hx hb dX1_fitsBetter_59 (by decide) ?_
          refine lv_goto (tgt := 64) hx hb dX1_fitsBetter_60 (by decide) ?_
          exact W.zret (ty := .boolean) (v := nI 1) hx hb hr (rfl) (fun tT ht hW => ⟨_, rfl, Or.inl ⟨by unfold fbP; omega, rfl⟩, ht⟩) (fun _ h => absurd h List.not_mem_nil) dX1_fitsBetter_64
    · refine lv_iload hx hb dX1_fitsBetter_32 (lv_at hl 1 rfl) ?_
      refine lv_iload hx hb dX1_fitsBetter_34 (lv_at hl 0 rfl) ?_
      refine zk_ige (tgt := 43) hx hb dX1_fitsBetter_36 (by decide) (by omega) (by omega) (fun c36 => ?_) (fun c36 => ?_)
      · refine lv_iconst (v := nI 0) hx hb dX1_fitsBetter_43 (by decide) ?_
        exact W.zret (ty := .boolean) (v := nI 0) hx hb hr (rfl) (fun tT ht hW => ⟨_, rfl, Or.inr ⟨by unfold fbP; omega, rfl⟩, ht⟩) (fun _ h => absurd h List.not_mem_nil) dX1_fitsBetter_44
      · refine lv_iconst (v := nI 1) hx hb dX1_fitsBetter_39 (by decide) ?_
        refine lv_goto (tgt := 44) hx hb dX1_fitsBetter_40 (by decide) ?_
        exact W.zret (ty := .boolean) (v := nI 1) hx hb hr (rfl) (fun tT ht hW => ⟨_, rfl, Or.inl ⟨by unfold fbP; omega, rfl⟩, ht⟩) (fun _ h => absurd h List.not_mem_nil) dX1_fitsBetter_44
set_option maxRecDepth 100000 in
theorem mwc_textFor_0 : Cond.initialized RX2 ∈ wsX1_textFor := by decide +kernel
set_option maxRecDepth 100000 in
theorem mwc_textFor_1 : Cond.static yX2_isExhibit ∈ wsX1_textFor := by decide +kernel
set_option maxRecDepth 100000 in
theorem mwc_textFor_2 : Cond.fieldLink RX1 9 "ExhibitTexts$State" "sizes" "[I" ∈ wsX1_textFor := by decide +kernel
set_option maxRecDepth 100000 in
theorem mic_textFor_1 : ∀ w ∈ u_ws RX1 TX1 12, w ∈ wsX1_textFor := by decide +kernel
set_option maxHeartbeats 4000000 in
set_option maxRecDepth 100000 in
/-- X1_textFor: the text that an age is shown -/
theorem c_textFor (l : Launch) (G : zG) (a0 : Nat) (a1 : Nat) (a2 : Nat) (sz : Nat → Nat) (sc : Nat → Nat) (sg : Nat → Nat) (e : Nat) (ag : Nat) (hM : mOK sg) (hR : sRel sz sc sg) (he : e < 8) (hag : ag ≤ 99) : Met l yX1_textFor wsX1_textFor ({ frames := 1, cells := 0, slots := 0, locals := 25 } : Room) (zPc G [.ref a0, .int (nI e), .int (nI ag)] [(a0, .inr (1, [.ref a1, .ref a2, .int (nI (sg 0)), .int (nI (sg 1)), .int (nI (sg 7)), .int (nI (sg 8)), .int (nI (sg 9)), .int (nI (sg 2)), .int (nI (sg 3)), .int (nI (sg 4)), .int (nI (sg 5)), .int (nI (sg 6))])), (a1, .inl (G.2.1, 8, .inl (arN sz))), (a2, .inl (G.2.1, 640, .inl (arN sc)))]) (vp_Si (fun (rR : Int32) => (shT sg e ag = none ∧ rR = (-5)) ∨ (∃ (tX : Nat), shT sg e ag = some tX ∧ rR = nI tX))) 0 0 (fun _ => False) := by
  refine zR (cc := cX1_textFor) (maxL := 6) (ret := (some .int)) (by decide) rfl (Nat.le_of_ble_eq_true rfl) ?_
  intro pP eE sS mM below meth cC hx hb hr hts hown hlk hml hK hN hP hD ls hl
  have hl : lv_has ls 6 [(0, .ref a0), (1, .int (nI e)), (2, .int (nI ag))] := hl
  have hz5 := hM.2.1 e he
  refine lv_iload_n hx hb dX1_textFor_0 rfl (lv_at hl 1 rfl) ?_
  refine zc_SN (As := [.int (nI e)]) (rest := []) ⟨hx, hb, hml, hown, hts⟩ (c_xExhibit_n l e (by omega)) ⟨va_cnB 1 hts gX1_textFor_X2_isExhibit_n56 rfl rfl rfl hN.X1_X2_isExhibit (hts _ mwc_textFor_0) (by decide +kernel) ⟨Nat.le_of_ble_eq_true rfl, Nat.le_of_ble_eq_true rfl⟩, hts _ mwc_textFor_1, trivial⟩ rfl hl.1 rfl (Nat.le_of_ble_eq_true rfl) dX1_textFor_1 ⟨Nat.zero_le _, Nat.zero_le _⟩ (fun r1 h1 => ?_)
  subst h1
  refine lv_if_eq (tgt := 16) hx hb dX1_textFor_4 (by decide) (fun q => absurd q (by decide)) (fun _ => ?_)
  refine lv_aload_n hx hb dX1_textFor_7 rfl (lv_at hl 0 rfl) ?_
  refine va_get (D := G.1) (ci := 1) (v := .ref a1) (C := RX1) (T := TX1) (N := 12) hx hb hts mic_textFor_1 hown hK hP 0 rfl rfl 0 (by decide) (hts _ mwc_textFor_2) (fun _ h9 => h9) rfl dX1_textFor_8 ?_
  refine lv_iload_n hx hb dX1_textFor_11 rfl (lv_at hl 1 rfl) ?_
  refine zk_ald (f := sz) (k := e) hx hb hK hP 1 0 rfl rfl (Nat.le_of_ble_eq_true rfl) (by omega) dX1_textFor_12 ?_
  refine zk_top (y := nI (sg (10 + 76 * e))) (congrArg nI (hR.1 e he)) ?_
  refine zk_zne (tgt := 19) hx hb dX1_textFor_13 (by decide) (by omega) (fun c13 => ?_) (fun c13 => ?_)
  · refine lv_iload_n hx hb dX1_textFor_19 rfl (lv_at hl 1 rfl) ?_
    refine lv_iconst (v := nI 5) hx hb dX1_textFor_20 (by decide) ?_
    refine zk_mul hx hb dX1_textFor_21 ?_
    refine lv_bipush (v := nI 16) hx hb dX1_textFor_22 (by decide) ?_
    refine zk_mul hx hb dX1_textFor_24 ?_
    refine lv_istore_n (lv' := [(3, .int (nI ((e * 5) * 16))), (0, .ref a0), (1, .int (nI e)), (2, .int (nI ag))]) hx hb dX1_textFor_25 rfl hl (by decide) rfl (fun ls hl => ?_)
    refine lv_iconst (v := nI 0) hx hb dX1_textFor_26 (by decide) ?_
    refine lv_istore (lv' := [(4, .int (nI 0)), (3, .int (nI ((e * 5) * 16))), (0, .ref a0), (1, .int (nI e)), (2, .int (nI ag))]) hx hb dX1_textFor_27 hl (by decide) rfl (fun ls hl => ?_)
    refine lv_iconst (v := nI 1) hx hb dX1_textFor_29 (by decide) ?_
    refine lv_istore (lv' := [(5, .int (nI 1)), (4, .int (nI 0)), (3, .int (nI ((e * 5) * 16))), (0, .ref a0), (1, .int (nI e)), (2, .int (nI ag))]) hx hb dX1_textFor_30 hl (by decide) rfl (fun ls hl => ?_)
    have lp32 : ∀ (fu32 : Nat), ∀ (kX : Nat) (bX : Nat) (ls : Array Slot), (sg (10 + 76 * e) - kX) < fu32 → (1 ≤ kX) → (kX ≤ sg (10 + 76 * e)) → (bX < kX) → (shA (rdg sg e) (wdF sg e) ag kX = some bX) → lv_has ls 6 [(0, .ref a0), (1, .int (nI e)), (2, .int (nI ag)), (3, .int (nI ((e * 5) * 16))), (4, .int (nI bX)), (5, .int (nI kX))] → W pP l eE (headSpec wsX1_textFor ({ frames := 1, cells := 0, slots := 0, locals := 25 } : Room)).room sS mM ([.ref a0, .int (nI e), .int (nI ag)] : List Value).toArray below meth cC sS.heap [] 0 0 (MQ below (vp_Si (fun (rR : Int32) => (shT sg e ag = none ∧ rR = (-5)) ∨ (∃ (tX : Nat), shT sg e ag = some tX ∧ rR = nI tX))) ([.ref a0, .int (nI e), .int (nI ag)] : List Value).toArray sS 0 0 (fun _ => False)) (F0 mM 32 ls []) := by
      intro fu32
      induction fu32 with
      | zero => intro kX bX ls hfu32; exact absurd hfu32 (Nat.not_lt_zero _)
      | succ fu32 ih32 =>
        intro kX bX ls hfu32 hk1 hk hbk hsh hl
        refine lv_iload hx hb dX1_textFor_32 (lv_at hl 5 rfl) ?_
        refine lv_aload_n hx hb dX1_textFor_34 rfl (lv_at hl 0 rfl) ?_
        refine va_get (D := G.1) (ci := 1) (v := .ref a1) (C := RX1) (T := TX1) (N := 12) hx hb hts mic_textFor_1 hown hK hP 0 rfl rfl 0 (by decide) (hts _ mwc_textFor_2) (fun _ h9 => h9) rfl dX1_textFor_35 ?_
        refine lv_iload_n hx hb dX1_textFor_38 rfl (lv_at hl 1 rfl) ?_
        refine zk_ald (f := sz) (k := e) hx hb hK hP 1 0 rfl rfl (Nat.le_of_ble_eq_true rfl) (by omega) dX1_textFor_39 ?_
        refine zk_top (y := nI (sg (10 + 76 * e))) (congrArg nI (hR.1 e he)) ?_
        refine zk_ige (tgt := 75) hx hb dX1_textFor_40 (by decide) (by omega) (by omega) (fun c40 => ?_) (fun c40 => ?_)
        · refine lv_iload hx hb dX1_textFor_75 (lv_at hl 4 rfl) ?_
          exact W.iret (v := nI bX) hx hb hr (fun tT ht hW => ⟨_, rfl, Or.inr ⟨bX, by unfold shT; rw [show sg (10 + 76 * e) = kX from by omega]; exact hsh, rfl⟩, ht⟩) (fun _ h => absurd h List.not_mem_nil) dX1_textFor_77
        · refine lv_aload_n hx hb dX1_textFor_43 rfl (lv_at hl 0 rfl) ?_
          refine lv_iload_n hx hb dX1_textFor_44 rfl (lv_at hl 3 rfl) ?_
          refine lv_iload hx hb dX1_textFor_45 (lv_at hl 5 rfl) ?_
          refine lv_bipush (v := nI 16) hx hb dX1_textFor_47 (by decide) ?_
          refine zk_mul hx hb dX1_textFor_49 ?_
          refine zk_add hx hb dX1_textFor_50 ?_
          refine lv_iload_n hx hb dX1_textFor_51 rfl (lv_at hl 3 rfl) ?_
          refine lv_iload hx hb dX1_textFor_52 (lv_at hl 4 rfl) ?_
          refine lv_bipush (v := nI 16) hx hb dX1_textFor_54 (by decide) ?_
          refine zk_mul hx hb dX1_textFor_56 ?_
          refine zk_add hx hb dX1_textFor_57 ?_
          refine lv_iload_n hx hb dX1_textFor_58 rfl (lv_at hl 2 rfl) ?_
          refine zc_R (As := [.int (nI (((e * 5) * 16) + (kX * 16))), .int (nI (((e * 5) * 16) + (bX * 16))), .int (nI ag)]) (rest := []) ⟨hx, hb, hml, hown, hts⟩ (c_fitsBetter l G a0 a1 a2 sz sc sg e kX bX ag (by omega) (by omega) (by omega) (by omega) (by omega) (by omega)) (cwV 3 hts gX1_textFor_X1_fitsBetter rfl rfl rfl (by decide +kernel) ⟨Nat.le_of_ble_eq_true rfl, Nat.le_of_ble_eq_true rfl⟩) hK hN hP hD [0, 1, 2] rfl (by decide) (ci := 1) rfl rfl rfl hl.1 rfl (Nat.le_of_ble_eq_true rfl) dX1_textFor_59 ⟨Nat.zero_le _, Nat.zero_le _⟩ (fun r59 h59 => ?_)
          rcases h59 with ⟨h59_0, rfl⟩ | ⟨h59_0, rfl⟩
          · refine lv_if_eq (tgt := 69) hx hb dX1_textFor_62 (by decide) (fun q => absurd q (by decide)) (fun _ => ?_)
            refine lv_iload hx hb dX1_textFor_65 (lv_at hl 5 rfl) ?_
            refine lv_istore (lv' := [(4, .int (nI kX)), (0, .ref a0), (1, .int (nI e)), (2, .int (nI ag)), (3, .int (nI ((e * 5) * 16))), (5, .int (nI kX))]) hx hb dX1_textFor_67 hl (by decide) rfl (fun ls hl => ?_)
            refine zk_inc (a := kX) (d := 1) (lv' := [(5, .int (nI (kX + 1))), (4, .int (nI kX)), (0, .ref a0), (1, .int (nI e)), (2, .int (nI ag)), (3, .int (nI ((e * 5) * 16)))]) hx hb dX1_textFor_69 hl (K := 5) rfl (by decide) (by decide) rfl (fun ls hl => ?_)
            refine lv_goto (tgt := 32) hx hb dX1_textFor_72 (by decide) ?_
            exact ih32 (kX + 1) kX _ (by omega) (by omega) (by omega) (by omega) (shA_y hsh h59_0) (lv_sub hl [2, 3, 4, 5, 1, 0] rfl)
          · refine lv_if_eq (tgt := 69) hx hb dX1_textFor_62 (by decide) (fun _ => ?_) (fun q => absurd (by decide) q)
            refine zk_inc (a := kX) (d := 1) (lv' := [(5, .int (nI (kX + 1))), (0, .ref a0), (1, .int (nI e)), (2, .int (nI ag)), (3, .int (nI ((e * 5) * 16))), (4, .int (nI bX))]) hx hb dX1_textFor_69 hl (K := 5) rfl (by decide) (by decide) rfl (fun ls hl => ?_)
            refine lv_goto (tgt := 32) hx hb dX1_textFor_72 (by decide) ?_
            exact ih32 (kX + 1) bX _ (by omega) (by omega) (by omega) (by omega) (shA_n hsh h59_0) (lv_sub hl [1, 2, 3, 4, 5, 0] rfl)
    exact lp32 _ 1 0 _ (Nat.lt_succ_self _) (by omega) (by omega) (by omega) shA_1 (lv_sub hl [3, 4, 5, 2, 1, 0] rfl)
  · refine lv_bipush (v := (-5)) hx hb dX1_textFor_16 (by decide) ?_
    exact W.iret (v := (-5)) hx hb hr (fun tT ht hW => ⟨_, rfl, Or.inl ⟨by unfold shT; rw [c13]; rfl, rfl⟩, ht⟩) (fun _ h => absurd h List.not_mem_nil) dX1_textFor_18
set_option maxRecDepth 100000 in
theorem mwc_shownRow_0 : Cond.fieldLink RX1 40 "ExhibitTexts$State" "hasVisitor" "Z" ∈ wsX1_shownRow := by decide +kernel
set_option maxRecDepth 100000 in
theorem mic_shownRow_1 : ∀ w ∈ u_ws RX1 TX1 12, w ∈ wsX1_shownRow := by decide +kernel
set_option maxRecDepth 100000 in
theorem mwc_shownRow_2 : Cond.fieldLink RX1 28 "ExhibitTexts$State" "standsAt" "I" ∈ wsX1_shownRow := by decide +kernel
set_option maxRecDepth 100000 in
theorem mwc_shownRow_3 : Cond.fieldLink RX1 44 "ExhibitTexts$State" "age" "I" ∈ wsX1_shownRow := by decide +kernel
set_option maxHeartbeats 4000000 in
set_option maxRecDepth 100000 in
/-- X1_shownRow: the row that the visitor is shown -/
theorem c_shownRow (l : Launch) (G : zG) (a0 : Nat) (a1 : Nat) (a2 : Nat) (sz : Nat → Nat) (sc : Nat → Nat) (sg : Nat → Nat) (hM : mOK sg) (hR : sRel sz sc sg) : Met l yX1_shownRow wsX1_shownRow ({ frames := 2, cells := 0, slots := 0, locals := 50 } : Room) (zPc G [.ref a0] [(a0, .inr (1, [.ref a1, .ref a2, .int (nI (sg 0)), .int (nI (sg 1)), .int (nI (sg 7)), .int (nI (sg 8)), .int (nI (sg 9)), .int (nI (sg 2)), .int (nI (sg 3)), .int (nI (sg 4)), .int (nI (sg 5)), .int (nI (sg 6))])), (a1, .inl (G.2.1, 8, .inl (arN sz))), (a2, .inl (G.2.1, 640, .inl (arN sc)))]) (vp_Si (fun (rR : Int32) => (sN sg = none ∧ rR = (-5)) ∨ (∃ (tX : Nat), sN sg = some tX ∧ rR = nI ((sg 0 * 5 + tX) * 16)))) 0 0 (fun _ => False) := by
  refine zR (cc := cX1_shownRow) (maxL := 2) (ret := (some .int)) (by decide) rfl (Nat.le_of_ble_eq_true rfl) ?_
  intro pP eE sS mM below meth cC hx hb hr hts hown hlk hml hK hN hP hD ls hl
  have hl : lv_has ls 2 [(0, .ref a0)] := hl
  have h00 := hM.1.1
  have hv := hM.1.2.2.1
  have hz5 := hM.2.1 _ h00
  refine lv_aload_n hx hb dX1_shownRow_0 rfl (lv_at hl 0 rfl) ?_
  refine va_get (D := G.1) (ci := 1) (v := .int (nI (sg 2))) (C := RX1) (T := TX1) (N := 12) hx hb hts mic_shownRow_1 hown hK hP 0 rfl rfl 7 (by decide) (hts _ mwc_shownRow_0) (fun _ h9 => h9) rfl dX1_shownRow_1 ?_
  refine zk_zne (tgt := 10) hx hb dX1_shownRow_4 (by decide) (by omega) (fun c4 => ?_) (fun c4 => ?_)
  · refine lv_aload_n hx hb dX1_shownRow_10 rfl (lv_at hl 0 rfl) ?_
    refine lv_aload_n hx hb dX1_shownRow_11 rfl (lv_at hl 0 rfl) ?_
    refine va_get (D := G.1) (ci := 1) (v := .int (nI (sg 0))) (C := RX1) (T := TX1) (N := 12) hx hb hts mic_shownRow_1 hown hK hP 0 rfl rfl 2 (by decide) (hts _ mwc_shownRow_2) (fun _ h9 => h9) rfl dX1_shownRow_12 ?_
    refine lv_aload_n hx hb dX1_shownRow_15 rfl (lv_at hl 0 rfl) ?_
    refine va_get (D := G.1) (ci := 1) (v := .int (nI (sg 3))) (C := RX1) (T := TX1) (N := 12) hx hb hts mic_shownRow_1 hown hK hP 0 rfl rfl 8 (by decide) (hts _ mwc_shownRow_3) (fun _ h9 => h9) rfl dX1_shownRow_16 ?_
    refine zc_R (As := [.int (nI (sg 0)), .int (nI (sg 3))]) (rest := []) ⟨hx, hb, hml, hown, hts⟩ (c_textFor l G a0 a1 a2 sz sc sg (sg 0) (sg 3) (by omega) (by omega) h00 (by have := (hM.1.2.2.2.1 (by omega)).1; omega)) (cwV 2 hts gX1_shownRow_X1_textFor rfl rfl rfl (by decide +kernel) ⟨Nat.le_of_ble_eq_true rfl, Nat.le_of_ble_eq_true rfl⟩) hK hN hP hD [0, 1, 2] rfl (by decide) (ci := 1) rfl rfl rfl hl.1 rfl (Nat.le_of_ble_eq_true rfl) dX1_shownRow_19 ⟨Nat.zero_le _, Nat.zero_le _⟩ (fun r19 h19 => ?_)
    rcases h19 with ⟨h19_0, rfl⟩ | ⟨tX_19, h19_0, rfl⟩
    · refine lv_istore_n (lv' := [(1, .int (-5)), (0, .ref a0)]) hx hb dX1_shownRow_22 rfl hl (by decide) rfl (fun ls hl => ?_)
      refine lv_iload_n hx hb dX1_shownRow_23 rfl (lv_at hl 0 rfl) ?_
      refine lv_bipush (v := (-5)) hx hb dX1_shownRow_24 (by decide) ?_
      refine lv_icmp_ne (tgt := 34) hx hb dX1_shownRow_26 (by decide) (fun q => absurd (by decide) q) (fun _ => ?_)
      refine lv_bipush (v := (-5)) hx hb dX1_shownRow_29 (by decide) ?_
      refine lv_goto (tgt := 43) hx hb dX1_shownRow_31 (by decide) ?_
      exact W.iret (v := (-5)) hx hb hr (fun tT ht hW => ⟨_, rfl, Or.inl ⟨(if_neg (by omega)).trans h19_0, rfl⟩, ht⟩) (fun _ h => absurd h List.not_mem_nil) dX1_shownRow_43
    · have hlt := shA_lt h19_0
      refine lv_istore_n (lv' := [(1, .int (nI tX_19)), (0, .ref a0)]) hx hb dX1_shownRow_22 rfl hl (by decide) rfl (fun ls hl => ?_)
      refine lv_iload_n hx hb dX1_shownRow_23 rfl (lv_at hl 0 rfl) ?_
      refine lv_bipush (v := (-5)) hx hb dX1_shownRow_24 (by decide) ?_
      refine lv_icmp_ne (tgt := 34) hx hb dX1_shownRow_26 (by decide) (fun _ => ?_) (fun q => absurd q (enc_ne (by omega)))
      refine lv_aload_n hx hb dX1_shownRow_34 rfl (lv_at hl 1 rfl) ?_
      refine lv_aload_n hx hb dX1_shownRow_35 rfl (lv_at hl 1 rfl) ?_
      refine va_get (D := G.1) (ci := 1) (v := .int (nI (sg 0))) (C := RX1) (T := TX1) (N := 12) hx hb hts mic_shownRow_1 hown hK hP 0 rfl rfl 2 (by decide) (hts _ mwc_shownRow_2) (fun _ h9 => h9) rfl dX1_shownRow_36 ?_
      refine lv_iload_n hx hb dX1_shownRow_39 rfl (lv_at hl 0 rfl) ?_
      refine zc_R (As := [.int (nI (sg 0)), .int (nI tX_19)]) (rest := []) ⟨hx, hb, hml, hown, hts⟩ (c_rowOf_n l G a0 a1 a2 sz sc sg (sg 0) tX_19 (by omega) (by omega) h00 hlt) (cwV 2 hts gX1_shownRow_X1_rowOf rfl rfl rfl (by decide +kernel) ⟨Nat.le_of_ble_eq_true rfl, Nat.le_of_ble_eq_true rfl⟩) hK hN hP hD [0, 1, 2] rfl (by decide) (ci := 1) rfl rfl rfl hl.1 rfl (Nat.le_of_ble_eq_true rfl) dX1_shownRow_40 ⟨Nat.zero_le _, Nat.zero_le _⟩ (fun r40 h40 => ?_)
      subst h40
      exact W.iret (v := nI (((sg 0) * 5 + tX_19) * 16)) hx hb hr (fun tT ht hW => ⟨_, rfl, Or.inr ⟨tX_19, (if_neg (by omega)).trans h19_0, rfl⟩, ht⟩) (fun _ h => absurd h List.not_mem_nil) dX1_shownRow_43
  · refine lv_bipush (v := (-5)) hx hb dX1_shownRow_7 (by decide) ?_
    exact W.iret (v := (-5)) hx hb hr (fun tT ht hW => ⟨_, rfl, Or.inl ⟨if_pos c4, rfl⟩, ht⟩) (fun _ h => absurd h List.not_mem_nil) dX1_shownRow_9
set_option maxRecDepth 100000 in
theorem mwc_factsFor_0 : Cond.fieldLink RX1 15 "ExhibitTexts$State" "cells" "[I" ∈ wsX1_factsFor := by decide +kernel
set_option maxRecDepth 100000 in
theorem mic_factsFor_1 : ∀ w ∈ u_ws RX1 TX1 12, w ∈ wsX1_factsFor := by decide +kernel
set_option maxHeartbeats 4000000 in
set_option maxRecDepth 100000 in
/-- X1_factsFor: the facts that an age is shown -/
theorem c_factsFor (l : Launch) (G : zG) (a0 : Nat) (a1 : Nat) (a2 : Nat) (sz : Nat → Nat) (sc : Nat → Nat) (sg : Nat → Nat) (ag : Nat) (hM : mOK sg) (hR : sRel sz sc sg) (hag : ag ≤ 99) : Met l yX1_factsFor wsX1_factsFor ({ frames := 2, cells := 0, slots := 0, locals := 50 } : Room) (zPc G [.ref a0, .int (nI ag)] [(a0, .inr (1, [.ref a1, .ref a2, .int (nI (sg 0)), .int (nI (sg 1)), .int (nI (sg 7)), .int (nI (sg 8)), .int (nI (sg 9)), .int (nI (sg 2)), .int (nI (sg 3)), .int (nI (sg 4)), .int (nI (sg 5)), .int (nI (sg 6))])), (a1, .inl (G.2.1, 8, .inl (arN sz))), (a2, .inl (G.2.1, 640, .inl (arN sc)))]) (vp_Si (fun (rR : Int32) => rR = nI (metF (fun e => shT sg e ag) (atF sg 3) 8))) 0 0 (fun _ => False) := by
  refine zR (cc := cX1_factsFor) (maxL := 5) (ret := (some .int)) (by decide) rfl (Nat.le_of_ble_eq_true rfl) ?_
  intro pP eE sS mM below meth cC hx hb hr hts hown hlk hml hK hN hP hD ls hl
  have hl : lv_has ls 5 [(0, .ref a0), (1, .int (nI ag))] := hl
  refine lv_iconst (v := nI 0) hx hb dX1_factsFor_0 (by decide) ?_
  refine lv_istore_n (lv' := [(2, .int (nI 0)), (0, .ref a0), (1, .int (nI ag))]) hx hb dX1_factsFor_1 rfl hl (by decide) rfl (fun ls hl => ?_)
  refine lv_iconst (v := nI 0) hx hb dX1_factsFor_2 (by decide) ?_
  refine lv_istore_n (lv' := [(3, .int (nI 0)), (2, .int (nI 0)), (0, .ref a0), (1, .int (nI ag))]) hx hb dX1_factsFor_3 rfl hl (by decide) rfl (fun ls hl => ?_)
  have lp4 : ∀ (fu4 : Nat), ∀ (kX : Nat) (ls : Array Slot), (8 - kX) < fu4 → (kX ≤ 8) → lv_has ls 5 [(0, .ref a0), (1, .int (nI ag)), (2, .int (nI (metF (fun e => shT sg e ag) (atF sg 3) kX))), (3, .int (nI kX))] → W pP l eE (headSpec wsX1_factsFor ({ frames := 2, cells := 0, slots := 0, locals := 50 } : Room)).room sS mM ([.ref a0, .int (nI ag)] : List Value).toArray below meth cC sS.heap [] 0 0 (MQ below (vp_Si (fun (rR : Int32) => rR = nI (metF (fun e => shT sg e ag) (atF sg 3) 8))) ([.ref a0, .int (nI ag)] : List Value).toArray sS 0 0 (fun _ => False)) (F0 mM 4 ls []) := by
    intro fu4
    induction fu4 with
    | zero => intro kX ls hfu4; exact absurd hfu4 (Nat.not_lt_zero _)
    | succ fu4 ih4 =>
      intro kX ls hfu4 hk hl
      refine lv_iload_n hx hb dX1_factsFor_4 rfl (lv_at hl 3 rfl) ?_
      refine lv_bipush (v := nI 8) hx hb dX1_factsFor_5 (by decide) ?_
      refine zk_ige (tgt := 46) hx hb dX1_factsFor_7 (by decide) (by omega) (by omega) (fun c7 => ?_) (fun c7 => ?_)
      · have hk9 : kX = 8 := by omega
        subst hk9
        refine lv_iload_n hx hb dX1_factsFor_46 rfl (lv_at hl 2 rfl) ?_
        exact W.iret (v := nI (metF (fun e => shT sg e ag) (atF sg 3) 8)) hx hb hr (fun tT ht hW => ⟨_, rfl, rfl, ht⟩) (fun _ h => absurd h List.not_mem_nil) dX1_factsFor_47
      · have hz := hM.2.1 kX (by omega)
        refine lv_aload_n hx hb dX1_factsFor_10 rfl (lv_at hl 0 rfl) ?_
        refine lv_iload_n hx hb dX1_factsFor_11 rfl (lv_at hl 3 rfl) ?_
        refine lv_aload_n hx hb dX1_factsFor_12 rfl (lv_at hl 0 rfl) ?_
        refine lv_iload_n hx hb dX1_factsFor_13 rfl (lv_at hl 3 rfl) ?_
        refine lv_iload_n hx hb dX1_factsFor_14 rfl (lv_at hl 1 rfl) ?_
        refine zc_R (As := [.int (nI kX), .int (nI ag)]) (rest := [.int (nI kX), .ref a0]) ⟨hx, hb, hml, hown, hts⟩ (c_textFor l G a0 a1 a2 sz sc sg kX ag (by omega) (by omega) (by omega) (by omega)) (cwV 2 hts gX1_factsFor_X1_textFor rfl rfl rfl (by decide +kernel) ⟨Nat.le_of_ble_eq_true rfl, Nat.le_of_ble_eq_true rfl⟩) hK hN hP hD [0, 1, 2] rfl (by decide) (ci := 1) rfl rfl rfl hl.1 rfl (Nat.le_of_ble_eq_true rfl) dX1_factsFor_15 ⟨Nat.zero_le _, Nat.zero_le _⟩ (fun r15 h15 => ?_)
        rcases h15 with ⟨h15_0, rfl⟩ | ⟨tX_15, h15_0, rfl⟩
        · refine zc_R (As := [.int (nI kX), .int (-5)]) (rest := []) ⟨hx, hb, hml, hown, hts⟩ (c_rowOf_m l G a0 a1 a2 sz sc sg kX (by omega) (by omega) (by omega)) (cwV 2 hts gX1_factsFor_X1_rowOf rfl rfl rfl (by decide +kernel) ⟨Nat.le_of_ble_eq_true rfl, Nat.le_of_ble_eq_true rfl⟩) hK hN hP hD [0, 1, 2] rfl (by decide) (ci := 1) rfl rfl rfl hl.1 rfl (Nat.le_of_ble_eq_true rfl) dX1_factsFor_18 ⟨Nat.zero_le _, Nat.zero_le _⟩ (fun r18 h18 => ?_)
          subst h18
          refine lv_istore (lv' := [(4, .int (-1)), (0, .ref a0), (1, .int (nI ag)), (2, .int (nI (metF (fun e => shT sg e ag) (atF sg 3) kX))), (3, .int (nI kX))]) hx hb dX1_factsFor_21 hl (by decide) rfl (fun ls hl => ?_)
          refine lv_iload hx hb dX1_factsFor_23 (lv_at hl 0 rfl) ?_
          refine lv_if_lt (tgt := 40) hx hb dX1_factsFor_25 (by decide) (fun _ => ?_) (fun q => absurd (by decide) q)
          refine zk_inc (a := kX) (d := 1) (lv' := [(3, .int (nI (kX + 1))), (4, .int (-1)), (0, .ref a0), (1, .int (nI ag)), (2, .int (nI (metF (fun e => shT sg e ag) (atF sg 3) kX)))]) hx hb dX1_factsFor_40 hl (K := 4) rfl (by decide) (by decide) rfl (fun ls hl => ?_)
          refine lv_goto (tgt := 4) hx hb dX1_factsFor_43 (by decide) ?_
          have hme : metF (fun e => shT sg e ag) (atF sg 3) (kX + 1) = metF (fun e => shT sg e ag) (atF sg 3) kX := by show metF (fun e => shT sg e ag) (atF sg 3) kX ||| (match shT sg kX ag with | none => 0 | some t => atF sg 3 kX t) = _; rw [h15_0]; exact Nat.or_zero _
          exact ih4 (kX + 1) _ (by omega) (by omega) (by rw [hme]; exact lv_sub hl [2, 3, 4, 0] rfl)
        · have hlt := shA_lt h15_0
          refine zc_R (As := [.int (nI kX), .int (nI tX_15)]) (rest := []) ⟨hx, hb, hml, hown, hts⟩ (c_rowOf_n l G a0 a1 a2 sz sc sg kX tX_15 (by omega) (by omega) (by omega) hlt) (cwV 2 hts gX1_factsFor_X1_rowOf rfl rfl rfl (by decide +kernel) ⟨Nat.le_of_ble_eq_true rfl, Nat.le_of_ble_eq_true rfl⟩) hK hN hP hD [0, 1, 2] rfl (by decide) (ci := 1) rfl rfl rfl hl.1 rfl (Nat.le_of_ble_eq_true rfl) dX1_factsFor_18 ⟨Nat.zero_le _, Nat.zero_le _⟩ (fun r18 h18 => ?_)
          subst h18
          refine lv_istore (lv' := [(4, .int (nI ((kX * 5 + tX_15) * 16))), (0, .ref a0), (1, .int (nI ag)), (2, .int (nI (metF (fun e => shT sg e ag) (atF sg 3) kX))), (3, .int (nI kX))]) hx hb dX1_factsFor_21 hl (by decide) rfl (fun ls hl => ?_)
          refine lv_iload hx hb dX1_factsFor_23 (lv_at hl 0 rfl) ?_
          refine zk_zlt (tgt := 40) hx hb dX1_factsFor_25 (by decide) (by omega) ?_
          refine lv_iload_n hx hb dX1_factsFor_28 rfl (lv_at hl 3 rfl) ?_
          refine lv_aload_n hx hb dX1_factsFor_29 rfl (lv_at hl 1 rfl) ?_
          refine va_get (D := G.1) (ci := 1) (v := .ref a2) (C := RX1) (T := TX1) (N := 12) hx hb hts mic_factsFor_1 hown hK hP 0 rfl rfl 1 (by decide) (hts _ mwc_factsFor_0) (fun _ h9 => h9) rfl dX1_factsFor_30 ?_
          refine lv_iload hx hb dX1_factsFor_33 (lv_at hl 0 rfl) ?_
          refine lv_iconst (v := nI 3) hx hb dX1_factsFor_35 (by decide) ?_
          refine zk_add hx hb dX1_factsFor_36 ?_
          refine zk_ald (f := sc) (k := ((kX * 5 + tX_15) * 16) + 3) hx hb hK hP 2 0 rfl rfl (Nat.le_of_ble_eq_true rfl) (by omega) dX1_factsFor_37 ?_
          refine zk_top (y := nI (sg (11 + 76 * kX + 15 * tX_15 + 3))) (congrArg nI (hR.2 kX tX_15 (by omega) hlt).2.2.2.1) ?_
          refine zk_or hx hb dX1_factsFor_38 ?_
          refine zk_top (y := nI (metF (fun e => shT sg e ag) (atF sg 3) (kX + 1))) (congrArg nI (by show _ = metF (fun e => shT sg e ag) (atF sg 3) kX ||| (match shT sg kX ag with | none => 0 | some t => atF sg 3 kX t); rw [h15_0] <;> rfl)) ?_
          refine lv_istore_n (lv' := [(2, .int (nI (metF (fun e => shT sg e ag) (atF sg 3) (kX + 1)))), (4, .int (nI ((kX * 5 + tX_15) * 16))), (0, .ref a0), (1, .int (nI ag)), (3, .int (nI kX))]) hx hb dX1_factsFor_39 rfl hl (by decide) rfl (fun ls hl => ?_)
          refine zk_inc (a := kX) (d := 1) (lv' := [(3, .int (nI (kX + 1))), (2, .int (nI (metF (fun e => shT sg e ag) (atF sg 3) (kX + 1)))), (4, .int (nI ((kX * 5 + tX_15) * 16))), (0, .ref a0), (1, .int (nI ag))]) hx hb dX1_factsFor_40 hl (K := 4) rfl (by decide) (by decide) rfl (fun ls hl => ?_)
          refine lv_goto (tgt := 4) hx hb dX1_factsFor_43 (by decide) ?_
          exact ih4 (kX + 1) _ (by omega) (by omega) (lv_sub hl [3, 4, 1, 0] rfl)
  exact lp4 _ 0 _ (Nat.lt_succ_self _) (by omega) (lv_sub hl [2, 3, 1, 0] rfl)
set_option maxRecDepth 100000 in
theorem mwc_xallFacts_0 : Cond.fieldLink RX1 9 "ExhibitTexts$State" "sizes" "[I" ∈ wsX1_allFacts := by decide +kernel
set_option maxRecDepth 100000 in
theorem mic_xallFacts_1 : ∀ w ∈ u_ws RX1 TX1 12, w ∈ wsX1_allFacts := by decide +kernel
set_option maxRecDepth 100000 in
theorem mwc_xallFacts_2 : Cond.fieldLink RX1 15 "ExhibitTexts$State" "cells" "[I" ∈ wsX1_allFacts := by decide +kernel
set_option maxHeartbeats 4000000 in
set_option maxRecDepth 100000 in
/-- X1_allFacts: all facts -/
theorem c_xallFacts (l : Launch) (G : zG) (a0 : Nat) (a1 : Nat) (a2 : Nat) (sz : Nat → Nat) (sc : Nat → Nat) (sg : Nat → Nat) (hM : mOK sg) (hR : sRel sz sc sg) : Met l yX1_allFacts wsX1_allFacts ({ frames := 0, cells := 0, slots := 0, locals := 0 } : Room) (zPc G [.ref a0] [(a0, .inr (1, [.ref a1, .ref a2, .int (nI (sg 0)), .int (nI (sg 1)), .int (nI (sg 7)), .int (nI (sg 8)), .int (nI (sg 9)), .int (nI (sg 2)), .int (nI (sg 3)), .int (nI (sg 4)), .int (nI (sg 5)), .int (nI (sg 6))])), (a1, .inl (G.2.1, 8, .inl (arN sz))), (a2, .inl (G.2.1, 640, .inl (arN sc)))]) (vp_Si (fun (rR : Int32) => rR = nI (allF (szF sg) (atF sg 3) 8))) 0 0 (fun _ => False) := by
  refine zR (cc := cX1_allFacts) (maxL := 4) (ret := (some .int)) (by decide) rfl (Nat.le_of_ble_eq_true rfl) ?_
  intro pP eE sS mM below meth cC hx hb hr hts hown hlk hml hK hN hP hD ls hl
  have hl : lv_has ls 4 [(0, .ref a0)] := hl
  refine lv_iconst (v := nI 0) hx hb dX1_allFacts_0 (by decide) ?_
  refine lv_istore_n (lv' := [(1, .int (nI 0)), (0, .ref a0)]) hx hb dX1_allFacts_1 rfl hl (by decide) rfl (fun ls hl => ?_)
  refine lv_iconst (v := nI 0) hx hb dX1_allFacts_2 (by decide) ?_
  refine lv_istore_n (lv' := [(2, .int (nI 0)), (1, .int (nI 0)), (0, .ref a0)]) hx hb dX1_allFacts_3 rfl hl (by decide) rfl (fun ls hl => ?_)
  have lp4 : ∀ (fu4 : Nat), ∀ (kX : Nat) (ls : Array Slot), (8 - kX) < fu4 → (kX ≤ 8) → lv_has ls 4 [(0, .ref a0), (1, .int (nI (allF (szF sg) (atF sg 3) kX))), (2, .int (nI kX))] → W pP l eE (headSpec wsX1_allFacts ({ frames := 0, cells := 0, slots := 0, locals := 0 } : Room)).room sS mM ([.ref a0] : List Value).toArray below meth cC sS.heap [] 0 0 (MQ below (vp_Si (fun (rR : Int32) => rR = nI (allF (szF sg) (atF sg 3) 8))) ([.ref a0] : List Value).toArray sS 0 0 (fun _ => False)) (F0 mM 4 ls []) := by
    intro fu4
    induction fu4 with
    | zero => intro kX ls hfu4; exact absurd hfu4 (Nat.not_lt_zero _)
    | succ fu4 ih4 =>
      intro kX ls hfu4 hk hl
      refine lv_iload_n hx hb dX1_allFacts_4 rfl (lv_at hl 2 rfl) ?_
      refine lv_bipush (v := nI 8) hx hb dX1_allFacts_5 (by decide) ?_
      refine zk_ige (tgt := 52) hx hb dX1_allFacts_7 (by decide) (by omega) (by omega) (fun c7 => ?_) (fun c7 => ?_)
      · have hk9 : kX = 8 := by omega
        subst hk9
        refine lv_iload_n hx hb dX1_allFacts_52 rfl (lv_at hl 1 rfl) ?_
        exact W.iret (v := nI (allF (szF sg) (atF sg 3) 8)) hx hb hr (fun tT ht hW => ⟨_, rfl, rfl, ht⟩) (fun _ h => absurd h List.not_mem_nil) dX1_allFacts_53
      · have hz := hM.2.1 kX (by omega)
        refine lv_iconst (v := nI 0) hx hb dX1_allFacts_10 (by decide) ?_
        refine lv_istore_n (lv' := [(3, .int (nI 0)), (0, .ref a0), (1, .int (nI (allF (szF sg) (atF sg 3) kX))), (2, .int (nI kX))]) hx hb dX1_allFacts_11 rfl hl (by decide) rfl (fun ls hl => ?_)
        have lp12 : ∀ (fu12 : Nat), ∀ (jX : Nat) (ls : Array Slot), (sg (10 + 76 * kX) - jX) < fu12 → (jX ≤ sg (10 + 76 * kX)) → lv_has ls 4 [(0, .ref a0), (2, .int (nI kX)), (1, .int (nI (orF (allF (szF sg) (atF sg 3) kX) (atF sg 3 kX) jX))), (3, .int (nI jX))] → W pP l eE (headSpec wsX1_allFacts ({ frames := 0, cells := 0, slots := 0, locals := 0 } : Room)).room sS mM ([.ref a0] : List Value).toArray below meth cC sS.heap [] 0 0 (MQ below (vp_Si (fun (rR : Int32) => rR = nI (allF (szF sg) (atF sg 3) 8))) ([.ref a0] : List Value).toArray sS 0 0 (fun _ => False)) (F0 mM 12 ls []) := by
          intro fu12
          induction fu12 with
          | zero => intro jX ls hfu12; exact absurd hfu12 (Nat.not_lt_zero _)
          | succ fu12 ih12 =>
            intro jX ls hfu12 hj hl
            refine lv_iload_n hx hb dX1_allFacts_12 rfl (lv_at hl 3 rfl) ?_
            refine lv_aload_n hx hb dX1_allFacts_13 rfl (lv_at hl 0 rfl) ?_
            refine va_get (D := G.1) (ci := 1) (v := .ref a1) (C := RX1) (T := TX1) (N := 12) hx hb hts mic_xallFacts_1 hown hK hP 0 rfl rfl 0 (by decide) (hts _ mwc_xallFacts_0) (fun _ h9 => h9) rfl dX1_allFacts_14 ?_
            refine lv_iload_n hx hb dX1_allFacts_17 rfl (lv_at hl 1 rfl) ?_
            refine zk_ald (f := sz) (k := kX) hx hb hK hP 1 0 rfl rfl (Nat.le_of_ble_eq_true rfl) (by omega) dX1_allFacts_18 ?_
            refine zk_top (y := nI (sg (10 + 76 * kX))) (congrArg nI (hR.1 kX (by omega))) ?_
            refine zk_ige (tgt := 46) hx hb dX1_allFacts_19 (by decide) (by omega) (by omega) (fun c19 => ?_) (fun c19 => ?_)
            · have hj9 : jX = sg (10 + 76 * kX) := by omega
              subst hj9
              refine zk_inc (a := kX) (d := 1) (lv' := [(2, .int (nI (kX + 1))), (0, .ref a0), (1, .int (nI (orF (allF (szF sg) (atF sg 3) kX) (atF sg 3 kX) (sg (10 + 76 * kX))))), (3, .int (nI (sg (10 + 76 * kX))))]) hx hb dX1_allFacts_46 hl (K := 1) rfl (by decide) (by decide) rfl (fun ls hl => ?_)
              refine lv_goto (tgt := 4) hx hb dX1_allFacts_49 (by decide) ?_
              exact ih4 (kX + 1) _ (by omega) (by omega) (lv_sub hl [1, 2, 0] rfl)
            · refine lv_iload_n hx hb dX1_allFacts_22 rfl (lv_at hl 2 rfl) ?_
              refine lv_aload_n hx hb dX1_allFacts_23 rfl (lv_at hl 0 rfl) ?_
              refine va_get (D := G.1) (ci := 1) (v := .ref a2) (C := RX1) (T := TX1) (N := 12) hx hb hts mic_xallFacts_1 hown hK hP 0 rfl rfl 1 (by decide) (hts _ mwc_xallFacts_2) (fun _ h9 => h9) rfl dX1_allFacts_24 ?_
              refine lv_iload_n hx hb dX1_allFacts_27 rfl (lv_at hl 1 rfl) ?_
              refine lv_iconst (v := nI 5) hx hb dX1_allFacts_28 (by decide) ?_
              refine zk_mul hx hb dX1_allFacts_29 ?_
              refine lv_iload_n hx hb dX1_allFacts_30 rfl (lv_at hl 3 rfl) ?_
              refine zk_add hx hb dX1_allFacts_31 ?_
              refine lv_bipush (v := nI 16) hx hb dX1_allFacts_32 (by decide) ?_
              refine zk_mul hx hb dX1_allFacts_34 ?_
              refine lv_iconst (v := nI 3) hx hb dX1_allFacts_35 (by decide) ?_
              refine zk_add hx hb dX1_allFacts_36 ?_
              refine zk_ald (f := sc) (k := (((kX * 5) + jX) * 16) + 3) hx hb hK hP 2 0 rfl rfl (Nat.le_of_ble_eq_true rfl) (by omega) dX1_allFacts_37 ?_
              refine zk_top (y := nI (sg (11 + 76 * kX + 15 * jX + 3))) (congrArg nI (hR.2 kX jX (by omega) c19).2.2.2.1) ?_
              refine zk_or hx hb dX1_allFacts_38 ?_
              refine lv_istore_n (lv' := [(1, .int (nI ((orF (allF (szF sg) (atF sg 3) kX) (atF sg 3 kX) jX) ||| (sg (11 + 76 * kX + 15 * jX + 3))))), (0, .ref a0), (2, .int (nI kX)), (3, .int (nI jX))]) hx hb dX1_allFacts_39 rfl hl (by decide) rfl (fun ls hl => ?_)
              refine zk_inc (a := jX) (d := 1) (lv' := [(3, .int (nI (jX + 1))), (1, .int (nI ((orF (allF (szF sg) (atF sg 3) kX) (atF sg 3 kX) jX) ||| (sg (11 + 76 * kX + 15 * jX + 3))))), (0, .ref a0), (2, .int (nI kX))]) hx hb dX1_allFacts_40 hl (K := 3) rfl (by decide) (by decide) rfl (fun ls hl => ?_)
              refine lv_goto (tgt := 12) hx hb dX1_allFacts_43 (by decide) ?_
              exact ih12 (jX + 1) _ (by omega) (by omega) (lv_sub hl [2, 3, 1, 0] rfl)
        exact lp12 _ 0 _ (Nat.lt_succ_self _) (by omega) (lv_sub hl [1, 3, 2, 0] rfl)
  exact lp4 _ 0 _ (Nat.lt_succ_self _) (by omega) (lv_sub hl [2, 1, 0] rfl)
set_option maxRecDepth 100000 in
theorem mwc_xcaps_0 : Cond.fieldLink RX1 9 "ExhibitTexts$State" "sizes" "[I" ∈ wsX1_countCaptions := by decide +kernel
set_option maxRecDepth 100000 in
theorem mic_xcaps_1 : ∀ w ∈ u_ws RX1 TX1 12, w ∈ wsX1_countCaptions := by decide +kernel
set_option maxRecDepth 100000 in
theorem mwc_xcaps_2 : Cond.fieldLink RX1 15 "ExhibitTexts$State" "cells" "[I" ∈ wsX1_countCaptions := by decide +kernel
set_option maxHeartbeats 4000000 in
set_option maxRecDepth 100000 in
/-- X1_countCaptions: captions -/
theorem c_xcaps (l : Launch) (G : zG) (a0 : Nat) (a1 : Nat) (a2 : Nat) (sz : Nat → Nat) (sc : Nat → Nat) (sg : Nat → Nat) (hM : mOK sg) (hR : sRel sz sc sg) : Met l yX1_countCaptions wsX1_countCaptions ({ frames := 0, cells := 0, slots := 0, locals := 0 } : Room) (zPc G [.ref a0] [(a0, .inr (1, [.ref a1, .ref a2, .int (nI (sg 0)), .int (nI (sg 1)), .int (nI (sg 7)), .int (nI (sg 8)), .int (nI (sg 9)), .int (nI (sg 2)), .int (nI (sg 3)), .int (nI (sg 4)), .int (nI (sg 5)), .int (nI (sg 6))])), (a1, .inl (G.2.1, 8, .inl (arN sz))), (a2, .inl (G.2.1, 640, .inl (arN sc)))]) (vp_Si (fun (rR : Int32) => rR = nI (capS (szF sg) (atF sg 5) 8))) 0 0 (fun _ => False) := by
  refine zR (cc := cX1_countCaptions) (maxL := 4) (ret := (some .int)) (by decide) rfl (Nat.le_of_ble_eq_true rfl) ?_
  intro pP eE sS mM below meth cC hx hb hr hts hown hlk hml hK hN hP hD ls hl
  have hl : lv_has ls 4 [(0, .ref a0)] := hl
  refine lv_iconst (v := nI 0) hx hb dX1_countCaptions_0 (by decide) ?_
  refine lv_istore_n (lv' := [(1, .int (nI 0)), (0, .ref a0)]) hx hb dX1_countCaptions_1 rfl hl (by decide) rfl (fun ls hl => ?_)
  refine lv_iconst (v := nI 0) hx hb dX1_countCaptions_2 (by decide) ?_
  refine lv_istore_n (lv' := [(2, .int (nI 0)), (1, .int (nI 0)), (0, .ref a0)]) hx hb dX1_countCaptions_3 rfl hl (by decide) rfl (fun ls hl => ?_)
  have lp4 : ∀ (fu4 : Nat), ∀ (kX : Nat) (ls : Array Slot), (8 - kX) < fu4 → (kX ≤ 8) → lv_has ls 4 [(0, .ref a0), (1, .int (nI (capS (szF sg) (atF sg 5) kX))), (2, .int (nI kX))] → W pP l eE (headSpec wsX1_countCaptions ({ frames := 0, cells := 0, slots := 0, locals := 0 } : Room)).room sS mM ([.ref a0] : List Value).toArray below meth cC sS.heap [] 0 0 (MQ below (vp_Si (fun (rR : Int32) => rR = nI (capS (szF sg) (atF sg 5) 8))) ([.ref a0] : List Value).toArray sS 0 0 (fun _ => False)) (F0 mM 4 ls []) := by
    intro fu4
    induction fu4 with
    | zero => intro kX ls hfu4; exact absurd hfu4 (Nat.not_lt_zero _)
    | succ fu4 ih4 =>
      intro kX ls hfu4 hk hl
      refine lv_iload_n hx hb dX1_countCaptions_4 rfl (lv_at hl 2 rfl) ?_
      refine lv_bipush (v := nI 8) hx hb dX1_countCaptions_5 (by decide) ?_
      refine zk_ige (tgt := 52) hx hb dX1_countCaptions_7 (by decide) (by omega) (by omega) (fun c7 => ?_) (fun c7 => ?_)
      · have hk9 : kX = 8 := by omega
        subst hk9
        refine lv_iload_n hx hb dX1_countCaptions_52 rfl (lv_at hl 1 rfl) ?_
        exact W.iret (v := nI (capS (szF sg) (atF sg 5) 8)) hx hb hr (fun tT ht hW => ⟨_, rfl, rfl, ht⟩) (fun _ h => absurd h List.not_mem_nil) dX1_countCaptions_53
      · have hz := hM.2.1 kX (by omega)
        refine lv_iconst (v := nI 0) hx hb dX1_countCaptions_10 (by decide) ?_
        refine lv_istore_n (lv' := [(3, .int (nI 0)), (0, .ref a0), (1, .int (nI (capS (szF sg) (atF sg 5) kX))), (2, .int (nI kX))]) hx hb dX1_countCaptions_11 rfl hl (by decide) rfl (fun ls hl => ?_)
        have lp12 : ∀ (fu12 : Nat), ∀ (jX : Nat) (ls : Array Slot), (sg (10 + 76 * kX) - jX) < fu12 → (jX ≤ sg (10 + 76 * kX)) → lv_has ls 4 [(0, .ref a0), (2, .int (nI kX)), (1, .int (nI (smF (capS (szF sg) (atF sg 5) kX) (atF sg 5 kX) jX))), (3, .int (nI jX))] → W pP l eE (headSpec wsX1_countCaptions ({ frames := 0, cells := 0, slots := 0, locals := 0 } : Room)).room sS mM ([.ref a0] : List Value).toArray below meth cC sS.heap [] 0 0 (MQ below (vp_Si (fun (rR : Int32) => rR = nI (capS (szF sg) (atF sg 5) 8))) ([.ref a0] : List Value).toArray sS 0 0 (fun _ => False)) (F0 mM 12 ls []) := by
          intro fu12
          induction fu12 with
          | zero => intro jX ls hfu12; exact absurd hfu12 (Nat.not_lt_zero _)
          | succ fu12 ih12 =>
            intro jX ls hfu12 hj hl
            refine lv_iload_n hx hb dX1_countCaptions_12 rfl (lv_at hl 3 rfl) ?_
            refine lv_aload_n hx hb dX1_countCaptions_13 rfl (lv_at hl 0 rfl) ?_
            refine va_get (D := G.1) (ci := 1) (v := .ref a1) (C := RX1) (T := TX1) (N := 12) hx hb hts mic_xcaps_1 hown hK hP 0 rfl rfl 0 (by decide) (hts _ mwc_xcaps_0) (fun _ h9 => h9) rfl dX1_countCaptions_14 ?_
            refine lv_iload_n hx hb dX1_countCaptions_17 rfl (lv_at hl 1 rfl) ?_
            refine zk_ald (f := sz) (k := kX) hx hb hK hP 1 0 rfl rfl (Nat.le_of_ble_eq_true rfl) (by omega) dX1_countCaptions_18 ?_
            refine zk_top (y := nI (sg (10 + 76 * kX))) (congrArg nI (hR.1 kX (by omega))) ?_
            refine zk_ige (tgt := 46) hx hb dX1_countCaptions_19 (by decide) (by omega) (by omega) (fun c19 => ?_) (fun c19 => ?_)
            · have hj9 : jX = sg (10 + 76 * kX) := by omega
              subst hj9
              refine zk_inc (a := kX) (d := 1) (lv' := [(2, .int (nI (kX + 1))), (0, .ref a0), (1, .int (nI (smF (capS (szF sg) (atF sg 5) kX) (atF sg 5 kX) (sg (10 + 76 * kX))))), (3, .int (nI (sg (10 + 76 * kX))))]) hx hb dX1_countCaptions_46 hl (K := 1) rfl (by decide) (by decide) rfl (fun ls hl => ?_)
              refine lv_goto (tgt := 4) hx hb dX1_countCaptions_49 (by decide) ?_
              exact ih4 (kX + 1) _ (by omega) (by omega) (lv_sub hl [1, 2, 0] rfl)
            · refine lv_iload_n hx hb dX1_countCaptions_22 rfl (lv_at hl 2 rfl) ?_
              refine lv_aload_n hx hb dX1_countCaptions_23 rfl (lv_at hl 0 rfl) ?_
              refine va_get (D := G.1) (ci := 1) (v := .ref a2) (C := RX1) (T := TX1) (N := 12) hx hb hts mic_xcaps_1 hown hK hP 0 rfl rfl 1 (by decide) (hts _ mwc_xcaps_2) (fun _ h9 => h9) rfl dX1_countCaptions_24 ?_
              refine lv_iload_n hx hb dX1_countCaptions_27 rfl (lv_at hl 1 rfl) ?_
              refine lv_iconst (v := nI 5) hx hb dX1_countCaptions_28 (by decide) ?_
              refine zk_mul hx hb dX1_countCaptions_29 ?_
              refine lv_iload_n hx hb dX1_countCaptions_30 rfl (lv_at hl 3 rfl) ?_
              refine zk_add hx hb dX1_countCaptions_31 ?_
              refine lv_bipush (v := nI 16) hx hb dX1_countCaptions_32 (by decide) ?_
              refine zk_mul hx hb dX1_countCaptions_34 ?_
              refine lv_iconst (v := nI 5) hx hb dX1_countCaptions_35 (by decide) ?_
              refine zk_add hx hb dX1_countCaptions_36 ?_
              refine zk_ald (f := sc) (k := (((kX * 5) + jX) * 16) + 5) hx hb hK hP 2 0 rfl rfl (Nat.le_of_ble_eq_true rfl) (by omega) dX1_countCaptions_37 ?_
              refine zk_top (y := nI (sg (11 + 76 * kX + 15 * jX + 5))) (congrArg nI (hR.2 kX jX (by omega) c19).2.2.2.2.2.1) ?_
              refine zk_add hx hb dX1_countCaptions_38 ?_
              refine lv_istore_n (lv' := [(1, .int (nI ((smF (capS (szF sg) (atF sg 5) kX) (atF sg 5 kX) jX) + (sg (11 + 76 * kX + 15 * jX + 5))))), (0, .ref a0), (2, .int (nI kX)), (3, .int (nI jX))]) hx hb dX1_countCaptions_39 rfl hl (by decide) rfl (fun ls hl => ?_)
              refine zk_inc (a := jX) (d := 1) (lv' := [(3, .int (nI (jX + 1))), (1, .int (nI ((smF (capS (szF sg) (atF sg 5) kX) (atF sg 5 kX) jX) + (sg (11 + 76 * kX + 15 * jX + 5))))), (0, .ref a0), (2, .int (nI kX))]) hx hb dX1_countCaptions_40 hl (K := 3) rfl (by decide) (by decide) rfl (fun ls hl => ?_)
              refine lv_goto (tgt := 12) hx hb dX1_countCaptions_43 (by decide) ?_
              exact ih12 (jX + 1) _ (by omega) (by omega) (lv_sub hl [2, 3, 1, 0] rfl)
        exact lp12 _ 0 _ (Nat.lt_succ_self _) (by omega) (lv_sub hl [1, 3, 2, 0] rfl)
  exact lp4 _ 0 _ (Nat.lt_succ_self _) (by omega) (lv_sub hl [2, 1, 0] rfl)
set_option maxRecDepth 100000 in
theorem mwc_xnever_0 : Cond.fieldLink RX1 9 "ExhibitTexts$State" "sizes" "[I" ∈ wsX1_countNeverRead := by decide +kernel
set_option maxRecDepth 100000 in
theorem mic_xnever_1 : ∀ w ∈ u_ws RX1 TX1 12, w ∈ wsX1_countNeverRead := by decide +kernel
set_option maxRecDepth 100000 in
theorem mwc_xnever_2 : Cond.fieldLink RX1 15 "ExhibitTexts$State" "cells" "[I" ∈ wsX1_countNeverRead := by decide +kernel
set_option maxHeartbeats 4000000 in
set_option maxRecDepth 100000 in
/-- X1_countNeverRead: texts that nobody read -/
theorem c_xnever (l : Launch) (G : zG) (a0 : Nat) (a1 : Nat) (a2 : Nat) (sz : Nat → Nat) (sc : Nat → Nat) (sg : Nat → Nat) (hM : mOK sg) (hR : sRel sz sc sg) : Met l yX1_countNeverRead wsX1_countNeverRead ({ frames := 0, cells := 0, slots := 0, locals := 0 } : Room) (zPc G [.ref a0] [(a0, .inr (1, [.ref a1, .ref a2, .int (nI (sg 0)), .int (nI (sg 1)), .int (nI (sg 7)), .int (nI (sg 8)), .int (nI (sg 9)), .int (nI (sg 2)), .int (nI (sg 3)), .int (nI (sg 4)), .int (nI (sg 5)), .int (nI (sg 6))])), (a1, .inl (G.2.1, 8, .inl (arN sz))), (a2, .inl (G.2.1, 640, .inl (arN sc)))]) (vp_Si (fun (rR : Int32) => rR = nI (capS (szF sg) (nrF (atF sg 4)) 8))) 0 0 (fun _ => False) := by
  refine zR (cc := cX1_countNeverRead) (maxL := 4) (ret := (some .int)) (by decide) rfl (Nat.le_of_ble_eq_true rfl) ?_
  intro pP eE sS mM below meth cC hx hb hr hts hown hlk hml hK hN hP hD ls hl
  have hl : lv_has ls 4 [(0, .ref a0)] := hl
  refine lv_iconst (v := nI 0) hx hb dX1_countNeverRead_0 (by decide) ?_
  refine lv_istore_n (lv' := [(1, .int (nI 0)), (0, .ref a0)]) hx hb dX1_countNeverRead_1 rfl hl (by decide) rfl (fun ls hl => ?_)
  refine lv_iconst (v := nI 0) hx hb dX1_countNeverRead_2 (by decide) ?_
  refine lv_istore_n (lv' := [(2, .int (nI 0)), (1, .int (nI 0)), (0, .ref a0)]) hx hb dX1_countNeverRead_3 rfl hl (by decide) rfl (fun ls hl => ?_)
  have lp4 : ∀ (fu4 : Nat), ∀ (kX : Nat) (ls : Array Slot), (8 - kX) < fu4 → (kX ≤ 8) → lv_has ls 4 [(0, .ref a0), (1, .int (nI (capS (szF sg) (nrF (atF sg 4)) kX))), (2, .int (nI kX))] → W pP l eE (headSpec wsX1_countNeverRead ({ frames := 0, cells := 0, slots := 0, locals := 0 } : Room)).room sS mM ([.ref a0] : List Value).toArray below meth cC sS.heap [] 0 0 (MQ below (vp_Si (fun (rR : Int32) => rR = nI (capS (szF sg) (nrF (atF sg 4)) 8))) ([.ref a0] : List Value).toArray sS 0 0 (fun _ => False)) (F0 mM 4 ls []) := by
    intro fu4
    induction fu4 with
    | zero => intro kX ls hfu4; exact absurd hfu4 (Nat.not_lt_zero _)
    | succ fu4 ih4 =>
      intro kX ls hfu4 hk hl
      refine lv_iload_n hx hb dX1_countNeverRead_4 rfl (lv_at hl 2 rfl) ?_
      refine lv_bipush (v := nI 8) hx hb dX1_countNeverRead_5 (by decide) ?_
      refine zk_ige (tgt := 56) hx hb dX1_countNeverRead_7 (by decide) (by omega) (by omega) (fun c7 => ?_) (fun c7 => ?_)
      · have hk9 : kX = 8 := by omega
        subst hk9
        refine lv_iload_n hx hb dX1_countNeverRead_56 rfl (lv_at hl 1 rfl) ?_
        exact W.iret (v := nI (capS (szF sg) (nrF (atF sg 4)) 8)) hx hb hr (fun tT ht hW => ⟨_, rfl, rfl, ht⟩) (fun _ h => absurd h List.not_mem_nil) dX1_countNeverRead_57
      · have hz := hM.2.1 kX (by omega)
        refine lv_iconst (v := nI 0) hx hb dX1_countNeverRead_10 (by decide) ?_
        refine lv_istore_n (lv' := [(3, .int (nI 0)), (0, .ref a0), (1, .int (nI (capS (szF sg) (nrF (atF sg 4)) kX))), (2, .int (nI kX))]) hx hb dX1_countNeverRead_11 rfl hl (by decide) rfl (fun ls hl => ?_)
        have lp12 : ∀ (fu12 : Nat), ∀ (jX : Nat) (ls : Array Slot), (sg (10 + 76 * kX) - jX) < fu12 → (jX ≤ sg (10 + 76 * kX)) → lv_has ls 4 [(0, .ref a0), (2, .int (nI kX)), (1, .int (nI (smF (capS (szF sg) (nrF (atF sg 4)) kX) (nrF (atF sg 4) kX) jX))), (3, .int (nI jX))] → W pP l eE (headSpec wsX1_countNeverRead ({ frames := 0, cells := 0, slots := 0, locals := 0 } : Room)).room sS mM ([.ref a0] : List Value).toArray below meth cC sS.heap [] 0 0 (MQ below (vp_Si (fun (rR : Int32) => rR = nI (capS (szF sg) (nrF (atF sg 4)) 8))) ([.ref a0] : List Value).toArray sS 0 0 (fun _ => False)) (F0 mM 12 ls []) := by
          intro fu12
          induction fu12 with
          | zero => intro jX ls hfu12; exact absurd hfu12 (Nat.not_lt_zero _)
          | succ fu12 ih12 =>
            intro jX ls hfu12 hj hl
            refine lv_iload_n hx hb dX1_countNeverRead_12 rfl (lv_at hl 3 rfl) ?_
            refine lv_aload_n hx hb dX1_countNeverRead_13 rfl (lv_at hl 0 rfl) ?_
            refine va_get (D := G.1) (ci := 1) (v := .ref a1) (C := RX1) (T := TX1) (N := 12) hx hb hts mic_xnever_1 hown hK hP 0 rfl rfl 0 (by decide) (hts _ mwc_xnever_0) (fun _ h9 => h9) rfl dX1_countNeverRead_14 ?_
            refine lv_iload_n hx hb dX1_countNeverRead_17 rfl (lv_at hl 1 rfl) ?_
            refine zk_ald (f := sz) (k := kX) hx hb hK hP 1 0 rfl rfl (Nat.le_of_ble_eq_true rfl) (by omega) dX1_countNeverRead_18 ?_
            refine zk_top (y := nI (sg (10 + 76 * kX))) (congrArg nI (hR.1 kX (by omega))) ?_
            refine zk_ige (tgt := 50) hx hb dX1_countNeverRead_19 (by decide) (by omega) (by omega) (fun c19 => ?_) (fun c19 => ?_)
            · have hj9 : jX = sg (10 + 76 * kX) := by omega
              subst hj9
              refine zk_inc (a := kX) (d := 1) (lv' := [(2, .int (nI (kX + 1))), (0, .ref a0), (1, .int (nI (smF (capS (szF sg) (nrF (atF sg 4)) kX) (nrF (atF sg 4) kX) (sg (10 + 76 * kX))))), (3, .int (nI (sg (10 + 76 * kX))))]) hx hb dX1_countNeverRead_50 hl (K := 1) rfl (by decide) (by decide) rfl (fun ls hl => ?_)
              refine lv_goto (tgt := 4) hx hb dX1_countNeverRead_53 (by decide) ?_
              exact ih4 (kX + 1) _ (by omega) (by omega) (lv_sub hl [1, 2, 0] rfl)
            · refine lv_aload_n hx hb dX1_countNeverRead_22 rfl (lv_at hl 0 rfl) ?_
              refine va_get (D := G.1) (ci := 1) (v := .ref a2) (C := RX1) (T := TX1) (N := 12) hx hb hts mic_xnever_1 hown hK hP 0 rfl rfl 1 (by decide) (hts _ mwc_xnever_2) (fun _ h9 => h9) rfl dX1_countNeverRead_23 ?_
              refine lv_iload_n hx hb dX1_countNeverRead_26 rfl (lv_at hl 1 rfl) ?_
              refine lv_iconst (v := nI 5) hx hb dX1_countNeverRead_27 (by decide) ?_
              refine zk_mul hx hb dX1_countNeverRead_28 ?_
              refine lv_iload_n hx hb dX1_countNeverRead_29 rfl (lv_at hl 3 rfl) ?_
              refine zk_add hx hb dX1_countNeverRead_30 ?_
              refine lv_bipush (v := nI 16) hx hb dX1_countNeverRead_31 (by decide) ?_
              refine zk_mul hx hb dX1_countNeverRead_33 ?_
              refine lv_bipush (v := nI 6) hx hb dX1_countNeverRead_34 (by decide) ?_
              refine zk_add hx hb dX1_countNeverRead_36 ?_
              refine zk_ald (f := sc) (k := (((kX * 5) + jX) * 16) + 6) hx hb hK hP 2 0 rfl rfl (Nat.le_of_ble_eq_true rfl) (by omega) dX1_countNeverRead_37 ?_
              refine zk_top (y := nI (sg (11 + 76 * kX + 15 * jX + 4))) (congrArg nI (hR.2 kX jX (by omega) c19).2.2.2.2.2.2.1) ?_
              refine lv_if_ne (tgt := 44) hx hb dX1_countNeverRead_38 (by decide) (fun c38 => ?_) (fun c38 => ?_)
              · refine zk_inc (a := jX) (d := 1) (lv' := [(3, .int (nI (jX + 1))), (0, .ref a0), (2, .int (nI kX)), (1, .int (nI (smF (capS (szF sg) (nrF (atF sg 4)) kX) (nrF (atF sg 4) kX) jX)))]) hx hb dX1_countNeverRead_44 hl (K := 3) rfl (by decide) (by decide) rfl (fun ls hl => ?_)
                refine lv_goto (tgt := 12) hx hb dX1_countNeverRead_47 (by decide) ?_
                have hnr : smF (capS (szF sg) (nrF (atF sg 4)) kX) (nrF (atF sg 4) kX) (jX + 1) = smF (capS (szF sg) (nrF (atF sg 4)) kX) (nrF (atF sg 4) kX) jX := by show smF (capS (szF sg) (nrF (atF sg 4)) kX) (nrF (atF sg 4) kX) jX + nrF (atF sg 4) kX jX = _; simp only [nrF, atF]; rw [if_neg c38, Nat.add_zero]
                exact ih12 (jX + 1) _ (by omega) (by omega) (by rw [hnr]; exact lv_sub hl [1, 2, 3, 0] rfl)
              · refine zk_inc (a := smF (capS (szF sg) (nrF (atF sg 4)) kX) (nrF (atF sg 4) kX) jX) (d := 1) (lv' := [(1, .int (nI (smF (capS (szF sg) (nrF (atF sg 4)) kX) (nrF (atF sg 4) kX) jX + 1))), (0, .ref a0), (2, .int (nI kX)), (3, .int (nI jX))]) hx hb dX1_countNeverRead_41 hl (K := 2) rfl (by decide) (by decide) rfl (fun ls hl => ?_)
                refine zk_inc (a := jX) (d := 1) (lv' := [(3, .int (nI (jX + 1))), (1, .int (nI (smF (capS (szF sg) (nrF (atF sg 4)) kX) (nrF (atF sg 4) kX) jX + 1))), (0, .ref a0), (2, .int (nI kX))]) hx hb dX1_countNeverRead_44 hl (K := 3) rfl (by decide) (by decide) rfl (fun ls hl => ?_)
                refine lv_goto (tgt := 12) hx hb dX1_countNeverRead_47 (by decide) ?_
                have hnr : smF (capS (szF sg) (nrF (atF sg 4)) kX) (nrF (atF sg 4) kX) (jX + 1) = smF (capS (szF sg) (nrF (atF sg 4)) kX) (nrF (atF sg 4) kX) jX + 1 := by show smF (capS (szF sg) (nrF (atF sg 4)) kX) (nrF (atF sg 4) kX) jX + nrF (atF sg 4) kX jX = _; simp only [nrF, atF]; rw [if_pos c38]
                exact ih12 (jX + 1) _ (by omega) (by omega) (by rw [hnr]; exact lv_sub hl [2, 3, 1, 0] rfl)
        exact lp12 _ 0 _ (Nat.lt_succ_self _) (by omega) (lv_sub hl [1, 3, 2, 0] rfl)
  exact lp4 _ 0 _ (Nat.lt_succ_self _) (by omega) (lv_sub hl [2, 1, 0] rfl)
set_option maxRecDepth 100000 in
theorem mwc_xtexts_0 : Cond.fieldLink RX1 9 "ExhibitTexts$State" "sizes" "[I" ∈ wsX1_countTexts := by decide +kernel
set_option maxRecDepth 100000 in
theorem mic_xtexts_1 : ∀ w ∈ u_ws RX1 TX1 12, w ∈ wsX1_countTexts := by decide +kernel
set_option maxHeartbeats 4000000 in
set_option maxRecDepth 100000 in
/-- X1_countTexts: how many texts -/
theorem c_xtexts (l : Launch) (G : zG) (a0 : Nat) (a1 : Nat) (a2 : Nat) (sz : Nat → Nat) (sc : Nat → Nat) (sg : Nat → Nat) (hM : mOK sg) (hR : sRel sz sc sg) : Met l yX1_countTexts wsX1_countTexts ({ frames := 0, cells := 0, slots := 0, locals := 0 } : Room) (zPc G [.ref a0] [(a0, .inr (1, [.ref a1, .ref a2, .int (nI (sg 0)), .int (nI (sg 1)), .int (nI (sg 7)), .int (nI (sg 8)), .int (nI (sg 9)), .int (nI (sg 2)), .int (nI (sg 3)), .int (nI (sg 4)), .int (nI (sg 5)), .int (nI (sg 6))])), (a1, .inl (G.2.1, 8, .inl (arN sz))), (a2, .inl (G.2.1, 640, .inl (arN sc)))]) (vp_Si (fun (rR : Int32) => rR = nI (sumN (szF sg) 8))) 0 0 (fun _ => False) := by
  refine zR (cc := cX1_countTexts) (maxL := 3) (ret := (some .int)) (by decide) rfl (Nat.le_of_ble_eq_true rfl) ?_
  intro pP eE sS mM below meth cC hx hb hr hts hown hlk hml hK hN hP hD ls hl
  have hl : lv_has ls 3 [(0, .ref a0)] := hl
  refine lv_iconst (v := nI 0) hx hb dX1_countTexts_0 (by decide) ?_
  refine lv_istore_n (lv' := [(1, .int (nI 0)), (0, .ref a0)]) hx hb dX1_countTexts_1 rfl hl (by decide) rfl (fun ls hl => ?_)
  refine lv_iconst (v := nI 0) hx hb dX1_countTexts_2 (by decide) ?_
  refine lv_istore_n (lv' := [(2, .int (nI 0)), (1, .int (nI 0)), (0, .ref a0)]) hx hb dX1_countTexts_3 rfl hl (by decide) rfl (fun ls hl => ?_)
  have lp4 : ∀ (fu4 : Nat), ∀ (kX : Nat) (ls : Array Slot), (8 - kX) < fu4 → (kX ≤ 8) → lv_has ls 3 [(0, .ref a0), (1, .int (nI (sumN (szF sg) kX))), (2, .int (nI kX))] → W pP l eE (headSpec wsX1_countTexts ({ frames := 0, cells := 0, slots := 0, locals := 0 } : Room)).room sS mM ([.ref a0] : List Value).toArray below meth cC sS.heap [] 0 0 (MQ below (vp_Si (fun (rR : Int32) => rR = nI (sumN (szF sg) 8))) ([.ref a0] : List Value).toArray sS 0 0 (fun _ => False)) (F0 mM 4 ls []) := by
    intro fu4
    induction fu4 with
    | zero => intro kX ls hfu4; exact absurd hfu4 (Nat.not_lt_zero _)
    | succ fu4 ih4 =>
      intro kX ls hfu4 hk hl
      refine lv_iload_n hx hb dX1_countTexts_4 rfl (lv_at hl 2 rfl) ?_
      refine lv_bipush (v := nI 8) hx hb dX1_countTexts_5 (by decide) ?_
      refine zk_ige (tgt := 25) hx hb dX1_countTexts_7 (by decide) (by omega) (by omega) (fun c7 => ?_) (fun c7 => ?_)
      · refine lv_iload_n hx hb dX1_countTexts_25 rfl (lv_at hl 1 rfl) ?_
        exact W.iret (v := nI (sumN (szF sg) kX)) hx hb hr (fun tT ht hW => ⟨_, rfl, (by rw [show kX = 8 from by omega]), ht⟩) (fun _ h => absurd h List.not_mem_nil) dX1_countTexts_26
      · refine lv_iload_n hx hb dX1_countTexts_10 rfl (lv_at hl 1 rfl) ?_
        refine lv_aload_n hx hb dX1_countTexts_11 rfl (lv_at hl 0 rfl) ?_
        refine va_get (D := G.1) (ci := 1) (v := .ref a1) (C := RX1) (T := TX1) (N := 12) hx hb hts mic_xtexts_1 hown hK hP 0 rfl rfl 0 (by decide) (hts _ mwc_xtexts_0) (fun _ h9 => h9) rfl dX1_countTexts_12 ?_
        refine lv_iload_n hx hb dX1_countTexts_15 rfl (lv_at hl 2 rfl) ?_
        refine zk_ald (f := sz) (k := kX) hx hb hK hP 1 0 rfl rfl (Nat.le_of_ble_eq_true rfl) (by omega) dX1_countTexts_16 ?_
        refine zk_top (y := nI (sg (10 + 76 * kX))) (congrArg nI (hR.1 kX (by omega))) ?_
        refine zk_add hx hb dX1_countTexts_17 ?_
        refine lv_istore_n (lv' := [(1, .int (nI ((sumN (szF sg) kX) + (sg (10 + 76 * kX))))), (0, .ref a0), (2, .int (nI kX))]) hx hb dX1_countTexts_18 rfl hl (by decide) rfl (fun ls hl => ?_)
        refine zk_inc (a := kX) (d := 1) (lv' := [(2, .int (nI (kX + 1))), (1, .int (nI ((sumN (szF sg) kX) + (sg (10 + 76 * kX))))), (0, .ref a0)]) hx hb dX1_countTexts_19 hl (K := 2) rfl (by decide) (by decide) rfl (fun ls hl => ?_)
        refine lv_goto (tgt := 4) hx hb dX1_countTexts_22 (by decide) ?_
        exact ih4 (kX + 1) _ (by omega) (by omega) (lv_sub hl [2, 1, 0] rfl)
  exact lp4 _ 0 _ (Nat.lt_succ_self _) (by omega) (lv_sub hl [2, 1, 0] rfl)
set_option maxRecDepth 100000 in
theorem mwc_captionFacts_0 : Cond.fieldLink RX1 15 "ExhibitTexts$State" "cells" "[I" ∈ wsX1_captionFacts := by decide +kernel
set_option maxRecDepth 100000 in
theorem mic_captionFacts_1 : ∀ w ∈ u_ws RX1 TX1 12, w ∈ wsX1_captionFacts := by decide +kernel
set_option maxHeartbeats 4000000 in
set_option maxRecDepth 100000 in
/-- X1_captionFacts: the facts of a text's captions -/
theorem c_captionFacts (l : Launch) (G : zG) (a0 : Nat) (a1 : Nat) (a2 : Nat) (sz : Nat → Nat) (sc : Nat → Nat) (sg : Nat → Nat) (e : Nat) (t : Nat) (hM : mOK sg) (hR : sRel sz sc sg) (he : e < 8) (ht : t < sg (10 + 76 * e)) : Met l yX1_captionFacts wsX1_captionFacts ({ frames := 0, cells := 0, slots := 0, locals := 0 } : Room) (zPc G [.ref a0, .int (nI ((e * 5 + t) * 16))] [(a0, .inr (1, [.ref a1, .ref a2, .int (nI (sg 0)), .int (nI (sg 1)), .int (nI (sg 7)), .int (nI (sg 8)), .int (nI (sg 9)), .int (nI (sg 2)), .int (nI (sg 3)), .int (nI (sg 4)), .int (nI (sg 5)), .int (nI (sg 6))])), (a1, .inl (G.2.1, 8, .inl (arN sz))), (a2, .inl (G.2.1, 640, .inl (arN sc)))]) (vp_Si (fun (rR : Int32) => rR = nI (orF 0 (fun c => sg (11 + 76 * e + 15 * t + (6 + 3 * c + 1))) (sg (11 + 76 * e + 15 * t + 5))))) 0 0 (fun _ => False) := by
  refine zR (cc := cX1_captionFacts) (maxL := 4) (ret := (some .int)) (by decide) rfl (Nat.le_of_ble_eq_true rfl) ?_
  intro pP eE sS mM below meth cC hx hb hr hts hown hlk hml hK hN hP hD ls hl
  have hl : lv_has ls 4 [(0, .ref a0), (1, .int (nI ((e * 5 + t) * 16)))] := hl
  have hz5 := hM.2.1 e he
  have hc3 := (hM.2.2 e t he ht).2.2.2.2.1
  refine lv_iconst (v := nI 0) hx hb dX1_captionFacts_0 (by decide) ?_
  refine lv_istore_n (lv' := [(2, .int (nI 0)), (0, .ref a0), (1, .int (nI ((e * 5 + t) * 16)))]) hx hb dX1_captionFacts_1 rfl hl (by decide) rfl (fun ls hl => ?_)
  refine lv_iconst (v := nI 0) hx hb dX1_captionFacts_2 (by decide) ?_
  refine lv_istore_n (lv' := [(3, .int (nI 0)), (2, .int (nI 0)), (0, .ref a0), (1, .int (nI ((e * 5 + t) * 16)))]) hx hb dX1_captionFacts_3 rfl hl (by decide) rfl (fun ls hl => ?_)
  have lp4 : ∀ (fu4 : Nat), ∀ (kX : Nat) (ls : Array Slot), (sg (11 + 76 * e + 15 * t + 5) - kX) < fu4 → (kX ≤ sg (11 + 76 * e + 15 * t + 5)) → lv_has ls 4 [(0, .ref a0), (1, .int (nI ((e * 5 + t) * 16))), (2, .int (nI (orF 0 (fun c => sg (11 + 76 * e + 15 * t + (6 + 3 * c + 1))) kX))), (3, .int (nI kX))] → W pP l eE (headSpec wsX1_captionFacts ({ frames := 0, cells := 0, slots := 0, locals := 0 } : Room)).room sS mM ([.ref a0, .int (nI ((e * 5 + t) * 16))] : List Value).toArray below meth cC sS.heap [] 0 0 (MQ below (vp_Si (fun (rR : Int32) => rR = nI (orF 0 (fun c => sg (11 + 76 * e + 15 * t + (6 + 3 * c + 1))) (sg (11 + 76 * e + 15 * t + 5))))) ([.ref a0, .int (nI ((e * 5 + t) * 16))] : List Value).toArray sS 0 0 (fun _ => False)) (F0 mM 4 ls []) := by
    intro fu4
    induction fu4 with
    | zero => intro kX ls hfu4; exact absurd hfu4 (Nat.not_lt_zero _)
    | succ fu4 ih4 =>
      intro kX ls hfu4 hk hl
      refine lv_iload_n hx hb dX1_captionFacts_4 rfl (lv_at hl 3 rfl) ?_
      refine lv_aload_n hx hb dX1_captionFacts_5 rfl (lv_at hl 0 rfl) ?_
      refine va_get (D := G.1) (ci := 1) (v := .ref a2) (C := RX1) (T := TX1) (N := 12) hx hb hts mic_captionFacts_1 hown hK hP 0 rfl rfl 1 (by decide) (hts _ mwc_captionFacts_0) (fun _ h9 => h9) rfl dX1_captionFacts_6 ?_
      refine lv_iload_n hx hb dX1_captionFacts_9 rfl (lv_at hl 1 rfl) ?_
      refine lv_iconst (v := nI 5) hx hb dX1_captionFacts_10 (by decide) ?_
      refine zk_add hx hb dX1_captionFacts_11 ?_
      refine zk_ald (f := sc) (k := ((e * 5 + t) * 16) + 5) hx hb hK hP 2 0 rfl rfl (Nat.le_of_ble_eq_true rfl) (by omega) dX1_captionFacts_12 ?_
      refine zk_top (y := nI (sg (11 + 76 * e + 15 * t + 5))) (congrArg nI (hR.2 e t he ht).2.2.2.2.2.1) ?_
      refine zk_ige (tgt := 40) hx hb dX1_captionFacts_13 (by decide) (by omega) (by omega) (fun c13 => ?_) (fun c13 => ?_)
      · refine lv_iload_n hx hb dX1_captionFacts_40 rfl (lv_at hl 2 rfl) ?_
        exact W.iret (v := nI (orF 0 (fun c => sg (11 + 76 * e + 15 * t + (6 + 3 * c + 1))) kX)) hx hb hr (fun tT ht hW => ⟨_, rfl, (by rw [show kX = sg (11 + 76 * e + 15 * t + 5) from by omega]), ht⟩) (fun _ h => absurd h List.not_mem_nil) dX1_captionFacts_41
      · refine lv_iload_n hx hb dX1_captionFacts_16 rfl (lv_at hl 2 rfl) ?_
        refine lv_aload_n hx hb dX1_captionFacts_17 rfl (lv_at hl 0 rfl) ?_
        refine va_get (D := G.1) (ci := 1) (v := .ref a2) (C := RX1) (T := TX1) (N := 12) hx hb hts mic_captionFacts_1 hown hK hP 0 rfl rfl 1 (by decide) (hts _ mwc_captionFacts_0) (fun _ h9 => h9) rfl dX1_captionFacts_18 ?_
        refine lv_iload_n hx hb dX1_captionFacts_21 rfl (lv_at hl 1 rfl) ?_
        refine lv_bipush (v := nI 7) hx hb dX1_captionFacts_22 (by decide) ?_
        refine zk_add hx hb dX1_captionFacts_24 ?_
        refine lv_iload_n hx hb dX1_captionFacts_25 rfl (lv_at hl 3 rfl) ?_
        refine lv_iconst (v := nI 3) hx hb dX1_captionFacts_26 (by decide) ?_
        refine zk_mul hx hb dX1_captionFacts_27 ?_
        refine zk_add hx hb dX1_captionFacts_28 ?_
        refine lv_iconst (v := nI 1) hx hb dX1_captionFacts_29 (by decide) ?_
        refine zk_add hx hb dX1_captionFacts_30 ?_
        refine zk_ald (f := sc) (k := ((((e * 5 + t) * 16) + 7) + (kX * 3)) + 1) hx hb hK hP 2 0 rfl rfl (Nat.le_of_ble_eq_true rfl) (by omega) dX1_captionFacts_31 ?_
        refine zk_top (y := nI (sg (11 + 76 * e + 15 * t + (6 + 3 * kX + 1)))) (congrArg nI ((hR.2 e t he ht).2.2.2.2.2.2.2 kX (by omega) c13).2.1) ?_
        refine zk_or hx hb dX1_captionFacts_32 ?_
        refine lv_istore_n (lv' := [(2, .int (nI ((orF 0 (fun c => sg (11 + 76 * e + 15 * t + (6 + 3 * c + 1))) kX) ||| (sg (11 + 76 * e + 15 * t + (6 + 3 * kX + 1)))))), (0, .ref a0), (1, .int (nI ((e * 5 + t) * 16))), (3, .int (nI kX))]) hx hb dX1_captionFacts_33 rfl hl (by decide) rfl (fun ls hl => ?_)
        refine zk_inc (a := kX) (d := 1) (lv' := [(3, .int (nI (kX + 1))), (2, .int (nI ((orF 0 (fun c => sg (11 + 76 * e + 15 * t + (6 + 3 * c + 1))) kX) ||| (sg (11 + 76 * e + 15 * t + (6 + 3 * kX + 1)))))), (0, .ref a0), (1, .int (nI ((e * 5 + t) * 16)))]) hx hb dX1_captionFacts_34 hl (K := 3) rfl (by decide) (by decide) rfl (fun ls hl => ?_)
        refine lv_goto (tgt := 4) hx hb dX1_captionFacts_37 (by decide) ?_
        exact ih4 (kX + 1) _ (by omega) (by omega) (lv_sub hl [2, 3, 1, 0] rfl)
  exact lp4 _ 0 _ (Nat.lt_succ_self _) (by omega) (lv_sub hl [2, 3, 1, 0] rfl)
