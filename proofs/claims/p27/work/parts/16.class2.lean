set_option maxRecDepth 100000 in
theorem mwc_bitCount_0 : Cond.constant RJ6 265 (1431655765) ∈ wsJ6_bitCount_0f7a4 := by decide +kernel
set_option maxRecDepth 100000 in
theorem mwc_bitCount_1 : Cond.constant RJ6 266 (858993459) ∈ wsJ6_bitCount_0f7a4 := by decide +kernel
set_option maxRecDepth 100000 in
theorem mwc_bitCount_2 : Cond.constant RJ6 267 (252645135) ∈ wsJ6_bitCount_0f7a4 := by decide +kernel
set_option maxHeartbeats 4000000 in
set_option maxRecDepth 100000 in
/-- J6_bitCount_0f7a4: how many bits -/
theorem c_bitCount (l : Launch) (v : Nat) (hv : v ≤ 65535) : Met l yJ6_bitCount_0f7a4 wsJ6_bitCount_0f7a4 ({ frames := 0, cells := 0, slots := 0, locals := 0 } : Room) (fun vV _ => vV = ([.int (nI v)] : List Value).toArray) (vp_Si (fun (rR : Int32) => rR = nI (bitsN v 16))) 0 0 (fun _ => False) := by
  refine zS (cc := cJ6_bitCount_0f7a4) (maxL := 1) (ret := (some .int)) (by decide) rfl (Nat.le_of_ble_eq_true rfl) ?_
  intro pP eE sS mM below meth cC hx hb hr hts hown hlk hml ls hl
  have hl : lv_has ls 1 [(0, .int (nI v))] := hl
  have h1 := bA_le v
  have h2 := bB_le v
  have h3 := bC_le v
  have h4 := bD_le v
  refine lv_iload_n hx hb dJ6_bitCount_0f7a4_0 rfl (lv_at hl 0 rfl) ?_
  refine lv_iload_n hx hb dJ6_bitCount_0f7a4_1 rfl (lv_at hl 0 rfl) ?_
  refine lv_iconst (v := nI 1) hx hb dJ6_bitCount_0f7a4_2 (by decide) ?_
  refine lv_iushr hx hb dJ6_bitCount_0f7a4_3 rfl ?_
  refine zk_top (y := nI (v / 2 ^ 1)) (pk_ushrN (by omega) _ 1 (by decide)) ?_
  refine lv_ldcw (v := (1431655765 : Int32)) hx hb hown (hts _ mwc_bitCount_0) dJ6_bitCount_0f7a4_4 ?_
  refine zk_top (y := nI 1431655765) rfl ?_
  refine zk_and hx hb dJ6_bitCount_0f7a4_7 ?_
  refine zk_sub hx hb dJ6_bitCount_0f7a4_8 (bA_sub v) ?_
  refine zk_top (y := nI (bA v)) rfl ?_
  refine lv_istore_n (lv' := [(0, .int (nI (bA v)))]) hx hb dJ6_bitCount_0f7a4_9 rfl hl (by decide) rfl (fun ls hl => ?_)
  refine lv_iload_n hx hb dJ6_bitCount_0f7a4_10 rfl (lv_at hl 0 rfl) ?_
  refine lv_ldcw (v := (858993459 : Int32)) hx hb hown (hts _ mwc_bitCount_1) dJ6_bitCount_0f7a4_11 ?_
  refine zk_top (y := nI 858993459) rfl ?_
  refine zk_and hx hb dJ6_bitCount_0f7a4_14 ?_
  refine lv_iload_n hx hb dJ6_bitCount_0f7a4_15 rfl (lv_at hl 0 rfl) ?_
  refine lv_iconst (v := nI 2) hx hb dJ6_bitCount_0f7a4_16 (by decide) ?_
  refine lv_iushr hx hb dJ6_bitCount_0f7a4_17 rfl ?_
  refine zk_top (y := nI (bA v / 2 ^ 2)) (pk_ushrN (by omega) _ 2 (by decide)) ?_
  refine lv_ldcw (v := (858993459 : Int32)) hx hb hown (hts _ mwc_bitCount_1) dJ6_bitCount_0f7a4_18 ?_
  refine zk_top (y := nI 858993459) rfl ?_
  refine zk_and hx hb dJ6_bitCount_0f7a4_21 ?_
  refine zk_add hx hb dJ6_bitCount_0f7a4_22 ?_
  refine zk_top (y := nI (bB v)) rfl ?_
  refine lv_istore_n (lv' := [(0, .int (nI (bB v)))]) hx hb dJ6_bitCount_0f7a4_23 rfl hl (by decide) rfl (fun ls hl => ?_)
  refine lv_iload_n hx hb dJ6_bitCount_0f7a4_24 rfl (lv_at hl 0 rfl) ?_
  refine lv_iload_n hx hb dJ6_bitCount_0f7a4_25 rfl (lv_at hl 0 rfl) ?_
  refine lv_iconst (v := nI 4) hx hb dJ6_bitCount_0f7a4_26 (by decide) ?_
  refine lv_iushr hx hb dJ6_bitCount_0f7a4_27 rfl ?_
  refine zk_top (y := nI (bB v / 2 ^ 4)) (pk_ushrN (by omega) _ 4 (by decide)) ?_
  refine zk_add hx hb dJ6_bitCount_0f7a4_28 ?_
  refine lv_ldcw (v := (252645135 : Int32)) hx hb hown (hts _ mwc_bitCount_2) dJ6_bitCount_0f7a4_29 ?_
  refine zk_top (y := nI 252645135) rfl ?_
  refine zk_and hx hb dJ6_bitCount_0f7a4_32 ?_
  refine zk_top (y := nI (bC v)) rfl ?_
  refine lv_istore_n (lv' := [(0, .int (nI (bC v)))]) hx hb dJ6_bitCount_0f7a4_33 rfl hl (by decide) rfl (fun ls hl => ?_)
  refine lv_iload_n hx hb dJ6_bitCount_0f7a4_34 rfl (lv_at hl 0 rfl) ?_
  refine lv_iload_n hx hb dJ6_bitCount_0f7a4_35 rfl (lv_at hl 0 rfl) ?_
  refine lv_bipush (v := nI 8) hx hb dJ6_bitCount_0f7a4_36 (by decide) ?_
  refine lv_iushr hx hb dJ6_bitCount_0f7a4_38 rfl ?_
  refine zk_top (y := nI (bC v / 2 ^ 8)) (pk_ushrN (by omega) _ 8 (by decide)) ?_
  refine zk_add hx hb dJ6_bitCount_0f7a4_39 ?_
  refine zk_top (y := nI (bD v)) rfl ?_
  refine lv_istore_n (lv' := [(0, .int (nI (bD v)))]) hx hb dJ6_bitCount_0f7a4_40 rfl hl (by decide) rfl (fun ls hl => ?_)
  refine lv_iload_n hx hb dJ6_bitCount_0f7a4_41 rfl (lv_at hl 0 rfl) ?_
  refine lv_iload_n hx hb dJ6_bitCount_0f7a4_42 rfl (lv_at hl 0 rfl) ?_
  refine lv_bipush (v := nI 16) hx hb dJ6_bitCount_0f7a4_43 (by decide) ?_
  refine lv_iushr hx hb dJ6_bitCount_0f7a4_45 rfl ?_
  refine zk_top (y := nI (bD v / 2 ^ 16)) (pk_ushrN (by omega) _ 16 (by decide)) ?_
  refine zk_add hx hb dJ6_bitCount_0f7a4_46 ?_
  refine zk_top (y := nI (bE v)) rfl ?_
  refine lv_istore_n (lv' := [(0, .int (nI (bE v)))]) hx hb dJ6_bitCount_0f7a4_47 rfl hl (by decide) rfl (fun ls hl => ?_)
  refine lv_iload_n hx hb dJ6_bitCount_0f7a4_48 rfl (lv_at hl 0 rfl) ?_
  refine lv_bipush (v := nI 63) hx hb dJ6_bitCount_0f7a4_49 (by decide) ?_
  refine zk_and hx hb dJ6_bitCount_0f7a4_51 ?_
  exact W.iret (v := nI ((bE v) &&& 63)) hx hb hr (fun tT ht hW => ⟨_, rfl, (congrArg nI (b_ok hv)), ht⟩) (fun _ h => absurd h List.not_mem_nil) dJ6_bitCount_0f7a4_52
/-- J6_bitCount_0f7a4: how many bits of one number the other has not -/
theorem c_bitSub (l : Launch) (v : Nat) (u : Nat) (hv : v ≤ 65535) (hs : v ||| u = v) : Met l yJ6_bitCount_0f7a4 wsJ6_bitCount_0f7a4 ({ frames := 0, cells := 0, slots := 0, locals := 0 } : Room) (fun vV _ => vV = ([.int (andN v u)] : List Value).toArray) (vp_Si (fun (rR : Int32) => rR = nI (bitsN v 16) - nI (bitsN u 16))) 0 0 (fun _ => False) := by
  have e1 : andN v u = nI (v ^^^ u) := andN_x (by omega) hs
  have h3 := bitsN_x hs 16
  have e2 : nI (bitsN v 16) - nI (bitsN u 16) = nI (bitsN (v ^^^ u) 16) := (pk_sub (by omega)).trans (congrArg nI (by omega))
  have h4 : v ^^^ u ≤ 65535 := by
    have h5 : u ≤ 65535 := Nat.le_trans (by rw [← hs]; exact Nat.right_le_or) hv
    have := Nat.xor_lt_two_pow (n := 16) (x := v) (y := u) (by omega) (by omega)
    omega
  rw [e1, e2]
  exact c_bitCount l (v ^^^ u) h4
set_option maxHeartbeats 4000000 in
set_option maxRecDepth 100000 in
/-- J9_floorMod_7cf53: the rest, not below 0 -/
theorem c_floorMod (l : Launch) (v : Nat) (hv : v < 16) : Met l yJ9_floorMod_7cf53 wsJ9_floorMod_7cf53 ({ frames := 0, cells := 0, slots := 0, locals := 0 } : Room) (fun vV _ => vV = ([.int (nI v), .int (nI 8)] : List Value).toArray) (vp_Si (fun (rR : Int32) => rR = nI (v % 8))) 0 0 (fun _ => False) := by
  refine zSF (cc := cJ9_floorMod_7cf53) (maxL := 3) (ret := (some .int)) (by decide +kernel) rfl (Nat.le_of_ble_eq_true rfl) ?_
  intro pP eE sS mM below meth cC hx hb hr hts hown hlk hml ls hl
  have hl : lv_has ls 3 [(0, .int (nI v)), (1, .int (nI 8))] := hl
  refine lv_iload_n hx hb dJ9_floorMod_7cf53_0 rfl (lv_at hl 0 rfl) ?_
  refine lv_iload_n hx hb dJ9_floorMod_7cf53_1 rfl (lv_at hl 1 rfl) ?_
  refine zk_rem hx hb dJ9_floorMod_7cf53_2 (by omega) (by omega) (by omega) ?_
  refine lv_istore_n (lv' := [(2, .int (nI (v % 8))), (0, .int (nI v)), (1, .int (nI 8))]) hx hb dJ9_floorMod_7cf53_3 rfl hl (by decide) rfl (fun ls hl => ?_)
  refine lv_iload_n hx hb dJ9_floorMod_7cf53_4 rfl (lv_at hl 1 rfl) ?_
  refine lv_iload_n hx hb dJ9_floorMod_7cf53_5 rfl (lv_at hl 2 rfl) ?_
  refine lv_ixor hx hb dJ9_floorMod_7cf53_6 ?_
  refine zk_top (y := nI (v ^^^ 8)) (zA_xor _ _) ?_
  refine zk_zge (tgt := 18) hx hb dJ9_floorMod_7cf53_7 (by decide) (Nat.lt_trans (Nat.xor_lt_two_pow (n := 4) (by omega) (by omega)) (by decide)) ?_
  refine lv_iload_n hx hb dJ9_floorMod_7cf53_18 rfl (lv_at hl 0 rfl) ?_
  exact W.iret (v := nI (v % 8)) hx hb hr (fun tT ht hW => ⟨_, rfl, rfl, ht⟩) (fun _ h => absurd h List.not_mem_nil) dJ9_floorMod_7cf53_19
set_option maxHeartbeats 4000000 in
set_option maxRecDepth 100000 in
/-- J9_floorMod_7cf53: the rest, of -1 -/
theorem c_floorModM (l : Launch) : Met l yJ9_floorMod_7cf53 wsJ9_floorMod_7cf53 ({ frames := 0, cells := 0, slots := 0, locals := 0 } : Room) (fun vV _ => vV = ([.int (-1), .int (nI 8)] : List Value).toArray) (vp_Si (fun (rR : Int32) => rR = nI 7)) 0 0 (fun _ => False) := by
  refine zSF (cc := cJ9_floorMod_7cf53) (maxL := 3) (ret := (some .int)) (by decide +kernel) rfl (Nat.le_of_ble_eq_true rfl) ?_
  intro pP eE sS mM below meth cC hx hb hr hts hown hlk hml ls hl
  have hl : lv_has ls 3 [(0, .int (-1)), (1, .int (nI 8))] := hl
  refine lv_iload_n hx hb dJ9_floorMod_7cf53_0 rfl (lv_at hl 0 rfl) ?_
  refine lv_iload_n hx hb dJ9_floorMod_7cf53_1 rfl (lv_at hl 1 rfl) ?_
  refine lv_irem hx hb dJ9_floorMod_7cf53_2 (by decide) ?_
  refine zk_top (y := (-1)) (by decide) ?_
  refine lv_istore_n (lv' := [(2, .int (-1)), (0, .int (-1)), (1, .int (nI 8))]) hx hb dJ9_floorMod_7cf53_3 rfl hl (by decide) rfl (fun ls hl => ?_)
  refine lv_iload_n hx hb dJ9_floorMod_7cf53_4 rfl (lv_at hl 1 rfl) ?_
  refine lv_iload_n hx hb dJ9_floorMod_7cf53_5 rfl (lv_at hl 2 rfl) ?_
  refine lv_ixor hx hb dJ9_floorMod_7cf53_6 ?_
  refine zk_top (y := (-9)) (by decide) ?_
  refine lv_if_ge (tgt := 18) hx hb dJ9_floorMod_7cf53_7 (by decide) (fun q => absurd q (by decide)) (fun _ => ?_)
  refine lv_iload_n hx hb dJ9_floorMod_7cf53_10 rfl (lv_at hl 0 rfl) ?_
  refine lv_if_eq (tgt := 18) hx hb dJ9_floorMod_7cf53_11 (by decide) (fun q => absurd q (by decide)) (fun _ => ?_)
  refine lv_iload_n hx hb dJ9_floorMod_7cf53_14 rfl (lv_at hl 0 rfl) ?_
  refine lv_iload_n hx hb dJ9_floorMod_7cf53_15 rfl (lv_at hl 2 rfl) ?_
  refine lv_iadd hx hb dJ9_floorMod_7cf53_16 ?_
  exact W.iret (v := (-1) + (nI 8)) hx hb hr (fun tT ht hW => ⟨_, rfl, rfl, ht⟩) (fun _ h => absurd h List.not_mem_nil) dJ9_floorMod_7cf53_17
set_option maxRecDepth 100000 in
theorem mwc_putText_0 : Cond.initialized RX2 ∈ wsX1_putText := by decide +kernel
set_option maxRecDepth 100000 in
theorem mwc_putText_1 : Cond.static yX2_isExhibit ∈ wsX1_putText := by decide +kernel
set_option maxRecDepth 100000 in
theorem mwc_putText_2 : Cond.static yX2_isText ∈ wsX1_putText := by decide +kernel
set_option maxRecDepth 100000 in
theorem mwc_putText_3 : Cond.constant RX1 64 (65535) ∈ wsX1_putText := by decide +kernel
set_option maxRecDepth 100000 in
theorem mwc_putText_4 : Cond.fieldLink RX1 9 "ExhibitTexts$State" "sizes" "[I" ∈ wsX1_putText := by decide +kernel
set_option maxRecDepth 100000 in
theorem mic_putText_1 : ∀ w ∈ u_ws RX1 TX1 12, w ∈ wsX1_putText := by decide +kernel
set_option maxRecDepth 100000 in
theorem mwc_putText_6 : Cond.fieldLink RX1 15 "ExhibitTexts$State" "cells" "[I" ∈ wsX1_putText := by decide +kernel
set_option maxHeartbeats 4000000 in
set_option maxRecDepth 100000 in
/-- X1_putText: a text is added -/
theorem c_putText (l : Launch) (G : zG) (a0 : Nat) (a1 : Nat) (a2 : Nat) (sz : Nat → Nat) (sc : Nat → Nat) (sg : Nat → Nat) (x : Int32) (aw : Int32) (as : Int32) (az : Int32) (af : Int32) (hM : mOK sg) (hR : sRel sz sc sg) : Met l yX1_putText wsX1_putText ({ frames := 1, cells := 0, slots := 0, locals := 22 } : Room) (zPc G [.ref a0, .int x, .int aw, .int as, .int az, .int af] [(a0, .inr (1, [.ref a1, .ref a2, .int (nI (sg 0)), .int (nI (sg 1)), .int (nI (sg 7)), .int (nI (sg 8)), .int (nI (sg 9)), .int (nI (sg 2)), .int (nI (sg 3)), .int (nI (sg 4)), .int (nI (sg 5)), .int (nI (sg 6))])), (a1, .inl (G.2.1, 8, .inl (arN sz))), (a2, .inl (G.2.1, 640, .inl (arN sc)))]) (va_Qi (fun (rR : Int32) (uU : (Nat → Nat) × (Nat → Nat) × (Nat → Nat)) => (¬ pE x ∧ rR = (-1) ∧ uU = (sg, sz, sc)) ∨ (∃ (eX : Nat), eX < 8 ∧ x = nI eX ∧ ¬ pTx aw as az af ∧ rR = (-2) ∧ uU = (sg, sz, sc)) ∨ (∃ (eX : Nat) (wX : Nat) (sX : Nat) (zX : Nat) (fX : Nat), eX < 8 ∧ x = nI eX ∧ 1 ≤ wX ∧ wX ≤ 300 ∧ 1 ≤ sX ∧ sX ≤ 50 ∧ sX ≤ wX ∧ zX ≤ wX ∧ 1 ≤ fX ∧ fX ≤ 65535 ∧ aw = nI wX ∧ as = nI sX ∧ az = nI zX ∧ af = nI fX ∧ sg (10 + 76 * eX) = 5 ∧ rR = (-3) ∧ uU = (sg, sz, sc)) ∨ (∃ (eX : Nat) (wX : Nat) (sX : Nat) (zX : Nat) (fX : Nat) (zZ : Nat → Nat) (cC : Nat → Nat), eX < 8 ∧ x = nI eX ∧ 1 ≤ wX ∧ wX ≤ 300 ∧ 1 ≤ sX ∧ sX ≤ 50 ∧ sX ≤ wX ∧ zX ≤ wX ∧ 1 ≤ fX ∧ fX ≤ 65535 ∧ aw = nI wX ∧ as = nI sX ∧ az = nI zX ∧ af = nI fX ∧ sg (10 + 76 * eX) < 5 ∧ sRel zZ cC (addT sg eX wX sX zX fX) ∧ mOK (addT sg eX wX sX zX fX) ∧ rR = nI (sg (10 + 76 * eX)) ∧ uU = (addT sg eX wX sX zX fX, zZ, cC))) (fun uU tT => va_P G.1 vwCl ((fun (uU : (Nat → Nat) × (Nat → Nat) × (Nat → Nat)) => ([(a0, .inr (1, [.ref a1, .ref a2, .int (nI (uU.1 0)), .int (nI (uU.1 1)), .int (nI (uU.1 7)), .int (nI (uU.1 8)), .int (nI (uU.1 9)), .int (nI (uU.1 2)), .int (nI (uU.1 3)), .int (nI (uU.1 4)), .int (nI (uU.1 5)), .int (nI (uU.1 6))])), (a1, .inl (G.2.1, 8, .inl (arN uU.2.1))), (a2, .inl (G.2.1, 640, .inl (arN uU.2.2)))] : va_W)) uU) tT.heap) (zIn [(a0, .inr (1, [.ref a1, .ref a2, .int (nI (sg 0)), .int (nI (sg 1)), .int (nI (sg 7)), .int (nI (sg 8)), .int (nI (sg 9)), .int (nI (sg 2)), .int (nI (sg 3)), .int (nI (sg 4)), .int (nI (sg 5)), .int (nI (sg 6))])), (a1, .inl (G.2.1, 8, .inl (arN sz))), (a2, .inl (G.2.1, 640, .inl (arN sc)))])) 0 0 (zIn [(a0, .inr (1, [.ref a1, .ref a2, .int (nI (sg 0)), .int (nI (sg 1)), .int (nI (sg 7)), .int (nI (sg 8)), .int (nI (sg 9)), .int (nI (sg 2)), .int (nI (sg 3)), .int (nI (sg 4)), .int (nI (sg 5)), .int (nI (sg 6))])), (a1, .inl (G.2.1, 8, .inl (arN sz))), (a2, .inl (G.2.1, 640, .inl (arN sc)))]) := by
  refine zM (cc := cX1_putText) (maxL := 8) (ret := (some .int)) (by decide) rfl (Nat.le_of_ble_eq_true rfl) ?_
  intro pP eE sS mM below meth cC hx hb hr hts hown hlk hml hnm hK hN hP hD hS ls hl
  have hl : lv_has ls 8 [(0, .ref a0), (1, .int x), (2, .int aw), (3, .int as), (4, .int az), (5, .int af)] := hl
  refine lv_iload_n hx hb dX1_putText_0 rfl (lv_at hl 1 rfl) ?_
  refine zc_SN (As := [.int x]) (rest := []) ⟨hx, hb, hml, hown, hts⟩ (c_xExhibit l x ) ⟨va_cnB 1 hts gX1_putText_X2_isExhibit_n56 rfl rfl rfl hN.X1_X2_isExhibit (hts _ mwc_putText_0) (by decide +kernel) ⟨Nat.le_of_ble_eq_true rfl, Nat.le_of_ble_eq_true rfl⟩, hts _ mwc_putText_1, trivial⟩ rfl hl.1 rfl (Nat.le_of_ble_eq_true rfl) dX1_putText_1 ⟨Nat.zero_le _, Nat.zero_le _⟩ (fun r1 h1 => ?_)
  rcases h1 with ⟨eX_1, h1_0, rfl, rfl⟩ | ⟨h1_0, rfl⟩
  · refine lv_if_ne (tgt := 9) hx hb dX1_putText_4 (by decide) (fun _ => ?_) (fun q => absurd q (by decide))
    refine lv_iload_n hx hb dX1_putText_9 rfl (lv_at hl 2 rfl) ?_
    refine lv_iload_n hx hb dX1_putText_10 rfl (lv_at hl 3 rfl) ?_
    refine lv_iload hx hb dX1_putText_11 (lv_at hl 4 rfl) ?_
    refine zc_SN (As := [.int aw, .int as, .int az]) (rest := []) ⟨hx, hb, hml, hown, hts⟩ (c_xText l aw as az ) ⟨va_cnB 3 hts gX1_putText_X2_isText_n60 rfl rfl rfl hN.X1_X2_isText (hts _ mwc_putText_0) (by decide +kernel) ⟨Nat.le_of_ble_eq_true rfl, Nat.le_of_ble_eq_true rfl⟩, hts _ mwc_putText_2, trivial⟩ rfl hl.1 rfl (Nat.le_of_ble_eq_true rfl) dX1_putText_13 ⟨Nat.zero_le _, Nat.zero_le _⟩ (fun r13 h13 => ?_)
    rcases h13 with ⟨wX_13, sX_13, zX_13, h13_0, h13_1, h13_2, h13_3, h13_4, h13_5, rfl, rfl, rfl, rfl⟩ | ⟨h13_0, rfl⟩
    · have hz5 := hM.2.1 eX_1 h1_0
      refine lv_if_eq (tgt := 32) hx hb dX1_putText_16 (by decide) (fun q => absurd q (by decide)) (fun _ => ?_)
      refine lv_iload hx hb dX1_putText_19 (lv_at hl 5 rfl) ?_
      refine lv_iconst (v := nI 1) hx hb dX1_putText_21 (by decide) ?_
      refine lv_icmp_lt (tgt := 32) hx hb dX1_putText_22 (by decide) (fun c22 => ?_) (fun c22 => ?_)
      · refine lv_bipush (v := (-2)) hx hb dX1_putText_32 (by decide) ?_
        exact W.iret (v := (-2)) hx hb hr (fun tT ht hW => ⟨⟨_, (sg, sz, sc), rfl, Or.inr (Or.inl ⟨eX_1, h1_0, rfl, pTx_f (in_no1 (by decide) (by decide) c22), rfl, rfl⟩), by show va_P G.1 vwCl _ tT.heap; rw [ht]; exact hP⟩, hS.F ht⟩) hS.2.2 dX1_putText_34
      · refine lv_iload hx hb dX1_putText_25 (lv_at hl 5 rfl) ?_
        refine lv_ldc (v := (65535 : Int32)) hx hb hown (hts _ mwc_putText_3) dX1_putText_27 ?_
        refine zk_top (y := nI 65535) rfl ?_
        refine lv_icmp_le (tgt := 35) hx hb dX1_putText_29 (by decide) (fun c29 => ?_) (fun c29 => ?_)
        · obtain ⟨fY, hf1, hf2, rfl⟩ := in_yesL (by decide) (by decide) c22 c29
          refine lv_aload_n hx hb dX1_putText_35 rfl (lv_at hl 0 rfl) ?_
          refine va_get (D := G.1) (ci := 1) (v := .ref a1) (C := RX1) (T := TX1) (N := 12) hx hb hts mic_putText_1 hown hK hP 0 rfl rfl 0 (by decide) (hts _ mwc_putText_4) (fun _ h9 => h9) rfl dX1_putText_36 ?_
          refine lv_iload_n hx hb dX1_putText_39 rfl (lv_at hl 1 rfl) ?_
          refine zk_ald (f := sz) (k := eX_1) hx hb hK hP 1 0 rfl rfl (Nat.le_of_ble_eq_true rfl) (by omega) dX1_putText_40 ?_
          refine zk_top (y := nI (sg (10 + 76 * eX_1))) (congrArg nI (hR.1 eX_1 h1_0)) ?_
          refine lv_istore (lv' := [(6, .int (nI (sg (10 + 76 * eX_1)))), (0, .ref a0), (1, .int (nI eX_1)), (2, .int (nI wX_13)), (3, .int (nI sX_13)), (4, .int (nI zX_13)), (5, .int (nI fY))]) hx hb dX1_putText_41 hl (by decide) rfl (fun ls hl => ?_)
          refine lv_iload hx hb dX1_putText_43 (lv_at hl 0 rfl) ?_
          refine lv_iconst (v := nI 5) hx hb dX1_putText_45 (by decide) ?_
          refine zk_ilt (tgt := 52) hx hb dX1_putText_46 (by decide) (by omega) (by omega) (fun c46 => ?_) (fun c46 => ?_)
          · refine lv_iload_n hx hb dX1_putText_52 rfl (lv_at hl 2 rfl) ?_
            refine lv_iconst (v := nI 5) hx hb dX1_putText_53 (by decide) ?_
            refine zk_mul hx hb dX1_putText_54 ?_
            refine lv_iload hx hb dX1_putText_55 (lv_at hl 0 rfl) ?_
            refine zk_add hx hb dX1_putText_57 ?_
            refine lv_bipush (v := nI 16) hx hb dX1_putText_58 (by decide) ?_
            refine zk_mul hx hb dX1_putText_60 ?_
            refine lv_istore (lv' := [(7, .int (nI (((eX_1 * 5) + (sg (10 + 76 * eX_1))) * 16))), (6, .int (nI (sg (10 + 76 * eX_1)))), (0, .ref a0), (1, .int (nI eX_1)), (2, .int (nI wX_13)), (3, .int (nI sX_13)), (4, .int (nI zX_13)), (5, .int (nI fY))]) hx hb dX1_putText_61 hl (by decide) rfl (fun ls hl => ?_)
            refine lv_aload_n hx hb dX1_putText_63 rfl (lv_at hl 2 rfl) ?_
            refine va_get (D := G.1) (ci := 1) (v := .ref a2) (C := RX1) (T := TX1) (N := 12) hx hb hts mic_putText_1 hown hK hP 0 rfl rfl 1 (by decide) (hts _ mwc_putText_6) (fun _ h9 => h9) rfl dX1_putText_64 ?_
            refine lv_iload hx hb dX1_putText_67 (lv_at hl 0 rfl) ?_
            refine lv_iconst (v := nI 0) hx hb dX1_putText_69 (by decide) ?_
            refine zk_add hx hb dX1_putText_70 ?_
            refine lv_iload_n hx hb dX1_putText_71 rfl (lv_at hl 4 rfl) ?_
            refine zk_ast (f := sc) (k := (((eX_1 * 5) + (sg (10 + 76 * eX_1))) * 16) + 0) (v := wX_13) (ws2 := [(a0, .inr (1, [.ref a1, .ref a2, .int (nI (sg 0)), .int (nI (sg 1)), .int (nI (sg 7)), .int (nI (sg 8)), .int (nI (sg 9)), .int (nI (sg 2)), .int (nI (sg 3)), .int (nI (sg 4)), .int (nI (sg 5)), .int (nI (sg 6))])), (a1, .inl (G.2.1, 8, .inl (arN sz))), (a2, .inl (G.2.1, 640, .inl (arN (arU sc ((((eX_1 * 5) + (sg (10 + 76 * eX_1))) * 16) + 0) wX_13))))]) hx hb hK hP hD hS 2 0 rfl rfl (Nat.le_of_ble_eq_true rfl) (by omega) rfl dX1_putText_72 (fun H locs hP hD hS => ?_)
            refine lv_aload_n hx hb dX1_putText_73 rfl (lv_at hl 2 rfl) ?_
            refine va_get (D := G.1) (ci := 1) (v := .ref a2) (C := RX1) (T := TX1) (N := 12) hx hb hts mic_putText_1 hown hK hP 0 rfl rfl 1 (by decide) (hts _ mwc_putText_6) (fun _ h9 => h9) rfl dX1_putText_74 ?_
            refine lv_iload hx hb dX1_putText_77 (lv_at hl 0 rfl) ?_
            refine lv_iconst (v := nI 1) hx hb dX1_putText_79 (by decide) ?_
            refine zk_add hx hb dX1_putText_80 ?_
            refine lv_iload_n hx hb dX1_putText_81 rfl (lv_at hl 5 rfl) ?_
            refine zk_ast (f := arU sc ((((eX_1 * 5) + (sg (10 + 76 * eX_1))) * 16) + 0) wX_13) (k := (((eX_1 * 5) + (sg (10 + 76 * eX_1))) * 16) + 1) (v := sX_13) (ws2 := [(a0, .inr (1, [.ref a1, .ref a2, .int (nI (sg 0)), .int (nI (sg 1)), .int (nI (sg 7)), .int (nI (sg 8)), .int (nI (sg 9)), .int (nI (sg 2)), .int (nI (sg 3)), .int (nI (sg 4)), .int (nI (sg 5)), .int (nI (sg 6))])), (a1, .inl (G.2.1, 8, .inl (arN sz))), (a2, .inl (G.2.1, 640, .inl (arN (arU (arU sc ((((eX_1 * 5) + (sg (10 + 76 * eX_1))) * 16) + 0) wX_13) ((((eX_1 * 5) + (sg (10 + 76 * eX_1))) * 16) + 1) sX_13))))]) hx hb hK hP hD hS 2 0 rfl rfl (Nat.le_of_ble_eq_true rfl) (by omega) rfl dX1_putText_82 (fun H locs hP hD hS => ?_)
            refine lv_aload_n hx hb dX1_putText_83 rfl (lv_at hl 2 rfl) ?_
            refine va_get (D := G.1) (ci := 1) (v := .ref a2) (C := RX1) (T := TX1) (N := 12) hx hb hts mic_putText_1 hown hK hP 0 rfl rfl 1 (by decide) (hts _ mwc_putText_6) (fun _ h9 => h9) rfl dX1_putText_84 ?_
            refine lv_iload hx hb dX1_putText_87 (lv_at hl 0 rfl) ?_
            refine lv_iconst (v := nI 2) hx hb dX1_putText_89 (by decide) ?_
            refine zk_add hx hb dX1_putText_90 ?_
            refine lv_iload hx hb dX1_putText_91 (lv_at hl 6 rfl) ?_
            refine zk_ast (f := arU (arU sc ((((eX_1 * 5) + (sg (10 + 76 * eX_1))) * 16) + 0) wX_13) ((((eX_1 * 5) + (sg (10 + 76 * eX_1))) * 16) + 1) sX_13) (k := (((eX_1 * 5) + (sg (10 + 76 * eX_1))) * 16) + 2) (v := zX_13) (ws2 := [(a0, .inr (1, [.ref a1, .ref a2, .int (nI (sg 0)), .int (nI (sg 1)), .int (nI (sg 7)), .int (nI (sg 8)), .int (nI (sg 9)), .int (nI (sg 2)), .int (nI (sg 3)), .int (nI (sg 4)), .int (nI (sg 5)), .int (nI (sg 6))])), (a1, .inl (G.2.1, 8, .inl (arN sz))), (a2, .inl (G.2.1, 640, .inl (arN (arU (arU (arU sc ((((eX_1 * 5) + (sg (10 + 76 * eX_1))) * 16) + 0) wX_13) ((((eX_1 * 5) + (sg (10 + 76 * eX_1))) * 16) + 1) sX_13) ((((eX_1 * 5) + (sg (10 + 76 * eX_1))) * 16) + 2) zX_13))))]) hx hb hK hP hD hS 2 0 rfl rfl (Nat.le_of_ble_eq_true rfl) (by omega) rfl dX1_putText_93 (fun H locs hP hD hS => ?_)
            refine lv_aload_n hx hb dX1_putText_94 rfl (lv_at hl 2 rfl) ?_
            refine va_get (D := G.1) (ci := 1) (v := .ref a2) (C := RX1) (T := TX1) (N := 12) hx hb hts mic_putText_1 hown hK hP 0 rfl rfl 1 (by decide) (hts _ mwc_putText_6) (fun _ h9 => h9) rfl dX1_putText_95 ?_
            refine lv_iload hx hb dX1_putText_98 (lv_at hl 0 rfl) ?_
            refine lv_iconst (v := nI 3) hx hb dX1_putText_100 (by decide) ?_
            refine zk_add hx hb dX1_putText_101 ?_
            refine lv_iload hx hb dX1_putText_102 (lv_at hl 7 rfl) ?_
            refine zk_ast (f := arU (arU (arU sc ((((eX_1 * 5) + (sg (10 + 76 * eX_1))) * 16) + 0) wX_13) ((((eX_1 * 5) + (sg (10 + 76 * eX_1))) * 16) + 1) sX_13) ((((eX_1 * 5) + (sg (10 + 76 * eX_1))) * 16) + 2) zX_13) (k := (((eX_1 * 5) + (sg (10 + 76 * eX_1))) * 16) + 3) (v := fY) (ws2 := [(a0, .inr (1, [.ref a1, .ref a2, .int (nI (sg 0)), .int (nI (sg 1)), .int (nI (sg 7)), .int (nI (sg 8)), .int (nI (sg 9)), .int (nI (sg 2)), .int (nI (sg 3)), .int (nI (sg 4)), .int (nI (sg 5)), .int (nI (sg 6))])), (a1, .inl (G.2.1, 8, .inl (arN sz))), (a2, .inl (G.2.1, 640, .inl (arN (arU (arU (arU (arU sc ((((eX_1 * 5) + (sg (10 + 76 * eX_1))) * 16) + 0) wX_13) ((((eX_1 * 5) + (sg (10 + 76 * eX_1))) * 16) + 1) sX_13) ((((eX_1 * 5) + (sg (10 + 76 * eX_1))) * 16) + 2) zX_13) ((((eX_1 * 5) + (sg (10 + 76 * eX_1))) * 16) + 3) fY))))]) hx hb hK hP hD hS 2 0 rfl rfl (Nat.le_of_ble_eq_true rfl) (by omega) rfl dX1_putText_104 (fun H locs hP hD hS => ?_)
            refine lv_aload_n hx hb dX1_putText_105 rfl (lv_at hl 2 rfl) ?_
            refine va_get (D := G.1) (ci := 1) (v := .ref a2) (C := RX1) (T := TX1) (N := 12) hx hb hts mic_putText_1 hown hK hP 0 rfl rfl 1 (by decide) (hts _ mwc_putText_6) (fun _ h9 => h9) rfl dX1_putText_106 ?_
            refine lv_iload hx hb dX1_putText_109 (lv_at hl 0 rfl) ?_
            refine lv_iconst (v := nI 4) hx hb dX1_putText_111 (by decide) ?_
            refine zk_add hx hb dX1_putText_112 ?_
            refine lv_iconst (v := nI 4) hx hb dX1_putText_113 (by decide) ?_
            refine lv_iload_n hx hb dX1_putText_114 rfl (lv_at hl 4 rfl) ?_
            refine lv_iconst (v := nI 2) hx hb dX1_putText_115 (by decide) ?_
            refine lv_iload_n hx hb dX1_putText_116 rfl (lv_at hl 5 rfl) ?_
            refine zk_mul hx hb dX1_putText_117 ?_
            refine zk_div hx hb dX1_putText_118 (by omega) (by omega) (by omega) ?_
            refine zk_add hx hb dX1_putText_119 ?_
            refine lv_bipush (v := nI 30) hx hb dX1_putText_120 (by decide) ?_
            refine lv_iload hx hb dX1_putText_122 (lv_at hl 6 rfl) ?_
            refine zk_mul hx hb dX1_putText_124 ?_
            refine lv_iload_n hx hb dX1_putText_125 rfl (lv_at hl 4 rfl) ?_
            refine zk_div hx hb dX1_putText_126 (by omega) (by omega) (by omega) ?_
            refine zk_add hx hb dX1_putText_127 ?_
            refine zk_ast (f := arU (arU (arU (arU sc ((((eX_1 * 5) + (sg (10 + 76 * eX_1))) * 16) + 0) wX_13) ((((eX_1 * 5) + (sg (10 + 76 * eX_1))) * 16) + 1) sX_13) ((((eX_1 * 5) + (sg (10 + 76 * eX_1))) * 16) + 2) zX_13) ((((eX_1 * 5) + (sg (10 + 76 * eX_1))) * 16) + 3) fY) (k := (((eX_1 * 5) + (sg (10 + 76 * eX_1))) * 16) + 4) (v := (4 + (wX_13 / (2 * sX_13))) + ((30 * zX_13) / wX_13)) (ws2 := [(a0, .inr (1, [.ref a1, .ref a2, .int (nI (sg 0)), .int (nI (sg 1)), .int (nI (sg 7)), .int (nI (sg 8)), .int (nI (sg 9)), .int (nI (sg 2)), .int (nI (sg 3)), .int (nI (sg 4)), .int (nI (sg 5)), .int (nI (sg 6))])), (a1, .inl (G.2.1, 8, .inl (arN sz))), (a2, .inl (G.2.1, 640, .inl (arN (arU (arU (arU (arU (arU sc ((((eX_1 * 5) + (sg (10 + 76 * eX_1))) * 16) + 0) wX_13) ((((eX_1 * 5) + (sg (10 + 76 * eX_1))) * 16) + 1) sX_13) ((((eX_1 * 5) + (sg (10 + 76 * eX_1))) * 16) + 2) zX_13) ((((eX_1 * 5) + (sg (10 + 76 * eX_1))) * 16) + 3) fY) ((((eX_1 * 5) + (sg (10 + 76 * eX_1))) * 16) + 4) ((4 + (wX_13 / (2 * sX_13))) + ((30 * zX_13) / wX_13))))))]) hx hb hK hP hD hS 2 0 rfl rfl (Nat.le_of_ble_eq_true rfl) (by omega) rfl dX1_putText_128 (fun H locs hP hD hS => ?_)
            refine lv_aload_n hx hb dX1_putText_129 rfl (lv_at hl 2 rfl) ?_
            refine va_get (D := G.1) (ci := 1) (v := .ref a2) (C := RX1) (T := TX1) (N := 12) hx hb hts mic_putText_1 hown hK hP 0 rfl rfl 1 (by decide) (hts _ mwc_putText_6) (fun _ h9 => h9) rfl dX1_putText_130 ?_
            refine lv_iload hx hb dX1_putText_133 (lv_at hl 0 rfl) ?_
            refine lv_iconst (v := nI 5) hx hb dX1_putText_135 (by decide) ?_
            refine zk_add hx hb dX1_putText_136 ?_
            refine lv_iconst (v := nI 0) hx hb dX1_putText_137 (by decide) ?_
            refine zk_ast (f := arU (arU (arU (arU (arU sc ((((eX_1 * 5) + (sg (10 + 76 * eX_1))) * 16) + 0) wX_13) ((((eX_1 * 5) + (sg (10 + 76 * eX_1))) * 16) + 1) sX_13) ((((eX_1 * 5) + (sg (10 + 76 * eX_1))) * 16) + 2) zX_13) ((((eX_1 * 5) + (sg (10 + 76 * eX_1))) * 16) + 3) fY) ((((eX_1 * 5) + (sg (10 + 76 * eX_1))) * 16) + 4) ((4 + (wX_13 / (2 * sX_13))) + ((30 * zX_13) / wX_13))) (k := (((eX_1 * 5) + (sg (10 + 76 * eX_1))) * 16) + 5) (v := 0) (ws2 := [(a0, .inr (1, [.ref a1, .ref a2, .int (nI (sg 0)), .int (nI (sg 1)), .int (nI (sg 7)), .int (nI (sg 8)), .int (nI (sg 9)), .int (nI (sg 2)), .int (nI (sg 3)), .int (nI (sg 4)), .int (nI (sg 5)), .int (nI (sg 6))])), (a1, .inl (G.2.1, 8, .inl (arN sz))), (a2, .inl (G.2.1, 640, .inl (arN (arU (arU (arU (arU (arU (arU sc ((((eX_1 * 5) + (sg (10 + 76 * eX_1))) * 16) + 0) wX_13) ((((eX_1 * 5) + (sg (10 + 76 * eX_1))) * 16) + 1) sX_13) ((((eX_1 * 5) + (sg (10 + 76 * eX_1))) * 16) + 2) zX_13) ((((eX_1 * 5) + (sg (10 + 76 * eX_1))) * 16) + 3) fY) ((((eX_1 * 5) + (sg (10 + 76 * eX_1))) * 16) + 4) ((4 + (wX_13 / (2 * sX_13))) + ((30 * zX_13) / wX_13))) ((((eX_1 * 5) + (sg (10 + 76 * eX_1))) * 16) + 5) 0))))]) hx hb hK hP hD hS 2 0 rfl rfl (Nat.le_of_ble_eq_true rfl) (by omega) rfl dX1_putText_138 (fun H locs hP hD hS => ?_)
            refine lv_aload_n hx hb dX1_putText_139 rfl (lv_at hl 2 rfl) ?_
            refine va_get (D := G.1) (ci := 1) (v := .ref a2) (C := RX1) (T := TX1) (N := 12) hx hb hts mic_putText_1 hown hK hP 0 rfl rfl 1 (by decide) (hts _ mwc_putText_6) (fun _ h9 => h9) rfl dX1_putText_140 ?_
            refine lv_iload hx hb dX1_putText_143 (lv_at hl 0 rfl) ?_
            refine lv_bipush (v := nI 6) hx hb dX1_putText_145 (by decide) ?_
            refine zk_add hx hb dX1_putText_147 ?_
            refine lv_iconst (v := nI 0) hx hb dX1_putText_148 (by decide) ?_
            refine zk_ast (f := arU (arU (arU (arU (arU (arU sc ((((eX_1 * 5) + (sg (10 + 76 * eX_1))) * 16) + 0) wX_13) ((((eX_1 * 5) + (sg (10 + 76 * eX_1))) * 16) + 1) sX_13) ((((eX_1 * 5) + (sg (10 + 76 * eX_1))) * 16) + 2) zX_13) ((((eX_1 * 5) + (sg (10 + 76 * eX_1))) * 16) + 3) fY) ((((eX_1 * 5) + (sg (10 + 76 * eX_1))) * 16) + 4) ((4 + (wX_13 / (2 * sX_13))) + ((30 * zX_13) / wX_13))) ((((eX_1 * 5) + (sg (10 + 76 * eX_1))) * 16) + 5) 0) (k := (((eX_1 * 5) + (sg (10 + 76 * eX_1))) * 16) + 6) (v := 0) (ws2 := [(a0, .inr (1, [.ref a1, .ref a2, .int (nI (sg 0)), .int (nI (sg 1)), .int (nI (sg 7)), .int (nI (sg 8)), .int (nI (sg 9)), .int (nI (sg 2)), .int (nI (sg 3)), .int (nI (sg 4)), .int (nI (sg 5)), .int (nI (sg 6))])), (a1, .inl (G.2.1, 8, .inl (arN sz))), (a2, .inl (G.2.1, 640, .inl (arN (arU (arU (arU (arU (arU (arU (arU sc ((((eX_1 * 5) + (sg (10 + 76 * eX_1))) * 16) + 0) wX_13) ((((eX_1 * 5) + (sg (10 + 76 * eX_1))) * 16) + 1) sX_13) ((((eX_1 * 5) + (sg (10 + 76 * eX_1))) * 16) + 2) zX_13) ((((eX_1 * 5) + (sg (10 + 76 * eX_1))) * 16) + 3) fY) ((((eX_1 * 5) + (sg (10 + 76 * eX_1))) * 16) + 4) ((4 + (wX_13 / (2 * sX_13))) + ((30 * zX_13) / wX_13))) ((((eX_1 * 5) + (sg (10 + 76 * eX_1))) * 16) + 5) 0) ((((eX_1 * 5) + (sg (10 + 76 * eX_1))) * 16) + 6) 0))))]) hx hb hK hP hD hS 2 0 rfl rfl (Nat.le_of_ble_eq_true rfl) (by omega) rfl dX1_putText_149 (fun H locs hP hD hS => ?_)
            refine lv_aload_n hx hb dX1_putText_150 rfl (lv_at hl 2 rfl) ?_
            refine va_get (D := G.1) (ci := 1) (v := .ref a1) (C := RX1) (T := TX1) (N := 12) hx hb hts mic_putText_1 hown hK hP 0 rfl rfl 0 (by decide) (hts _ mwc_putText_4) (fun _ h9 => h9) rfl dX1_putText_151 ?_
            refine lv_iload_n hx hb dX1_putText_154 rfl (lv_at hl 3 rfl) ?_
            refine lv_iload hx hb dX1_putText_155 (lv_at hl 1 rfl) ?_
            refine lv_iconst (v := nI 1) hx hb dX1_putText_157 (by decide) ?_
            refine zk_add hx hb dX1_putText_158 ?_
            refine zk_ast (f := sz) (k := eX_1) (v := (sg (10 + 76 * eX_1)) + 1) (ws2 := [(a0, .inr (1, [.ref a1, .ref a2, .int (nI (sg 0)), .int (nI (sg 1)), .int (nI (sg 7)), .int (nI (sg 8)), .int (nI (sg 9)), .int (nI (sg 2)), .int (nI (sg 3)), .int (nI (sg 4)), .int (nI (sg 5)), .int (nI (sg 6))])), (a1, .inl (G.2.1, 8, .inl (arN (arU sz eX_1 ((sg (10 + 76 * eX_1)) + 1))))), (a2, .inl (G.2.1, 640, .inl (arN (arU (arU (arU (arU (arU (arU (arU sc ((((eX_1 * 5) + (sg (10 + 76 * eX_1))) * 16) + 0) wX_13) ((((eX_1 * 5) + (sg (10 + 76 * eX_1))) * 16) + 1) sX_13) ((((eX_1 * 5) + (sg (10 + 76 * eX_1))) * 16) + 2) zX_13) ((((eX_1 * 5) + (sg (10 + 76 * eX_1))) * 16) + 3) fY) ((((eX_1 * 5) + (sg (10 + 76 * eX_1))) * 16) + 4) ((4 + (wX_13 / (2 * sX_13))) + ((30 * zX_13) / wX_13))) ((((eX_1 * 5) + (sg (10 + 76 * eX_1))) * 16) + 5) 0) ((((eX_1 * 5) + (sg (10 + 76 * eX_1))) * 16) + 6) 0))))]) hx hb hK hP hD hS 1 0 rfl rfl (Nat.le_of_ble_eq_true rfl) (by omega) rfl dX1_putText_159 (fun H locs hP hD hS => ?_)
            refine lv_iload hx hb dX1_putText_160 (lv_at hl 1 rfl) ?_
            have qf0 : addT sg eX_1 wX_13 sX_13 zX_13 fY 0 = sg 0 := addT_lo 0 (by omega)
            have qf1 : addT sg eX_1 wX_13 sX_13 zX_13 fY 1 = sg 1 := addT_lo 1 (by omega)
            have qf7 : addT sg eX_1 wX_13 sX_13 zX_13 fY 7 = sg 7 := addT_lo 7 (by omega)
            have qf8 : addT sg eX_1 wX_13 sX_13 zX_13 fY 8 = sg 8 := addT_lo 8 (by omega)
            have qf9 : addT sg eX_1 wX_13 sX_13 zX_13 fY 9 = sg 9 := addT_lo 9 (by omega)
            have qf2 : addT sg eX_1 wX_13 sX_13 zX_13 fY 2 = sg 2 := addT_lo 2 (by omega)
            have qf3 : addT sg eX_1 wX_13 sX_13 zX_13 fY 3 = sg 3 := addT_lo 3 (by omega)
            have qf4 : addT sg eX_1 wX_13 sX_13 zX_13 fY 4 = sg 4 := addT_lo 4 (by omega)
            have qf5 : addT sg eX_1 wX_13 sX_13 zX_13 fY 5 = sg 5 := addT_lo 5 (by omega)
            have qf6 : addT sg eX_1 wX_13 sX_13 zX_13 fY 6 = sg 6 := addT_lo 6 (by omega)
            have hP : va_P G.1 vwCl [(a0, .inr (1, [.ref a1, .ref a2, .int (nI ((addT sg eX_1 wX_13 sX_13 zX_13 fY) 0)), .int (nI ((addT sg eX_1 wX_13 sX_13 zX_13 fY) 1)), .int (nI ((addT sg eX_1 wX_13 sX_13 zX_13 fY) 7)), .int (nI ((addT sg eX_1 wX_13 sX_13 zX_13 fY) 8)), .int (nI ((addT sg eX_1 wX_13 sX_13 zX_13 fY) 9)), .int (nI ((addT sg eX_1 wX_13 sX_13 zX_13 fY) 2)), .int (nI ((addT sg eX_1 wX_13 sX_13 zX_13 fY) 3)), .int (nI ((addT sg eX_1 wX_13 sX_13 zX_13 fY) 4)), .int (nI ((addT sg eX_1 wX_13 sX_13 zX_13 fY) 5)), .int (nI ((addT sg eX_1 wX_13 sX_13 zX_13 fY) 6))])), (a1, .inl (G.2.1, 8, .inl (arN (arU sz eX_1 ((sg (10 + 76 * eX_1)) + 1))))), (a2, .inl (G.2.1, 640, .inl (arN (arU (arU (arU (arU (arU (arU (arU sc ((((eX_1 * 5) + (sg (10 + 76 * eX_1))) * 16) + 0) wX_13) ((((eX_1 * 5) + (sg (10 + 76 * eX_1))) * 16) + 1) sX_13) ((((eX_1 * 5) + (sg (10 + 76 * eX_1))) * 16) + 2) zX_13) ((((eX_1 * 5) + (sg (10 + 76 * eX_1))) * 16) + 3) fY) ((((eX_1 * 5) + (sg (10 + 76 * eX_1))) * 16) + 4) ((4 + (wX_13 / (2 * sX_13))) + ((30 * zX_13) / wX_13))) ((((eX_1 * 5) + (sg (10 + 76 * eX_1))) * 16) + 5) 0) ((((eX_1 * 5) + (sg (10 + 76 * eX_1))) * 16) + 6) 0))))] H := by rw [qf0, qf1, qf7, qf8, qf9, qf2, qf3, qf4, qf5, qf6]; exact hP
            have hD : va_D (zIn [(a0, .inr (1, [.ref a1, .ref a2, .int (nI (sg 0)), .int (nI (sg 1)), .int (nI (sg 7)), .int (nI (sg 8)), .int (nI (sg 9)), .int (nI (sg 2)), .int (nI (sg 3)), .int (nI (sg 4)), .int (nI (sg 5)), .int (nI (sg 6))])), (a1, .inl (G.2.1, 8, .inl (arN sz))), (a2, .inl (G.2.1, 640, .inl (arN sc)))]) [(a0, .inr (1, [.ref a1, .ref a2, .int (nI ((addT sg eX_1 wX_13 sX_13 zX_13 fY) 0)), .int (nI ((addT sg eX_1 wX_13 sX_13 zX_13 fY) 1)), .int (nI ((addT sg eX_1 wX_13 sX_13 zX_13 fY) 7)), .int (nI ((addT sg eX_1 wX_13 sX_13 zX_13 fY) 8)), .int (nI ((addT sg eX_1 wX_13 sX_13 zX_13 fY) 9)), .int (nI ((addT sg eX_1 wX_13 sX_13 zX_13 fY) 2)), .int (nI ((addT sg eX_1 wX_13 sX_13 zX_13 fY) 3)), .int (nI ((addT sg eX_1 wX_13 sX_13 zX_13 fY) 4)), .int (nI ((addT sg eX_1 wX_13 sX_13 zX_13 fY) 5)), .int (nI ((addT sg eX_1 wX_13 sX_13 zX_13 fY) 6))])), (a1, .inl (G.2.1, 8, .inl (arN (arU sz eX_1 ((sg (10 + 76 * eX_1)) + 1))))), (a2, .inl (G.2.1, 640, .inl (arN (arU (arU (arU (arU (arU (arU (arU sc ((((eX_1 * 5) + (sg (10 + 76 * eX_1))) * 16) + 0) wX_13) ((((eX_1 * 5) + (sg (10 + 76 * eX_1))) * 16) + 1) sX_13) ((((eX_1 * 5) + (sg (10 + 76 * eX_1))) * 16) + 2) zX_13) ((((eX_1 * 5) + (sg (10 + 76 * eX_1))) * 16) + 3) fY) ((((eX_1 * 5) + (sg (10 + 76 * eX_1))) * 16) + 4) ((4 + (wX_13 / (2 * sX_13))) + ((30 * zX_13) / wX_13))) ((((eX_1 * 5) + (sg (10 + 76 * eX_1))) * 16) + 5) 0) ((((eX_1 * 5) + (sg (10 + 76 * eX_1))) * 16) + 6) 0))))] := by rw [qf0, qf1, qf7, qf8, qf9, qf2, qf3, qf4, qf5, qf6]; exact hD
            exact W.iret (v := nI (sg (10 + 76 * eX_1))) hx hb hr (fun tT ht hW => ⟨⟨_, (addT sg eX_1 wX_13 sX_13 zX_13 fY, arU sz eX_1 (sg (10 + 76 * eX_1) + 1), rowT sc eX_1 (sg (10 + 76 * eX_1)) wX_13 sX_13 zX_13 fY), rfl, Or.inr (Or.inr (Or.inr ⟨eX_1, wX_13, sX_13, zX_13, fY, _, _, h1_0, rfl, h13_0, h13_1, h13_2, h13_3, h13_4, h13_5, hf1, hf2, rfl, rfl, rfl, rfl, c46, rel_addT hM hR h1_0 c46, mOK_addT hM h1_0 c46 ⟨h13_0, h13_1⟩ ⟨h13_2, h13_3⟩ h13_5 ⟨hf1, hf2⟩, rfl, rfl⟩)), by show va_P G.1 vwCl _ tT.heap; rw [ht]; exact hP⟩, hS.F ht⟩) hS.2.2 dX1_putText_162
          · refine lv_bipush (v := (-3)) hx hb dX1_putText_49 (by decide) ?_
            exact W.iret (v := (-3)) hx hb hr (fun tT ht hW => ⟨⟨_, (sg, sz, sc), rfl, Or.inr (Or.inr (Or.inl ⟨eX_1, wX_13, sX_13, zX_13, fY, h1_0, rfl, h13_0, h13_1, h13_2, h13_3, h13_4, h13_5, hf1, hf2, rfl, rfl, rfl, rfl, by omega, rfl, rfl⟩)), by show va_P G.1 vwCl _ tT.heap; rw [ht]; exact hP⟩, hS.F ht⟩) hS.2.2 dX1_putText_51
        · refine lv_bipush (v := (-2)) hx hb dX1_putText_32 (by decide) ?_
          exact W.iret (v := (-2)) hx hb hr (fun tT ht hW => ⟨⟨_, (sg, sz, sc), rfl, Or.inr (Or.inl ⟨eX_1, h1_0, rfl, pTx_f (in_no3 (by decide) (by decide) c29), rfl, rfl⟩), by show va_P G.1 vwCl _ tT.heap; rw [ht]; exact hP⟩, hS.F ht⟩) hS.2.2 dX1_putText_34
    · refine lv_if_eq (tgt := 32) hx hb dX1_putText_16 (by decide) (fun _ => ?_) (fun q => absurd (by decide) q)
      refine lv_bipush (v := (-2)) hx hb dX1_putText_32 (by decide) ?_
      exact W.iret (v := (-2)) hx hb hr (fun tT ht hW => ⟨⟨_, (sg, sz, sc), rfl, Or.inr (Or.inl ⟨eX_1, h1_0, rfl, fun ⟨w1, s1, z1, f1, q1, q2, q3, q4, q5, q6, q7, q8⟩ => h13_0 ⟨w1, s1, z1, q1, q2, q3, q5, q6, q7⟩, rfl, rfl⟩), by show va_P G.1 vwCl _ tT.heap; rw [ht]; exact hP⟩, hS.F ht⟩) hS.2.2 dX1_putText_34
  · refine lv_if_ne (tgt := 9) hx hb dX1_putText_4 (by decide) (fun q => absurd (by decide) q) (fun _ => ?_)
    refine lv_iconst (v := (-1)) hx hb dX1_putText_7 (by decide) ?_
    exact W.iret (v := (-1)) hx hb hr (fun tT ht hW => ⟨⟨_, (sg, sz, sc), rfl, Or.inl ⟨h1_0, rfl, rfl⟩, by show va_P G.1 vwCl _ tT.heap; rw [ht]; exact hP⟩, hS.F ht⟩) hS.2.2 dX1_putText_8
set_option maxRecDepth 100000 in
theorem mwc_dropText_0 : Cond.fieldLink RX1 9 "ExhibitTexts$State" "sizes" "[I" ∈ wsX1_dropText := by decide +kernel
set_option maxRecDepth 100000 in
theorem mic_dropText_1 : ∀ w ∈ u_ws RX1 TX1 12, w ∈ wsX1_dropText := by decide +kernel
set_option maxRecDepth 100000 in
theorem mwc_dropText_2 : Cond.fieldLink RX1 15 "ExhibitTexts$State" "cells" "[I" ∈ wsX1_dropText := by decide +kernel
set_option maxRecDepth 100000 in
theorem mwc_dropText_3 : Cond.methodLink RX1 22 arraycopyName ∈ wsX1_dropText := by decide +kernel
set_option maxRecDepth 100000 in
theorem mwc_dropText_4 : Cond.native arraycopyName ∈ wsX1_dropText := by decide +kernel
set_option maxRecDepth 100000 in
theorem mwc_dropText_5 : Cond.static arraycopyName ∈ wsX1_dropText := by decide +kernel
set_option maxRecDepth 100000 in
theorem mwc_dropText_6 : Cond.initialized "java/lang/System" ∈ wsX1_dropText := by decide +kernel
set_option maxHeartbeats 4000000 in
set_option maxRecDepth 100000 in
/-- X1_dropText: a text goes -/
theorem c_dropText (l : Launch) (G : zG) (a0 : Nat) (a1 : Nat) (a2 : Nat) (sz : Nat → Nat) (sc : Nat → Nat) (sg : Nat → Nat) (x : Int32) (y : Int32) (hM : mOK sg) (hR : sRel sz sc sg) : Met l yX1_dropText wsX1_dropText ({ frames := 2, cells := 0, slots := 0, locals := 42 } : Room) (zPc G [.ref a0, .int x, .int y] [(a0, .inr (1, [.ref a1, .ref a2, .int (nI (sg 0)), .int (nI (sg 1)), .int (nI (sg 7)), .int (nI (sg 8)), .int (nI (sg 9)), .int (nI (sg 2)), .int (nI (sg 3)), .int (nI (sg 4)), .int (nI (sg 5)), .int (nI (sg 6))])), (a1, .inl (G.2.1, 8, .inl (arN sz))), (a2, .inl (G.2.1, 640, .inl (arN sc)))]) (va_Qi (fun (rR : Int32) (uU : (Nat → Nat) × (Nat → Nat) × (Nat → Nat)) => (¬ pTn (szF sg) x y ∧ rR = (-1) ∧ uU = (sg, sz, sc)) ∨ (∃ (eX : Nat) (tX : Nat) (zZ : Nat → Nat) (cC : Nat → Nat), eX < 8 ∧ tX < sg (10 + 76 * eX) ∧ x = nI eX ∧ y = nI tX ∧ sRel zZ cC (rmT sg eX tX) ∧ mOK (rmT sg eX tX) ∧ rR = nI (sg (10 + 76 * eX) - 1) ∧ uU = (rmT sg eX tX, zZ, cC))) (fun uU tT => va_P G.1 vwCl ((fun (uU : (Nat → Nat) × (Nat → Nat) × (Nat → Nat)) => ([(a0, .inr (1, [.ref a1, .ref a2, .int (nI (uU.1 0)), .int (nI (uU.1 1)), .int (nI (uU.1 7)), .int (nI (uU.1 8)), .int (nI (uU.1 9)), .int (nI (uU.1 2)), .int (nI (uU.1 3)), .int (nI (uU.1 4)), .int (nI (uU.1 5)), .int (nI (uU.1 6))])), (a1, .inl (G.2.1, 8, .inl (arN uU.2.1))), (a2, .inl (G.2.1, 640, .inl (arN uU.2.2)))] : va_W)) uU) tT.heap) (zIn [(a0, .inr (1, [.ref a1, .ref a2, .int (nI (sg 0)), .int (nI (sg 1)), .int (nI (sg 7)), .int (nI (sg 8)), .int (nI (sg 9)), .int (nI (sg 2)), .int (nI (sg 3)), .int (nI (sg 4)), .int (nI (sg 5)), .int (nI (sg 6))])), (a1, .inl (G.2.1, 8, .inl (arN sz))), (a2, .inl (G.2.1, 640, .inl (arN sc)))])) 0 0 (zIn [(a0, .inr (1, [.ref a1, .ref a2, .int (nI (sg 0)), .int (nI (sg 1)), .int (nI (sg 7)), .int (nI (sg 8)), .int (nI (sg 9)), .int (nI (sg 2)), .int (nI (sg 3)), .int (nI (sg 4)), .int (nI (sg 5)), .int (nI (sg 6))])), (a1, .inl (G.2.1, 8, .inl (arN sz))), (a2, .inl (G.2.1, 640, .inl (arN sc)))]) := by
  refine zM (cc := cX1_dropText) (maxL := 5) (ret := (some .int)) (by decide) rfl (Nat.le_of_ble_eq_true rfl) ?_
  intro pP eE sS mM below meth cC hx hb hr hts hown hlk hml hnm hK hN hP hD hS ls hl
  have hl : lv_has ls 5 [(0, .ref a0), (1, .int x), (2, .int y)] := hl
  refine lv_aload_n hx hb dX1_dropText_0 rfl (lv_at hl 0 rfl) ?_
  refine lv_iload_n hx hb dX1_dropText_1 rfl (lv_at hl 1 rfl) ?_
  refine lv_iload_n hx hb dX1_dropText_2 rfl (lv_at hl 2 rfl) ?_
  refine zc_R (As := [.int x, .int y]) (rest := []) ⟨hx, hb, hml, hown, hts⟩ (c_rowOf l G a0 a1 a2 sz sc sg x y (by omega) (by omega)) (cwV 2 hts gX1_dropText_X1_rowOf rfl rfl rfl (by decide +kernel) ⟨Nat.le_of_ble_eq_true rfl, Nat.le_of_ble_eq_true rfl⟩) hK hN hP hD [0, 1, 2] rfl (by decide) (ci := 1) rfl rfl rfl hl.1 rfl (Nat.le_of_ble_eq_true rfl) dX1_dropText_3 ⟨Nat.zero_le _, Nat.zero_le _⟩ (fun r3 h3 => ?_)
  rcases h3 with ⟨eX_3, tX_3, h3_0, h3_1, rfl, rfl, rfl⟩ | ⟨h3_0, rfl⟩
  · have hz5 := hM.2.1 eX_3 h3_0
    have hTX := hM.2.2 eX_3 tX_3 h3_0 h3_1
    have hc3 := hTX.2.2.2.2.1
    have hf3 := hTX.2.2.2.1.2
    refine lv_istore_n (lv' := [(3, .int (nI ((eX_3 * 5 + tX_3) * 16))), (0, .ref a0), (1, .int (nI eX_3)), (2, .int (nI tX_3))]) hx hb dX1_dropText_6 rfl hl (by decide) rfl (fun ls hl => ?_)
    refine lv_iload_n hx hb dX1_dropText_7 rfl (lv_at hl 0 rfl) ?_
    refine zk_zge (tgt := 13) hx hb dX1_dropText_8 (by decide) (by omega) ?_
    refine lv_aload_n hx hb dX1_dropText_13 rfl (lv_at hl 1 rfl) ?_
    refine va_get (D := G.1) (ci := 1) (v := .ref a1) (C := RX1) (T := TX1) (N := 12) hx hb hts mic_dropText_1 hown hK hP 0 rfl rfl 0 (by decide) (hts _ mwc_dropText_0) (fun _ h9 => h9) rfl dX1_dropText_14 ?_
    refine lv_iload_n hx hb dX1_dropText_17 rfl (lv_at hl 2 rfl) ?_
    refine zk_ald (f := sz) (k := eX_3) hx hb hK hP 1 0 rfl rfl (Nat.le_of_ble_eq_true rfl) (by omega) dX1_dropText_18 ?_
    refine zk_top (y := nI (sg (10 + 76 * eX_3))) (congrArg nI (hR.1 eX_3 h3_0)) ?_
    refine lv_iconst (v := nI 1) hx hb dX1_dropText_19 (by decide) ?_
    refine zk_sub hx hb dX1_dropText_20 (by omega) ?_
    refine lv_istore (lv' := [(4, .int (nI ((sg (10 + 76 * eX_3)) - 1))), (3, .int (nI ((eX_3 * 5 + tX_3) * 16))), (0, .ref a0), (1, .int (nI eX_3)), (2, .int (nI tX_3))]) hx hb dX1_dropText_21 hl (by decide) rfl (fun ls hl => ?_)
    refine lv_iload_n hx hb dX1_dropText_23 rfl (lv_at hl 4 rfl) ?_
    refine lv_iload hx hb dX1_dropText_24 (lv_at hl 0 rfl) ?_
    refine zk_ige (tgt := 52) hx hb dX1_dropText_26 (by decide) (by omega) (by omega) (fun c26 => ?_) (fun c26 => ?_)
    · refine lv_aload_n hx hb dX1_dropText_52 rfl (lv_at hl 2 rfl) ?_
      refine va_get (D := G.1) (ci := 1) (v := .ref a1) (C := RX1) (T := TX1) (N := 12) hx hb hts mic_dropText_1 hown hK hP 0 rfl rfl 0 (by decide) (hts _ mwc_dropText_0) (fun _ h9 => h9) rfl dX1_dropText_53 ?_
      refine lv_iload_n hx hb dX1_dropText_56 rfl (lv_at hl 3 rfl) ?_
      refine lv_iload hx hb dX1_dropText_57 (lv_at hl 0 rfl) ?_
      refine zk_ast (f := sz) (k := eX_3) (v := (sg (10 + 76 * eX_3)) - 1) (ws2 := [(a0, .inr (1, [.ref a1, .ref a2, .int (nI (sg 0)), .int (nI (sg 1)), .int (nI (sg 7)), .int (nI (sg 8)), .int (nI (sg 9)), .int (nI (sg 2)), .int (nI (sg 3)), .int (nI (sg 4)), .int (nI (sg 5)), .int (nI (sg 6))])), (a1, .inl (G.2.1, 8, .inl (arN (arU sz eX_3 ((sg (10 + 76 * eX_3)) - 1))))), (a2, .inl (G.2.1, 640, .inl (arN sc)))]) hx hb hK hP hD hS 1 0 rfl rfl (Nat.le_of_ble_eq_true rfl) (by omega) rfl dX1_dropText_59 (fun H locs hP hD hS => ?_)
      refine lv_iload hx hb dX1_dropText_60 (lv_at hl 0 rfl) ?_
      have qf0 : rmT sg eX_3 tX_3 0 = sg 0 := rmT_lo10 0 (by omega)
      have qf1 : rmT sg eX_3 tX_3 1 = sg 1 := rmT_lo10 1 (by omega)
      have qf7 : rmT sg eX_3 tX_3 7 = sg 7 := rmT_lo10 7 (by omega)
      have qf8 : rmT sg eX_3 tX_3 8 = sg 8 := rmT_lo10 8 (by omega)
      have qf9 : rmT sg eX_3 tX_3 9 = sg 9 := rmT_lo10 9 (by omega)
      have qf2 : rmT sg eX_3 tX_3 2 = sg 2 := rmT_lo10 2 (by omega)
      have qf3 : rmT sg eX_3 tX_3 3 = sg 3 := rmT_lo10 3 (by omega)
      have qf4 : rmT sg eX_3 tX_3 4 = sg 4 := rmT_lo10 4 (by omega)
      have qf5 : rmT sg eX_3 tX_3 5 = sg 5 := rmT_lo10 5 (by omega)
      have qf6 : rmT sg eX_3 tX_3 6 = sg 6 := rmT_lo10 6 (by omega)
      have hP : va_P G.1 vwCl [(a0, .inr (1, [.ref a1, .ref a2, .int (nI ((rmT sg eX_3 tX_3) 0)), .int (nI ((rmT sg eX_3 tX_3) 1)), .int (nI ((rmT sg eX_3 tX_3) 7)), .int (nI ((rmT sg eX_3 tX_3) 8)), .int (nI ((rmT sg eX_3 tX_3) 9)), .int (nI ((rmT sg eX_3 tX_3) 2)), .int (nI ((rmT sg eX_3 tX_3) 3)), .int (nI ((rmT sg eX_3 tX_3) 4)), .int (nI ((rmT sg eX_3 tX_3) 5)), .int (nI ((rmT sg eX_3 tX_3) 6))])), (a1, .inl (G.2.1, 8, .inl (arN (arU sz eX_3 ((sg (10 + 76 * eX_3)) - 1))))), (a2, .inl (G.2.1, 640, .inl (arN sc)))] H := by rw [qf0, qf1, qf7, qf8, qf9, qf2, qf3, qf4, qf5, qf6]; exact hP
      have hD : va_D (zIn [(a0, .inr (1, [.ref a1, .ref a2, .int (nI (sg 0)), .int (nI (sg 1)), .int (nI (sg 7)), .int (nI (sg 8)), .int (nI (sg 9)), .int (nI (sg 2)), .int (nI (sg 3)), .int (nI (sg 4)), .int (nI (sg 5)), .int (nI (sg 6))])), (a1, .inl (G.2.1, 8, .inl (arN sz))), (a2, .inl (G.2.1, 640, .inl (arN sc)))]) [(a0, .inr (1, [.ref a1, .ref a2, .int (nI ((rmT sg eX_3 tX_3) 0)), .int (nI ((rmT sg eX_3 tX_3) 1)), .int (nI ((rmT sg eX_3 tX_3) 7)), .int (nI ((rmT sg eX_3 tX_3) 8)), .int (nI ((rmT sg eX_3 tX_3) 9)), .int (nI ((rmT sg eX_3 tX_3) 2)), .int (nI ((rmT sg eX_3 tX_3) 3)), .int (nI ((rmT sg eX_3 tX_3) 4)), .int (nI ((rmT sg eX_3 tX_3) 5)), .int (nI ((rmT sg eX_3 tX_3) 6))])), (a1, .inl (G.2.1, 8, .inl (arN (arU sz eX_3 ((sg (10 + 76 * eX_3)) - 1))))), (a2, .inl (G.2.1, 640, .inl (arN sc)))] := by rw [qf0, qf1, qf7, qf8, qf9, qf2, qf3, qf4, qf5, qf6]; exact hD
      exact W.iret (v := nI ((sg (10 + 76 * eX_3)) - 1)) hx hb hr (fun tT ht hW => ⟨⟨_, (rmT sg eX_3 tX_3, arU sz eX_3 (sg (10 + 76 * eX_3) - 1), sc), rfl, Or.inr ⟨eX_3, tX_3, _, _, h3_0, h3_1, rfl, rfl, by have h := rel_rmT hM hR h3_0 h3_1; rw [rowR_0 c26] at h; exact h, mOK_rmT hM h3_0 h3_1, rfl, rfl⟩, by show va_P G.1 vwCl _ tT.heap; rw [ht]; exact hP⟩, hS.F ht⟩) hS.2.2 dX1_dropText_62
    · refine lv_aload_n hx hb dX1_dropText_29 rfl (lv_at hl 2 rfl) ?_
      refine va_get (D := G.1) (ci := 1) (v := .ref a2) (C := RX1) (T := TX1) (N := 12) hx hb hts mic_dropText_1 hown hK hP 0 rfl rfl 1 (by decide) (hts _ mwc_dropText_2) (fun _ h9 => h9) rfl dX1_dropText_30 ?_
      refine lv_iload_n hx hb dX1_dropText_33 rfl (lv_at hl 1 rfl) ?_
      refine lv_bipush (v := nI 16) hx hb dX1_dropText_34 (by decide) ?_
      refine zk_add hx hb dX1_dropText_36 ?_
      refine lv_aload_n hx hb dX1_dropText_37 rfl (lv_at hl 2 rfl) ?_
      refine va_get (D := G.1) (ci := 1) (v := .ref a2) (C := RX1) (T := TX1) (N := 12) hx hb hts mic_dropText_1 hown hK hP 0 rfl rfl 1 (by decide) (hts _ mwc_dropText_2) (fun _ h9 => h9) rfl dX1_dropText_38 ?_
      refine lv_iload_n hx hb dX1_dropText_41 rfl (lv_at hl 1 rfl) ?_
      refine lv_iload hx hb dX1_dropText_42 (lv_at hl 0 rfl) ?_
      refine lv_iload_n hx hb dX1_dropText_44 rfl (lv_at hl 4 rfl) ?_
      refine zk_sub hx hb dX1_dropText_45 (by omega) ?_
      refine lv_bipush (v := nI 16) hx hb dX1_dropText_46 (by decide) ?_
      refine zk_mul hx hb dX1_dropText_48 ?_
      refine zk_acopy (f := sc) (g := sc) (sp := ((eX_3 * 5 + tX_3) * 16) + 16) (dp := (eX_3 * 5 + tX_3) * 16) (k := (((sg (10 + 76 * eX_3)) - 1) - tX_3) * 16) (ws2 := [(a0, .inr (1, [.ref a1, .ref a2, .int (nI (sg 0)), .int (nI (sg 1)), .int (nI (sg 7)), .int (nI (sg 8)), .int (nI (sg 9)), .int (nI (sg 2)), .int (nI (sg 3)), .int (nI (sg 4)), .int (nI (sg 5)), .int (nI (sg 6))])), (a1, .inl (G.2.1, 8, .inl (arN sz))), (a2, .inl (G.2.1, 640, .inl (arN (cpF sc sc ((eX_3 * 5 + tX_3) * 16) (((eX_3 * 5 + tX_3) * 16) + 16) ((((sg (10 + 76 * eX_3)) - 1) - tX_3) * 16)))))]) hx hb (hml.trans hl.1.symm) hown (hts _ mwc_dropText_3) (hts _ mwc_dropText_4) (hts _ mwc_dropText_5) (hts _ mwc_dropText_6) hK hP hD hS 2 2 0 rfl rfl rfl (Nat.le_of_ble_eq_true rfl) (Nat.le_of_ble_eq_true rfl) (by omega) (by omega) rfl (Nat.le_of_ble_eq_true rfl) (Nat.le_of_ble_eq_true rfl) dX1_dropText_49 (fun H locs hP hD hS => ?_)
      refine lv_aload_n hx hb dX1_dropText_52 rfl (lv_at hl 2 rfl) ?_
      refine va_get (D := G.1) (ci := 1) (v := .ref a1) (C := RX1) (T := TX1) (N := 12) hx hb hts mic_dropText_1 hown hK hP 0 rfl rfl 0 (by decide) (hts _ mwc_dropText_0) (fun _ h9 => h9) rfl dX1_dropText_53 ?_
      refine lv_iload_n hx hb dX1_dropText_56 rfl (lv_at hl 3 rfl) ?_
      refine lv_iload hx hb dX1_dropText_57 (lv_at hl 0 rfl) ?_
      refine zk_ast (f := sz) (k := eX_3) (v := (sg (10 + 76 * eX_3)) - 1) (ws2 := [(a0, .inr (1, [.ref a1, .ref a2, .int (nI (sg 0)), .int (nI (sg 1)), .int (nI (sg 7)), .int (nI (sg 8)), .int (nI (sg 9)), .int (nI (sg 2)), .int (nI (sg 3)), .int (nI (sg 4)), .int (nI (sg 5)), .int (nI (sg 6))])), (a1, .inl (G.2.1, 8, .inl (arN (arU sz eX_3 ((sg (10 + 76 * eX_3)) - 1))))), (a2, .inl (G.2.1, 640, .inl (arN (cpF sc sc ((eX_3 * 5 + tX_3) * 16) (((eX_3 * 5 + tX_3) * 16) + 16) ((((sg (10 + 76 * eX_3)) - 1) - tX_3) * 16)))))]) hx hb hK hP hD hS 1 0 rfl rfl (Nat.le_of_ble_eq_true rfl) (by omega) rfl dX1_dropText_59 (fun H locs hP hD hS => ?_)
      refine lv_iload hx hb dX1_dropText_60 (lv_at hl 0 rfl) ?_
      have qf0 : rmT sg eX_3 tX_3 0 = sg 0 := rmT_lo10 0 (by omega)
      have qf1 : rmT sg eX_3 tX_3 1 = sg 1 := rmT_lo10 1 (by omega)
      have qf7 : rmT sg eX_3 tX_3 7 = sg 7 := rmT_lo10 7 (by omega)
      have qf8 : rmT sg eX_3 tX_3 8 = sg 8 := rmT_lo10 8 (by omega)
      have qf9 : rmT sg eX_3 tX_3 9 = sg 9 := rmT_lo10 9 (by omega)
      have qf2 : rmT sg eX_3 tX_3 2 = sg 2 := rmT_lo10 2 (by omega)
      have qf3 : rmT sg eX_3 tX_3 3 = sg 3 := rmT_lo10 3 (by omega)
      have qf4 : rmT sg eX_3 tX_3 4 = sg 4 := rmT_lo10 4 (by omega)
      have qf5 : rmT sg eX_3 tX_3 5 = sg 5 := rmT_lo10 5 (by omega)
      have qf6 : rmT sg eX_3 tX_3 6 = sg 6 := rmT_lo10 6 (by omega)
      have hP : va_P G.1 vwCl [(a0, .inr (1, [.ref a1, .ref a2, .int (nI ((rmT sg eX_3 tX_3) 0)), .int (nI ((rmT sg eX_3 tX_3) 1)), .int (nI ((rmT sg eX_3 tX_3) 7)), .int (nI ((rmT sg eX_3 tX_3) 8)), .int (nI ((rmT sg eX_3 tX_3) 9)), .int (nI ((rmT sg eX_3 tX_3) 2)), .int (nI ((rmT sg eX_3 tX_3) 3)), .int (nI ((rmT sg eX_3 tX_3) 4)), .int (nI ((rmT sg eX_3 tX_3) 5)), .int (nI ((rmT sg eX_3 tX_3) 6))])), (a1, .inl (G.2.1, 8, .inl (arN (arU sz eX_3 ((sg (10 + 76 * eX_3)) - 1))))), (a2, .inl (G.2.1, 640, .inl (arN (cpF sc sc ((eX_3 * 5 + tX_3) * 16) (((eX_3 * 5 + tX_3) * 16) + 16) ((((sg (10 + 76 * eX_3)) - 1) - tX_3) * 16)))))] H := by rw [qf0, qf1, qf7, qf8, qf9, qf2, qf3, qf4, qf5, qf6]; exact hP
      have hD : va_D (zIn [(a0, .inr (1, [.ref a1, .ref a2, .int (nI (sg 0)), .int (nI (sg 1)), .int (nI (sg 7)), .int (nI (sg 8)), .int (nI (sg 9)), .int (nI (sg 2)), .int (nI (sg 3)), .int (nI (sg 4)), .int (nI (sg 5)), .int (nI (sg 6))])), (a1, .inl (G.2.1, 8, .inl (arN sz))), (a2, .inl (G.2.1, 640, .inl (arN sc)))]) [(a0, .inr (1, [.ref a1, .ref a2, .int (nI ((rmT sg eX_3 tX_3) 0)), .int (nI ((rmT sg eX_3 tX_3) 1)), .int (nI ((rmT sg eX_3 tX_3) 7)), .int (nI ((rmT sg eX_3 tX_3) 8)), .int (nI ((rmT sg eX_3 tX_3) 9)), .int (nI ((rmT sg eX_3 tX_3) 2)), .int (nI ((rmT sg eX_3 tX_3) 3)), .int (nI ((rmT sg eX_3 tX_3) 4)), .int (nI ((rmT sg eX_3 tX_3) 5)), .int (nI ((rmT sg eX_3 tX_3) 6))])), (a1, .inl (G.2.1, 8, .inl (arN (arU sz eX_3 ((sg (10 + 76 * eX_3)) - 1))))), (a2, .inl (G.2.1, 640, .inl (arN (cpF sc sc ((eX_3 * 5 + tX_3) * 16) (((eX_3 * 5 + tX_3) * 16) + 16) ((((sg (10 + 76 * eX_3)) - 1) - tX_3) * 16)))))] := by rw [qf0, qf1, qf7, qf8, qf9, qf2, qf3, qf4, qf5, qf6]; exact hD
      exact W.iret (v := nI ((sg (10 + 76 * eX_3)) - 1)) hx hb hr (fun tT ht hW => ⟨⟨_, (rmT sg eX_3 tX_3, arU sz eX_3 (sg (10 + 76 * eX_3) - 1), rowR sc eX_3 tX_3 (sg (10 + 76 * eX_3))), rfl, Or.inr ⟨eX_3, tX_3, _, _, h3_0, h3_1, rfl, rfl, rel_rmT hM hR h3_0 h3_1, mOK_rmT hM h3_0 h3_1, rfl, rfl⟩, by show va_P G.1 vwCl _ tT.heap; rw [ht]; exact hP⟩, hS.F ht⟩) hS.2.2 dX1_dropText_62
  · refine lv_istore_n (lv' := [(3, .int (-1)), (0, .ref a0), (1, .int x), (2, .int y)]) hx hb dX1_dropText_6 rfl hl (by decide) rfl (fun ls hl => ?_)
    refine lv_iload_n hx hb dX1_dropText_7 rfl (lv_at hl 0 rfl) ?_
    refine lv_if_ge (tgt := 13) hx hb dX1_dropText_8 (by decide) (fun q => absurd q (by decide)) (fun _ => ?_)
    refine lv_iconst (v := (-1)) hx hb dX1_dropText_11 (by decide) ?_
    exact W.iret (v := (-1)) hx hb hr (fun tT ht hW => ⟨⟨_, (sg, sz, sc), rfl, Or.inl ⟨h3_0, rfl, rfl⟩, by show va_P G.1 vwCl _ tT.heap; rw [ht]; exact hP⟩, hS.F ht⟩) hS.2.2 dX1_dropText_12
set_option maxRecDepth 100000 in
theorem mwc_changeFacts_0 : Cond.constant RX1 64 (65535) ∈ wsX1_changeFacts := by decide +kernel
set_option maxRecDepth 100000 in
theorem mwc_changeFacts_1 : Cond.fieldLink RX1 15 "ExhibitTexts$State" "cells" "[I" ∈ wsX1_changeFacts := by decide +kernel
set_option maxRecDepth 100000 in
theorem mic_changeFacts_1 : ∀ w ∈ u_ws RX1 TX1 12, w ∈ wsX1_changeFacts := by decide +kernel
set_option maxHeartbeats 4000000 in
set_option maxRecDepth 100000 in
/-- X1_changeFacts: a text's facts are others -/
theorem c_changeFacts (l : Launch) (G : zG) (a0 : Nat) (a1 : Nat) (a2 : Nat) (sz : Nat → Nat) (sc : Nat → Nat) (sg : Nat → Nat) (x : Int32) (y : Int32) (af : Int32) (hM : mOK sg) (hR : sRel sz sc sg) : Met l yX1_changeFacts wsX1_changeFacts ({ frames := 2, cells := 0, slots := 0, locals := 42 } : Room) (zPc G [.ref a0, .int x, .int y, .int af] [(a0, .inr (1, [.ref a1, .ref a2, .int (nI (sg 0)), .int (nI (sg 1)), .int (nI (sg 7)), .int (nI (sg 8)), .int (nI (sg 9)), .int (nI (sg 2)), .int (nI (sg 3)), .int (nI (sg 4)), .int (nI (sg 5)), .int (nI (sg 6))])), (a1, .inl (G.2.1, 8, .inl (arN sz))), (a2, .inl (G.2.1, 640, .inl (arN sc)))]) (va_Qi (fun (rR : Int32) (uU : (Nat → Nat) × (Nat → Nat) × (Nat → Nat)) => (¬ pTn (szF sg) x y ∧ rR = (-1) ∧ uU = (sg, sz, sc)) ∨ (∃ (eX : Nat) (tX : Nat), eX < 8 ∧ tX < sg (10 + 76 * eX) ∧ x = nI eX ∧ y = nI tX ∧ (¬ ∃ n : Nat, 1 ≤ n ∧ n ≤ 65535 ∧ af = nI n) ∧ rR = (-2) ∧ uU = (sg, sz, sc)) ∨ (∃ (eX : Nat) (tX : Nat) (fX : Nat), eX < 8 ∧ tX < sg (10 + 76 * eX) ∧ x = nI eX ∧ y = nI tX ∧ 1 ≤ fX ∧ fX ≤ 65535 ∧ af = nI fX ∧ (∃ c : Nat, c < sg (11 + 76 * eX + 15 * tX + 5) ∧ ¬ andN (sg (11 + 76 * eX + 15 * tX + (6 + 3 * c + 1))) fX = 0) ∧ rR = (-4) ∧ uU = (sg, sz, sc)) ∨ (∃ (eX : Nat) (tX : Nat) (fX : Nat), eX < 8 ∧ tX < sg (10 + 76 * eX) ∧ x = nI eX ∧ y = nI tX ∧ 1 ≤ fX ∧ fX ≤ 65535 ∧ af = nI fX ∧ (∀ c : Nat, c < sg (11 + 76 * eX + 15 * tX + 5) → andN (sg (11 + 76 * eX + 15 * tX + (6 + 3 * c + 1))) fX = 0) ∧ sg (11 + 76 * eX + 15 * tX + 3) = fX ∧ rR = (-5) ∧ uU = (sg, sz, sc)) ∨ (∃ (eX : Nat) (tX : Nat) (fX : Nat) (zZ : Nat → Nat) (cC : Nat → Nat), eX < 8 ∧ tX < sg (10 + 76 * eX) ∧ x = nI eX ∧ y = nI tX ∧ 1 ≤ fX ∧ fX ≤ 65535 ∧ af = nI fX ∧ (∀ c : Nat, c < sg (11 + 76 * eX + 15 * tX + 5) → andN (sg (11 + 76 * eX + 15 * tX + (6 + 3 * c + 1))) fX = 0) ∧ sg (11 + 76 * eX + 15 * tX + 3) ≠ fX ∧ sRel zZ cC (arU sg (11 + 76 * eX + 15 * tX + 3) fX) ∧ mOK (arU sg (11 + 76 * eX + 15 * tX + 3) fX) ∧ rR = nI (sg (11 + 76 * eX + 15 * tX + 3)) ∧ uU = (arU sg (11 + 76 * eX + 15 * tX + 3) fX, zZ, cC))) (fun uU tT => va_P G.1 vwCl ((fun (uU : (Nat → Nat) × (Nat → Nat) × (Nat → Nat)) => ([(a0, .inr (1, [.ref a1, .ref a2, .int (nI (uU.1 0)), .int (nI (uU.1 1)), .int (nI (uU.1 7)), .int (nI (uU.1 8)), .int (nI (uU.1 9)), .int (nI (uU.1 2)), .int (nI (uU.1 3)), .int (nI (uU.1 4)), .int (nI (uU.1 5)), .int (nI (uU.1 6))])), (a1, .inl (G.2.1, 8, .inl (arN uU.2.1))), (a2, .inl (G.2.1, 640, .inl (arN uU.2.2)))] : va_W)) uU) tT.heap) (zIn [(a0, .inr (1, [.ref a1, .ref a2, .int (nI (sg 0)), .int (nI (sg 1)), .int (nI (sg 7)), .int (nI (sg 8)), .int (nI (sg 9)), .int (nI (sg 2)), .int (nI (sg 3)), .int (nI (sg 4)), .int (nI (sg 5)), .int (nI (sg 6))])), (a1, .inl (G.2.1, 8, .inl (arN sz))), (a2, .inl (G.2.1, 640, .inl (arN sc)))])) 0 0 (zIn [(a0, .inr (1, [.ref a1, .ref a2, .int (nI (sg 0)), .int (nI (sg 1)), .int (nI (sg 7)), .int (nI (sg 8)), .int (nI (sg 9)), .int (nI (sg 2)), .int (nI (sg 3)), .int (nI (sg 4)), .int (nI (sg 5)), .int (nI (sg 6))])), (a1, .inl (G.2.1, 8, .inl (arN sz))), (a2, .inl (G.2.1, 640, .inl (arN sc)))]) := by
  refine zM (cc := cX1_changeFacts) (maxL := 6) (ret := (some .int)) (by decide) rfl (Nat.le_of_ble_eq_true rfl) ?_
  intro pP eE sS mM below meth cC hx hb hr hts hown hlk hml hnm hK hN hP hD hS ls hl
  have hl : lv_has ls 6 [(0, .ref a0), (1, .int x), (2, .int y), (3, .int af)] := hl
  refine lv_aload_n hx hb dX1_changeFacts_0 rfl (lv_at hl 0 rfl) ?_
  refine lv_iload_n hx hb dX1_changeFacts_1 rfl (lv_at hl 1 rfl) ?_
  refine lv_iload_n hx hb dX1_changeFacts_2 rfl (lv_at hl 2 rfl) ?_
  refine zc_R (As := [.int x, .int y]) (rest := []) ⟨hx, hb, hml, hown, hts⟩ (c_rowOf l G a0 a1 a2 sz sc sg x y (by omega) (by omega)) (cwV 2 hts gX1_changeFacts_X1_rowOf rfl rfl rfl (by decide +kernel) ⟨Nat.le_of_ble_eq_true rfl, Nat.le_of_ble_eq_true rfl⟩) hK hN hP hD [0, 1, 2] rfl (by decide) (ci := 1) rfl rfl rfl hl.1 rfl (Nat.le_of_ble_eq_true rfl) dX1_changeFacts_3 ⟨Nat.zero_le _, Nat.zero_le _⟩ (fun r3 h3 => ?_)
  rcases h3 with ⟨eX_3, tX_3, h3_0, h3_1, rfl, rfl, rfl⟩ | ⟨h3_0, rfl⟩
  · have hz5 := hM.2.1 eX_3 h3_0
    have hTX := hM.2.2 eX_3 tX_3 h3_0 h3_1
    have hc3 := hTX.2.2.2.2.1
    have hf3 := hTX.2.2.2.1.2
    refine lv_istore (lv' := [(4, .int (nI ((eX_3 * 5 + tX_3) * 16))), (0, .ref a0), (1, .int (nI eX_3)), (2, .int (nI tX_3)), (3, .int af)]) hx hb dX1_changeFacts_6 hl (by decide) rfl (fun ls hl => ?_)
    refine lv_iload hx hb dX1_changeFacts_8 (lv_at hl 0 rfl) ?_
    refine zk_zge (tgt := 15) hx hb dX1_changeFacts_10 (by decide) (by omega) ?_
    refine lv_iload_n hx hb dX1_changeFacts_15 rfl (lv_at hl 4 rfl) ?_
    refine lv_iconst (v := nI 1) hx hb dX1_changeFacts_16 (by decide) ?_
    refine lv_icmp_lt (tgt := 26) hx hb dX1_changeFacts_17 (by decide) (fun c17 => ?_) (fun c17 => ?_)
    · refine lv_bipush (v := (-2)) hx hb dX1_changeFacts_26 (by decide) ?_
      exact W.iret (v := (-2)) hx hb hr (fun tT ht hW => ⟨⟨_, (sg, sz, sc), rfl, Or.inr (Or.inl ⟨eX_3, tX_3, h3_0, h3_1, rfl, rfl, in_no1 (by decide) (by decide) c17, rfl, rfl⟩), by show va_P G.1 vwCl _ tT.heap; rw [ht]; exact hP⟩, hS.F ht⟩) hS.2.2 dX1_changeFacts_28
    · refine lv_iload_n hx hb dX1_changeFacts_20 rfl (lv_at hl 4 rfl) ?_
      refine lv_ldc (v := (65535 : Int32)) hx hb hown (hts _ mwc_changeFacts_0) dX1_changeFacts_21 ?_
      refine zk_top (y := nI 65535) rfl ?_
      refine lv_icmp_le (tgt := 29) hx hb dX1_changeFacts_23 (by decide) (fun c23 => ?_) (fun c23 => ?_)
      · obtain ⟨fY, hf1, hf2, rfl⟩ := in_yesL (by decide) (by decide) c17 c23
        refine lv_aload_n hx hb dX1_changeFacts_29 rfl (lv_at hl 1 rfl) ?_
        refine lv_iload hx hb dX1_changeFacts_30 (lv_at hl 0 rfl) ?_
        refine zc_R (As := [.int (nI ((eX_3 * 5 + tX_3) * 16))]) (rest := []) ⟨hx, hb, hml, hown, hts⟩ (c_captionFacts l G a0 a1 a2 sz sc sg eX_3 tX_3 (by omega) (by omega) h3_0 h3_1) (cwV 1 hts gX1_changeFacts_X1_captionFacts rfl rfl rfl (by decide +kernel) ⟨Nat.le_of_ble_eq_true rfl, Nat.le_of_ble_eq_true rfl⟩) hK hN hP hD [0, 1, 2] rfl (by decide) (ci := 1) rfl rfl rfl hl.1 rfl (Nat.le_of_ble_eq_true rfl) dX1_changeFacts_32 ⟨Nat.zero_le _, Nat.zero_le _⟩ (fun r32 h32 => ?_)
        subst h32
        refine lv_iload_n hx hb dX1_changeFacts_35 rfl (lv_at hl 4 rfl) ?_
        refine lv_iconst (v := (-1)) hx hb dX1_changeFacts_36 (by decide) ?_
        refine lv_ixor hx hb dX1_changeFacts_37 ?_
        refine lv_iand hx hb dX1_changeFacts_38 ?_
        refine lv_if_eq (tgt := 45) hx hb dX1_changeFacts_39 (by decide) (fun c39 => ?_) (fun c39 => ?_)
        · refine lv_aload_n hx hb dX1_changeFacts_45 rfl (lv_at hl 1 rfl) ?_
          refine va_get (D := G.1) (ci := 1) (v := .ref a2) (C := RX1) (T := TX1) (N := 12) hx hb hts mic_changeFacts_1 hown hK hP 0 rfl rfl 1 (by decide) (hts _ mwc_changeFacts_1) (fun _ h9 => h9) rfl dX1_changeFacts_46 ?_
          refine lv_iload hx hb dX1_changeFacts_49 (lv_at hl 0 rfl) ?_
          refine lv_iconst (v := nI 3) hx hb dX1_changeFacts_51 (by decide) ?_
          refine zk_add hx hb dX1_changeFacts_52 ?_
          refine zk_ald (f := sc) (k := ((eX_3 * 5 + tX_3) * 16) + 3) hx hb hK hP 2 0 rfl rfl (Nat.le_of_ble_eq_true rfl) (by omega) dX1_changeFacts_53 ?_
          refine zk_top (y := nI (sg (11 + 76 * eX_3 + 15 * tX_3 + 3))) (congrArg nI (hR.2 eX_3 tX_3 h3_0 h3_1).2.2.2.1) ?_
          refine lv_istore (lv' := [(5, .int (nI (sg (11 + 76 * eX_3 + 15 * tX_3 + 3)))), (4, .int (nI ((eX_3 * 5 + tX_3) * 16))), (0, .ref a0), (1, .int (nI eX_3)), (2, .int (nI tX_3)), (3, .int (nI fY))]) hx hb dX1_changeFacts_54 hl (by decide) rfl (fun ls hl => ?_)
          refine lv_iload hx hb dX1_changeFacts_56 (lv_at hl 0 rfl) ?_
          refine lv_iload_n hx hb dX1_changeFacts_58 rfl (lv_at hl 5 rfl) ?_
          refine zk_ine (tgt := 65) hx hb dX1_changeFacts_59 (by decide) (by omega) (by omega) (fun c59 => ?_) (fun c59 => ?_)
          · refine lv_aload_n hx hb dX1_changeFacts_65 rfl (lv_at hl 2 rfl) ?_
            refine va_get (D := G.1) (ci := 1) (v := .ref a2) (C := RX1) (T := TX1) (N := 12) hx hb hts mic_changeFacts_1 hown hK hP 0 rfl rfl 1 (by decide) (hts _ mwc_changeFacts_1) (fun _ h9 => h9) rfl dX1_changeFacts_66 ?_
            refine lv_iload hx hb dX1_changeFacts_69 (lv_at hl 1 rfl) ?_
            refine lv_iconst (v := nI 3) hx hb dX1_changeFacts_71 (by decide) ?_
            refine zk_add hx hb dX1_changeFacts_72 ?_
            refine lv_iload_n hx hb dX1_changeFacts_73 rfl (lv_at hl 5 rfl) ?_
            refine zk_ast (f := sc) (k := ((eX_3 * 5 + tX_3) * 16) + 3) (v := fY) (ws2 := [(a0, .inr (1, [.ref a1, .ref a2, .int (nI (sg 0)), .int (nI (sg 1)), .int (nI (sg 7)), .int (nI (sg 8)), .int (nI (sg 9)), .int (nI (sg 2)), .int (nI (sg 3)), .int (nI (sg 4)), .int (nI (sg 5)), .int (nI (sg 6))])), (a1, .inl (G.2.1, 8, .inl (arN sz))), (a2, .inl (G.2.1, 640, .inl (arN (arU sc (((eX_3 * 5 + tX_3) * 16) + 3) fY))))]) hx hb hK hP hD hS 2 0 rfl rfl (Nat.le_of_ble_eq_true rfl) (by omega) rfl dX1_changeFacts_74 (fun H locs hP hD hS => ?_)
            refine lv_iload hx hb dX1_changeFacts_75 (lv_at hl 0 rfl) ?_
            have qf0 : arU sg (11 + 76 * eX_3 + 15 * tX_3 + 3) fY 0 = sg 0 := setF_lo 0 (by omega)
            have qf1 : arU sg (11 + 76 * eX_3 + 15 * tX_3 + 3) fY 1 = sg 1 := setF_lo 1 (by omega)
            have qf7 : arU sg (11 + 76 * eX_3 + 15 * tX_3 + 3) fY 7 = sg 7 := setF_lo 7 (by omega)
            have qf8 : arU sg (11 + 76 * eX_3 + 15 * tX_3 + 3) fY 8 = sg 8 := setF_lo 8 (by omega)
            have qf9 : arU sg (11 + 76 * eX_3 + 15 * tX_3 + 3) fY 9 = sg 9 := setF_lo 9 (by omega)
            have qf2 : arU sg (11 + 76 * eX_3 + 15 * tX_3 + 3) fY 2 = sg 2 := setF_lo 2 (by omega)
            have qf3 : arU sg (11 + 76 * eX_3 + 15 * tX_3 + 3) fY 3 = sg 3 := setF_lo 3 (by omega)
            have qf4 : arU sg (11 + 76 * eX_3 + 15 * tX_3 + 3) fY 4 = sg 4 := setF_lo 4 (by omega)
            have qf5 : arU sg (11 + 76 * eX_3 + 15 * tX_3 + 3) fY 5 = sg 5 := setF_lo 5 (by omega)
            have qf6 : arU sg (11 + 76 * eX_3 + 15 * tX_3 + 3) fY 6 = sg 6 := setF_lo 6 (by omega)
            have hP : va_P G.1 vwCl [(a0, .inr (1, [.ref a1, .ref a2, .int (nI ((arU sg (11 + 76 * eX_3 + 15 * tX_3 + 3) fY) 0)), .int (nI ((arU sg (11 + 76 * eX_3 + 15 * tX_3 + 3) fY) 1)), .int (nI ((arU sg (11 + 76 * eX_3 + 15 * tX_3 + 3) fY) 7)), .int (nI ((arU sg (11 + 76 * eX_3 + 15 * tX_3 + 3) fY) 8)), .int (nI ((arU sg (11 + 76 * eX_3 + 15 * tX_3 + 3) fY) 9)), .int (nI ((arU sg (11 + 76 * eX_3 + 15 * tX_3 + 3) fY) 2)), .int (nI ((arU sg (11 + 76 * eX_3 + 15 * tX_3 + 3) fY) 3)), .int (nI ((arU sg (11 + 76 * eX_3 + 15 * tX_3 + 3) fY) 4)), .int (nI ((arU sg (11 + 76 * eX_3 + 15 * tX_3 + 3) fY) 5)), .int (nI ((arU sg (11 + 76 * eX_3 + 15 * tX_3 + 3) fY) 6))])), (a1, .inl (G.2.1, 8, .inl (arN sz))), (a2, .inl (G.2.1, 640, .inl (arN (arU sc (((eX_3 * 5 + tX_3) * 16) + 3) fY))))] H := by rw [qf0, qf1, qf7, qf8, qf9, qf2, qf3, qf4, qf5, qf6]; exact hP
            have hD : va_D (zIn [(a0, .inr (1, [.ref a1, .ref a2, .int (nI (sg 0)), .int (nI (sg 1)), .int (nI (sg 7)), .int (nI (sg 8)), .int (nI (sg 9)), .int (nI (sg 2)), .int (nI (sg 3)), .int (nI (sg 4)), .int (nI (sg 5)), .int (nI (sg 6))])), (a1, .inl (G.2.1, 8, .inl (arN sz))), (a2, .inl (G.2.1, 640, .inl (arN sc)))]) [(a0, .inr (1, [.ref a1, .ref a2, .int (nI ((arU sg (11 + 76 * eX_3 + 15 * tX_3 + 3) fY) 0)), .int (nI ((arU sg (11 + 76 * eX_3 + 15 * tX_3 + 3) fY) 1)), .int (nI ((arU sg (11 + 76 * eX_3 + 15 * tX_3 + 3) fY) 7)), .int (nI ((arU sg (11 + 76 * eX_3 + 15 * tX_3 + 3) fY) 8)), .int (nI ((arU sg (11 + 76 * eX_3 + 15 * tX_3 + 3) fY) 9)), .int (nI ((arU sg (11 + 76 * eX_3 + 15 * tX_3 + 3) fY) 2)), .int (nI ((arU sg (11 + 76 * eX_3 + 15 * tX_3 + 3) fY) 3)), .int (nI ((arU sg (11 + 76 * eX_3 + 15 * tX_3 + 3) fY) 4)), .int (nI ((arU sg (11 + 76 * eX_3 + 15 * tX_3 + 3) fY) 5)), .int (nI ((arU sg (11 + 76 * eX_3 + 15 * tX_3 + 3) fY) 6))])), (a1, .inl (G.2.1, 8, .inl (arN sz))), (a2, .inl (G.2.1, 640, .inl (arN (arU sc (((eX_3 * 5 + tX_3) * 16) + 3) fY))))] := by rw [qf0, qf1, qf7, qf8, qf9, qf2, qf3, qf4, qf5, qf6]; exact hD
            exact W.iret (v := nI (sg (11 + 76 * eX_3 + 15 * tX_3 + 3))) hx hb hr (fun tT ht hW => ⟨⟨_, (arU sg (11 + 76 * eX_3 + 15 * tX_3 + 3) fY, sz, arU sc ((eX_3 * 5 + tX_3) * 16 + 3) fY), rfl, Or.inr (Or.inr (Or.inr (Or.inr ⟨eX_3, tX_3, fY, _, _, h3_0, h3_1, rfl, rfl, hf1, hf2, rfl, (orF_andN (g := fun c => sg (11 + 76 * eX_3 + 15 * tX_3 + (6 + 3 * c + 1))) (b := fY) _).mp c39, c59, rel_one hM hR h3_0 h3_1 (Or.inl ⟨rfl, rfl⟩), mOK_setF hM h3_0 h3_1 ⟨hf1, hf2⟩, rfl, rfl⟩))), by show va_P G.1 vwCl _ tT.heap; rw [ht]; exact hP⟩, hS.F ht⟩) hS.2.2 dX1_changeFacts_77
          · refine lv_bipush (v := (-5)) hx hb dX1_changeFacts_62 (by decide) ?_
            exact W.iret (v := (-5)) hx hb hr (fun tT ht hW => ⟨⟨_, (sg, sz, sc), rfl, Or.inr (Or.inr (Or.inr (Or.inl ⟨eX_3, tX_3, fY, h3_0, h3_1, rfl, rfl, hf1, hf2, rfl, (orF_andN (g := fun c => sg (11 + 76 * eX_3 + 15 * tX_3 + (6 + 3 * c + 1))) (b := fY) _).mp c39, c59, rfl, rfl⟩))), by show va_P G.1 vwCl _ tT.heap; rw [ht]; exact hP⟩, hS.F ht⟩) hS.2.2 dX1_changeFacts_64
        · refine lv_bipush (v := (-4)) hx hb dX1_changeFacts_42 (by decide) ?_
          exact W.iret (v := (-4)) hx hb hr (fun tT ht hW => ⟨⟨_, (sg, sz, sc), rfl, Or.inr (Or.inr (Or.inl ⟨eX_3, tX_3, fY, h3_0, h3_1, rfl, rfl, hf1, hf2, rfl, Classical.byContradiction (fun hno => c39 ((orF_andN (g := fun c => sg (11 + 76 * eX_3 + 15 * tX_3 + (6 + 3 * c + 1))) (b := fY) _).mpr (fun c hc => Classical.byContradiction (fun q => hno ⟨c, hc, q⟩)))), rfl, rfl⟩)), by show va_P G.1 vwCl _ tT.heap; rw [ht]; exact hP⟩, hS.F ht⟩) hS.2.2 dX1_changeFacts_44
      · refine lv_bipush (v := (-2)) hx hb dX1_changeFacts_26 (by decide) ?_
        exact W.iret (v := (-2)) hx hb hr (fun tT ht hW => ⟨⟨_, (sg, sz, sc), rfl, Or.inr (Or.inl ⟨eX_3, tX_3, h3_0, h3_1, rfl, rfl, in_no3 (by decide) (by decide) c23, rfl, rfl⟩), by show va_P G.1 vwCl _ tT.heap; rw [ht]; exact hP⟩, hS.F ht⟩) hS.2.2 dX1_changeFacts_28
  · refine lv_istore (lv' := [(4, .int (-1)), (0, .ref a0), (1, .int x), (2, .int y), (3, .int af)]) hx hb dX1_changeFacts_6 hl (by decide) rfl (fun ls hl => ?_)
    refine lv_iload hx hb dX1_changeFacts_8 (lv_at hl 0 rfl) ?_
    refine lv_if_ge (tgt := 15) hx hb dX1_changeFacts_10 (by decide) (fun q => absurd q (by decide)) (fun _ => ?_)
    refine lv_iconst (v := (-1)) hx hb dX1_changeFacts_13 (by decide) ?_
    exact W.iret (v := (-1)) hx hb hr (fun tT ht hW => ⟨⟨_, (sg, sz, sc), rfl, Or.inl ⟨h3_0, rfl, rfl⟩, by show va_P G.1 vwCl _ tT.heap; rw [ht]; exact hP⟩, hS.F ht⟩) hS.2.2 dX1_changeFacts_14
set_option maxRecDepth 100000 in
theorem mwc_putCaption_0 : Cond.constant RX1 64 (65535) ∈ wsX1_putCaption := by decide +kernel
set_option maxRecDepth 100000 in
theorem mwc_putCaption_1 : Cond.fieldLink RX1 15 "ExhibitTexts$State" "cells" "[I" ∈ wsX1_putCaption := by decide +kernel
set_option maxRecDepth 100000 in
theorem mic_putCaption_1 : ∀ w ∈ u_ws RX1 TX1 12, w ∈ wsX1_putCaption := by decide +kernel
set_option maxHeartbeats 4000000 in
set_option maxRecDepth 100000 in
/-- X1_putCaption: a caption is added -/
theorem c_putCaption (l : Launch) (G : zG) (a0 : Nat) (a1 : Nat) (a2 : Nat) (sz : Nat → Nat) (sc : Nat → Nat) (sg : Nat → Nat) (x : Int32) (y : Int32) (aw : Int32) (af : Int32) (hM : mOK sg) (hR : sRel sz sc sg) : Met l yX1_putCaption wsX1_putCaption ({ frames := 2, cells := 0, slots := 0, locals := 42 } : Room) (zPc G [.ref a0, .int x, .int y, .int aw, .int af] [(a0, .inr (1, [.ref a1, .ref a2, .int (nI (sg 0)), .int (nI (sg 1)), .int (nI (sg 7)), .int (nI (sg 8)), .int (nI (sg 9)), .int (nI (sg 2)), .int (nI (sg 3)), .int (nI (sg 4)), .int (nI (sg 5)), .int (nI (sg 6))])), (a1, .inl (G.2.1, 8, .inl (arN sz))), (a2, .inl (G.2.1, 640, .inl (arN sc)))]) (va_Qi (fun (rR : Int32) (uU : (Nat → Nat) × (Nat → Nat) × (Nat → Nat)) => (¬ pTn (szF sg) x y ∧ rR = (-1) ∧ uU = (sg, sz, sc)) ∨ (∃ (eX : Nat) (tX : Nat), eX < 8 ∧ tX < sg (10 + 76 * eX) ∧ x = nI eX ∧ y = nI tX ∧ ¬ pCx aw af ∧ rR = (-2) ∧ uU = (sg, sz, sc)) ∨ (∃ (eX : Nat) (tX : Nat) (wX : Nat) (fX : Nat), eX < 8 ∧ tX < sg (10 + 76 * eX) ∧ x = nI eX ∧ y = nI tX ∧ 1 ≤ wX ∧ wX ≤ 30 ∧ fX ≤ 65535 ∧ aw = nI wX ∧ af = nI fX ∧ ¬ andN fX (sg (11 + 76 * eX + 15 * tX + 3)) = 0 ∧ rR = (-4) ∧ uU = (sg, sz, sc)) ∨ (∃ (eX : Nat) (tX : Nat) (wX : Nat) (fX : Nat), eX < 8 ∧ tX < sg (10 + 76 * eX) ∧ x = nI eX ∧ y = nI tX ∧ 1 ≤ wX ∧ wX ≤ 30 ∧ fX ≤ 65535 ∧ aw = nI wX ∧ af = nI fX ∧ andN fX (sg (11 + 76 * eX + 15 * tX + 3)) = 0 ∧ sg (11 + 76 * eX + 15 * tX + 5) = 3 ∧ rR = (-3) ∧ uU = (sg, sz, sc)) ∨ (∃ (eX : Nat) (tX : Nat) (wX : Nat) (fX : Nat) (zZ : Nat → Nat) (cC : Nat → Nat), eX < 8 ∧ tX < sg (10 + 76 * eX) ∧ x = nI eX ∧ y = nI tX ∧ 1 ≤ wX ∧ wX ≤ 30 ∧ fX ≤ 65535 ∧ aw = nI wX ∧ af = nI fX ∧ andN fX (sg (11 + 76 * eX + 15 * tX + 3)) = 0 ∧ sg (11 + 76 * eX + 15 * tX + 5) < 3 ∧ sRel zZ cC (addC sg eX tX wX fX) ∧ mOK (addC sg eX tX wX fX) ∧ rR = nI (sg (11 + 76 * eX + 15 * tX + 5)) ∧ uU = (addC sg eX tX wX fX, zZ, cC))) (fun uU tT => va_P G.1 vwCl ((fun (uU : (Nat → Nat) × (Nat → Nat) × (Nat → Nat)) => ([(a0, .inr (1, [.ref a1, .ref a2, .int (nI (uU.1 0)), .int (nI (uU.1 1)), .int (nI (uU.1 7)), .int (nI (uU.1 8)), .int (nI (uU.1 9)), .int (nI (uU.1 2)), .int (nI (uU.1 3)), .int (nI (uU.1 4)), .int (nI (uU.1 5)), .int (nI (uU.1 6))])), (a1, .inl (G.2.1, 8, .inl (arN uU.2.1))), (a2, .inl (G.2.1, 640, .inl (arN uU.2.2)))] : va_W)) uU) tT.heap) (zIn [(a0, .inr (1, [.ref a1, .ref a2, .int (nI (sg 0)), .int (nI (sg 1)), .int (nI (sg 7)), .int (nI (sg 8)), .int (nI (sg 9)), .int (nI (sg 2)), .int (nI (sg 3)), .int (nI (sg 4)), .int (nI (sg 5)), .int (nI (sg 6))])), (a1, .inl (G.2.1, 8, .inl (arN sz))), (a2, .inl (G.2.1, 640, .inl (arN sc)))])) 0 0 (zIn [(a0, .inr (1, [.ref a1, .ref a2, .int (nI (sg 0)), .int (nI (sg 1)), .int (nI (sg 7)), .int (nI (sg 8)), .int (nI (sg 9)), .int (nI (sg 2)), .int (nI (sg 3)), .int (nI (sg 4)), .int (nI (sg 5)), .int (nI (sg 6))])), (a1, .inl (G.2.1, 8, .inl (arN sz))), (a2, .inl (G.2.1, 640, .inl (arN sc)))]) := by
  refine zM (cc := cX1_putCaption) (maxL := 8) (ret := (some .int)) (by decide) rfl (Nat.le_of_ble_eq_true rfl) ?_
  intro pP eE sS mM below meth cC hx hb hr hts hown hlk hml hnm hK hN hP hD hS ls hl
  have hl : lv_has ls 8 [(0, .ref a0), (1, .int x), (2, .int y), (3, .int aw), (4, .int af)] := hl
  refine lv_aload_n hx hb dX1_putCaption_0 rfl (lv_at hl 0 rfl) ?_
  refine lv_iload_n hx hb dX1_putCaption_1 rfl (lv_at hl 1 rfl) ?_
  refine lv_iload_n hx hb dX1_putCaption_2 rfl (lv_at hl 2 rfl) ?_
  refine zc_R (As := [.int x, .int y]) (rest := []) ⟨hx, hb, hml, hown, hts⟩ (c_rowOf l G a0 a1 a2 sz sc sg x y (by omega) (by omega)) (cwV 2 hts gX1_putCaption_X1_rowOf rfl rfl rfl (by decide +kernel) ⟨Nat.le_of_ble_eq_true rfl, Nat.le_of_ble_eq_true rfl⟩) hK hN hP hD [0, 1, 2] rfl (by decide) (ci := 1) rfl rfl rfl hl.1 rfl (Nat.le_of_ble_eq_true rfl) dX1_putCaption_3 ⟨Nat.zero_le _, Nat.zero_le _⟩ (fun r3 h3 => ?_)
  rcases h3 with ⟨eX_3, tX_3, h3_0, h3_1, rfl, rfl, rfl⟩ | ⟨h3_0, rfl⟩
  · have hz5 := hM.2.1 eX_3 h3_0
    have hTX := hM.2.2 eX_3 tX_3 h3_0 h3_1
    have hc3 := hTX.2.2.2.2.1
    have hf3 := hTX.2.2.2.1.2
    refine lv_istore (lv' := [(5, .int (nI ((eX_3 * 5 + tX_3) * 16))), (0, .ref a0), (1, .int (nI eX_3)), (2, .int (nI tX_3)), (3, .int aw), (4, .int af)]) hx hb dX1_putCaption_6 hl (by decide) rfl (fun ls hl => ?_)
    refine lv_iload hx hb dX1_putCaption_8 (lv_at hl 0 rfl) ?_
    refine zk_zge (tgt := 15) hx hb dX1_putCaption_10 (by decide) (by omega) ?_
    refine lv_iload_n hx hb dX1_putCaption_15 rfl (lv_at hl 4 rfl) ?_
    refine lv_iconst (v := nI 1) hx hb dX1_putCaption_16 (by decide) ?_
    refine lv_icmp_lt (tgt := 38) hx hb dX1_putCaption_17 (by decide) (fun c17 => ?_) (fun c17 => ?_)
    · refine lv_bipush (v := (-2)) hx hb dX1_putCaption_38 (by decide) ?_
      exact W.iret (v := (-2)) hx hb hr (fun tT ht hW => ⟨⟨_, (sg, sz, sc), rfl, Or.inr (Or.inl ⟨eX_3, tX_3, h3_0, h3_1, rfl, rfl, fun ⟨w1, f1, q1, q2, q3, q4⟩ => in_no1 (by decide) (by decide) c17 ⟨w1, q1.1, q1.2, q3⟩, rfl, rfl⟩), by show va_P G.1 vwCl _ tT.heap; rw [ht]; exact hP⟩, hS.F ht⟩) hS.2.2 dX1_putCaption_40
    · refine lv_iload_n hx hb dX1_putCaption_20 rfl (lv_at hl 4 rfl) ?_
      refine lv_bipush (v := nI 30) hx hb dX1_putCaption_21 (by decide) ?_
      refine lv_icmp_gt (tgt := 38) hx hb dX1_putCaption_23 (by decide) (fun c23 => ?_) (fun c23 => ?_)
      · refine lv_bipush (v := (-2)) hx hb dX1_putCaption_38 (by decide) ?_
        exact W.iret (v := (-2)) hx hb hr (fun tT ht hW => ⟨⟨_, (sg, sz, sc), rfl, Or.inr (Or.inl ⟨eX_3, tX_3, h3_0, h3_1, rfl, rfl, fun ⟨w1, f1, q1, q2, q3, q4⟩ => in_no2 (by decide) (by decide) c23 ⟨w1, q1.1, q1.2, q3⟩, rfl, rfl⟩), by show va_P G.1 vwCl _ tT.heap; rw [ht]; exact hP⟩, hS.F ht⟩) hS.2.2 dX1_putCaption_40
      · obtain ⟨wY, hw1, hw2, rfl⟩ := in_yes (by decide) (by decide) c17 c23
        refine lv_iload hx hb dX1_putCaption_26 (lv_at hl 5 rfl) ?_
        refine lv_if_lt (tgt := 38) hx hb dX1_putCaption_28 (by decide) (fun c28 => ?_) (fun c28 => ?_)
        · refine lv_bipush (v := (-2)) hx hb dX1_putCaption_38 (by decide) ?_
          exact W.iret (v := (-2)) hx hb hr (fun tT ht hW => ⟨⟨_, (sg, sz, sc), rfl, Or.inr (Or.inl ⟨eX_3, tX_3, h3_0, h3_1, rfl, rfl, fun ⟨w1, f1, q1, q2, q3, q4⟩ => in_no0 (by decide) c28 ⟨f1, Nat.zero_le _, q2, q4⟩, rfl, rfl⟩), by show va_P G.1 vwCl _ tT.heap; rw [ht]; exact hP⟩, hS.F ht⟩) hS.2.2 dX1_putCaption_40
        · refine lv_iload hx hb dX1_putCaption_31 (lv_at hl 5 rfl) ?_
          refine lv_ldc (v := (65535 : Int32)) hx hb hown (hts _ mwc_putCaption_0) dX1_putCaption_33 ?_
          refine zk_top (y := nI 65535) rfl ?_
          refine lv_icmp_le (tgt := 41) hx hb dX1_putCaption_35 (by decide) (fun c35 => ?_) (fun c35 => ?_)
          · obtain ⟨fY, -, hf2, rfl⟩ := in_yes0 (by decide) c28 c35
            refine lv_iload hx hb dX1_putCaption_41 (lv_at hl 5 rfl) ?_
            refine lv_aload_n hx hb dX1_putCaption_43 rfl (lv_at hl 1 rfl) ?_
            refine va_get (D := G.1) (ci := 1) (v := .ref a2) (C := RX1) (T := TX1) (N := 12) hx hb hts mic_putCaption_1 hown hK hP 0 rfl rfl 1 (by decide) (hts _ mwc_putCaption_1) (fun _ h9 => h9) rfl dX1_putCaption_44 ?_
            refine lv_iload hx hb dX1_putCaption_47 (lv_at hl 0 rfl) ?_
            refine lv_iconst (v := nI 3) hx hb dX1_putCaption_49 (by decide) ?_
            refine zk_add hx hb dX1_putCaption_50 ?_
            refine zk_ald (f := sc) (k := ((eX_3 * 5 + tX_3) * 16) + 3) hx hb hK hP 2 0 rfl rfl (Nat.le_of_ble_eq_true rfl) (by omega) dX1_putCaption_51 ?_
            refine zk_top (y := nI (sg (11 + 76 * eX_3 + 15 * tX_3 + 3))) (congrArg nI (hR.2 eX_3 tX_3 h3_0 h3_1).2.2.2.1) ?_
            refine lv_iconst (v := (-1)) hx hb dX1_putCaption_52 (by decide) ?_
            refine lv_ixor hx hb dX1_putCaption_53 ?_
            refine lv_iand hx hb dX1_putCaption_54 ?_
            refine lv_if_eq (tgt := 61) hx hb dX1_putCaption_55 (by decide) (fun c55 => ?_) (fun c55 => ?_)
            · refine lv_aload_n hx hb dX1_putCaption_61 rfl (lv_at hl 1 rfl) ?_
              refine va_get (D := G.1) (ci := 1) (v := .ref a2) (C := RX1) (T := TX1) (N := 12) hx hb hts mic_putCaption_1 hown hK hP 0 rfl rfl 1 (by decide) (hts _ mwc_putCaption_1) (fun _ h9 => h9) rfl dX1_putCaption_62 ?_
              refine lv_iload hx hb dX1_putCaption_65 (lv_at hl 0 rfl) ?_
              refine lv_iconst (v := nI 5) hx hb dX1_putCaption_67 (by decide) ?_
              refine zk_add hx hb dX1_putCaption_68 ?_
              refine zk_ald (f := sc) (k := ((eX_3 * 5 + tX_3) * 16) + 5) hx hb hK hP 2 0 rfl rfl (Nat.le_of_ble_eq_true rfl) (by omega) dX1_putCaption_69 ?_
              refine zk_top (y := nI (sg (11 + 76 * eX_3 + 15 * tX_3 + 5))) (congrArg nI (hR.2 eX_3 tX_3 h3_0 h3_1).2.2.2.2.2.1) ?_
              refine lv_istore (lv' := [(6, .int (nI (sg (11 + 76 * eX_3 + 15 * tX_3 + 5)))), (5, .int (nI ((eX_3 * 5 + tX_3) * 16))), (0, .ref a0), (1, .int (nI eX_3)), (2, .int (nI tX_3)), (3, .int (nI wY)), (4, .int (nI fY))]) hx hb dX1_putCaption_70 hl (by decide) rfl (fun ls hl => ?_)
              refine lv_iload hx hb dX1_putCaption_72 (lv_at hl 0 rfl) ?_
              refine lv_iconst (v := nI 3) hx hb dX1_putCaption_74 (by decide) ?_
              refine zk_ilt (tgt := 81) hx hb dX1_putCaption_75 (by decide) (by omega) (by omega) (fun c75 => ?_) (fun c75 => ?_)
              · refine lv_iload hx hb dX1_putCaption_81 (lv_at hl 1 rfl) ?_
                refine lv_bipush (v := nI 7) hx hb dX1_putCaption_83 (by decide) ?_
                refine zk_add hx hb dX1_putCaption_85 ?_
                refine lv_iload hx hb dX1_putCaption_86 (lv_at hl 0 rfl) ?_
                refine lv_iconst (v := nI 3) hx hb dX1_putCaption_88 (by decide) ?_
                refine zk_mul hx hb dX1_putCaption_89 ?_
                refine zk_add hx hb dX1_putCaption_90 ?_
                refine lv_istore (lv' := [(7, .int (nI ((((eX_3 * 5 + tX_3) * 16) + 7) + ((sg (11 + 76 * eX_3 + 15 * tX_3 + 5)) * 3)))), (6, .int (nI (sg (11 + 76 * eX_3 + 15 * tX_3 + 5)))), (5, .int (nI ((eX_3 * 5 + tX_3) * 16))), (0, .ref a0), (1, .int (nI eX_3)), (2, .int (nI tX_3)), (3, .int (nI wY)), (4, .int (nI fY))]) hx hb dX1_putCaption_91 hl (by decide) rfl (fun ls hl => ?_)
                refine lv_aload_n hx hb dX1_putCaption_93 rfl (lv_at hl 3 rfl) ?_
                refine va_get (D := G.1) (ci := 1) (v := .ref a2) (C := RX1) (T := TX1) (N := 12) hx hb hts mic_putCaption_1 hown hK hP 0 rfl rfl 1 (by decide) (hts _ mwc_putCaption_1) (fun _ h9 => h9) rfl dX1_putCaption_94 ?_
                refine lv_iload hx hb dX1_putCaption_97 (lv_at hl 0 rfl) ?_
                refine lv_iconst (v := nI 0) hx hb dX1_putCaption_99 (by decide) ?_
                refine zk_add hx hb dX1_putCaption_100 ?_
                refine lv_iload_n hx hb dX1_putCaption_101 rfl (lv_at hl 6 rfl) ?_
                refine zk_ast (f := sc) (k := ((((eX_3 * 5 + tX_3) * 16) + 7) + ((sg (11 + 76 * eX_3 + 15 * tX_3 + 5)) * 3)) + 0) (v := wY) (ws2 := [(a0, .inr (1, [.ref a1, .ref a2, .int (nI (sg 0)), .int (nI (sg 1)), .int (nI (sg 7)), .int (nI (sg 8)), .int (nI (sg 9)), .int (nI (sg 2)), .int (nI (sg 3)), .int (nI (sg 4)), .int (nI (sg 5)), .int (nI (sg 6))])), (a1, .inl (G.2.1, 8, .inl (arN sz))), (a2, .inl (G.2.1, 640, .inl (arN (arU sc (((((eX_3 * 5 + tX_3) * 16) + 7) + ((sg (11 + 76 * eX_3 + 15 * tX_3 + 5)) * 3)) + 0) wY))))]) hx hb hK hP hD hS 2 0 rfl rfl (Nat.le_of_ble_eq_true rfl) (by omega) rfl dX1_putCaption_102 (fun H locs hP hD hS => ?_)
                refine lv_aload_n hx hb dX1_putCaption_103 rfl (lv_at hl 3 rfl) ?_
                refine va_get (D := G.1) (ci := 1) (v := .ref a2) (C := RX1) (T := TX1) (N := 12) hx hb hts mic_putCaption_1 hown hK hP 0 rfl rfl 1 (by decide) (hts _ mwc_putCaption_1) (fun _ h9 => h9) rfl dX1_putCaption_104 ?_
                refine lv_iload hx hb dX1_putCaption_107 (lv_at hl 0 rfl) ?_
                refine lv_iconst (v := nI 1) hx hb dX1_putCaption_109 (by decide) ?_
                refine zk_add hx hb dX1_putCaption_110 ?_
                refine lv_iload hx hb dX1_putCaption_111 (lv_at hl 7 rfl) ?_
                refine zk_ast (f := arU sc (((((eX_3 * 5 + tX_3) * 16) + 7) + ((sg (11 + 76 * eX_3 + 15 * tX_3 + 5)) * 3)) + 0) wY) (k := ((((eX_3 * 5 + tX_3) * 16) + 7) + ((sg (11 + 76 * eX_3 + 15 * tX_3 + 5)) * 3)) + 1) (v := fY) (ws2 := [(a0, .inr (1, [.ref a1, .ref a2, .int (nI (sg 0)), .int (nI (sg 1)), .int (nI (sg 7)), .int (nI (sg 8)), .int (nI (sg 9)), .int (nI (sg 2)), .int (nI (sg 3)), .int (nI (sg 4)), .int (nI (sg 5)), .int (nI (sg 6))])), (a1, .inl (G.2.1, 8, .inl (arN sz))), (a2, .inl (G.2.1, 640, .inl (arN (arU (arU sc (((((eX_3 * 5 + tX_3) * 16) + 7) + ((sg (11 + 76 * eX_3 + 15 * tX_3 + 5)) * 3)) + 0) wY) (((((eX_3 * 5 + tX_3) * 16) + 7) + ((sg (11 + 76 * eX_3 + 15 * tX_3 + 5)) * 3)) + 1) fY))))]) hx hb hK hP hD hS 2 0 rfl rfl (Nat.le_of_ble_eq_true rfl) (by omega) rfl dX1_putCaption_113 (fun H locs hP hD hS => ?_)
                refine lv_aload_n hx hb dX1_putCaption_114 rfl (lv_at hl 3 rfl) ?_
                refine va_get (D := G.1) (ci := 1) (v := .ref a2) (C := RX1) (T := TX1) (N := 12) hx hb hts mic_putCaption_1 hown hK hP 0 rfl rfl 1 (by decide) (hts _ mwc_putCaption_1) (fun _ h9 => h9) rfl dX1_putCaption_115 ?_
                refine lv_iload hx hb dX1_putCaption_118 (lv_at hl 0 rfl) ?_
                refine lv_iconst (v := nI 2) hx hb dX1_putCaption_120 (by decide) ?_
                refine zk_add hx hb dX1_putCaption_121 ?_
                refine lv_iconst (v := nI 0) hx hb dX1_putCaption_122 (by decide) ?_
                refine zk_ast (f := arU (arU sc (((((eX_3 * 5 + tX_3) * 16) + 7) + ((sg (11 + 76 * eX_3 + 15 * tX_3 + 5)) * 3)) + 0) wY) (((((eX_3 * 5 + tX_3) * 16) + 7) + ((sg (11 + 76 * eX_3 + 15 * tX_3 + 5)) * 3)) + 1) fY) (k := ((((eX_3 * 5 + tX_3) * 16) + 7) + ((sg (11 + 76 * eX_3 + 15 * tX_3 + 5)) * 3)) + 2) (v := 0) (ws2 := [(a0, .inr (1, [.ref a1, .ref a2, .int (nI (sg 0)), .int (nI (sg 1)), .int (nI (sg 7)), .int (nI (sg 8)), .int (nI (sg 9)), .int (nI (sg 2)), .int (nI (sg 3)), .int (nI (sg 4)), .int (nI (sg 5)), .int (nI (sg 6))])), (a1, .inl (G.2.1, 8, .inl (arN sz))), (a2, .inl (G.2.1, 640, .inl (arN (arU (arU (arU sc (((((eX_3 * 5 + tX_3) * 16) + 7) + ((sg (11 + 76 * eX_3 + 15 * tX_3 + 5)) * 3)) + 0) wY) (((((eX_3 * 5 + tX_3) * 16) + 7) + ((sg (11 + 76 * eX_3 + 15 * tX_3 + 5)) * 3)) + 1) fY) (((((eX_3 * 5 + tX_3) * 16) + 7) + ((sg (11 + 76 * eX_3 + 15 * tX_3 + 5)) * 3)) + 2) 0))))]) hx hb hK hP hD hS 2 0 rfl rfl (Nat.le_of_ble_eq_true rfl) (by omega) rfl dX1_putCaption_123 (fun H locs hP hD hS => ?_)
                refine lv_aload_n hx hb dX1_putCaption_124 rfl (lv_at hl 3 rfl) ?_
                refine va_get (D := G.1) (ci := 1) (v := .ref a2) (C := RX1) (T := TX1) (N := 12) hx hb hts mic_putCaption_1 hown hK hP 0 rfl rfl 1 (by decide) (hts _ mwc_putCaption_1) (fun _ h9 => h9) rfl dX1_putCaption_125 ?_
                refine lv_iload hx hb dX1_putCaption_128 (lv_at hl 2 rfl) ?_
                refine lv_iconst (v := nI 5) hx hb dX1_putCaption_130 (by decide) ?_
                refine zk_add hx hb dX1_putCaption_131 ?_
                refine lv_iload hx hb dX1_putCaption_132 (lv_at hl 1 rfl) ?_
                refine lv_iconst (v := nI 1) hx hb dX1_putCaption_134 (by decide) ?_
                refine zk_add hx hb dX1_putCaption_135 ?_
                refine zk_ast (f := arU (arU (arU sc (((((eX_3 * 5 + tX_3) * 16) + 7) + ((sg (11 + 76 * eX_3 + 15 * tX_3 + 5)) * 3)) + 0) wY) (((((eX_3 * 5 + tX_3) * 16) + 7) + ((sg (11 + 76 * eX_3 + 15 * tX_3 + 5)) * 3)) + 1) fY) (((((eX_3 * 5 + tX_3) * 16) + 7) + ((sg (11 + 76 * eX_3 + 15 * tX_3 + 5)) * 3)) + 2) 0) (k := ((eX_3 * 5 + tX_3) * 16) + 5) (v := (sg (11 + 76 * eX_3 + 15 * tX_3 + 5)) + 1) (ws2 := [(a0, .inr (1, [.ref a1, .ref a2, .int (nI (sg 0)), .int (nI (sg 1)), .int (nI (sg 7)), .int (nI (sg 8)), .int (nI (sg 9)), .int (nI (sg 2)), .int (nI (sg 3)), .int (nI (sg 4)), .int (nI (sg 5)), .int (nI (sg 6))])), (a1, .inl (G.2.1, 8, .inl (arN sz))), (a2, .inl (G.2.1, 640, .inl (arN (arU (arU (arU (arU sc (((((eX_3 * 5 + tX_3) * 16) + 7) + ((sg (11 + 76 * eX_3 + 15 * tX_3 + 5)) * 3)) + 0) wY) (((((eX_3 * 5 + tX_3) * 16) + 7) + ((sg (11 + 76 * eX_3 + 15 * tX_3 + 5)) * 3)) + 1) fY) (((((eX_3 * 5 + tX_3) * 16) + 7) + ((sg (11 + 76 * eX_3 + 15 * tX_3 + 5)) * 3)) + 2) 0) (((eX_3 * 5 + tX_3) * 16) + 5) ((sg (11 + 76 * eX_3 + 15 * tX_3 + 5)) + 1)))))]) hx hb hK hP hD hS 2 0 rfl rfl (Nat.le_of_ble_eq_true rfl) (by omega) rfl dX1_putCaption_136 (fun H locs hP hD hS => ?_)
                refine lv_iload hx hb dX1_putCaption_137 (lv_at hl 1 rfl) ?_
                have qf0 : addC sg eX_3 tX_3 wY fY 0 = sg 0 := addC_lo 0 (by omega)
                have qf1 : addC sg eX_3 tX_3 wY fY 1 = sg 1 := addC_lo 1 (by omega)
                have qf7 : addC sg eX_3 tX_3 wY fY 7 = sg 7 := addC_lo 7 (by omega)
                have qf8 : addC sg eX_3 tX_3 wY fY 8 = sg 8 := addC_lo 8 (by omega)
                have qf9 : addC sg eX_3 tX_3 wY fY 9 = sg 9 := addC_lo 9 (by omega)
                have qf2 : addC sg eX_3 tX_3 wY fY 2 = sg 2 := addC_lo 2 (by omega)
                have qf3 : addC sg eX_3 tX_3 wY fY 3 = sg 3 := addC_lo 3 (by omega)
                have qf4 : addC sg eX_3 tX_3 wY fY 4 = sg 4 := addC_lo 4 (by omega)
                have qf5 : addC sg eX_3 tX_3 wY fY 5 = sg 5 := addC_lo 5 (by omega)
                have qf6 : addC sg eX_3 tX_3 wY fY 6 = sg 6 := addC_lo 6 (by omega)
                have hP : va_P G.1 vwCl [(a0, .inr (1, [.ref a1, .ref a2, .int (nI ((addC sg eX_3 tX_3 wY fY) 0)), .int (nI ((addC sg eX_3 tX_3 wY fY) 1)), .int (nI ((addC sg eX_3 tX_3 wY fY) 7)), .int (nI ((addC sg eX_3 tX_3 wY fY) 8)), .int (nI ((addC sg eX_3 tX_3 wY fY) 9)), .int (nI ((addC sg eX_3 tX_3 wY fY) 2)), .int (nI ((addC sg eX_3 tX_3 wY fY) 3)), .int (nI ((addC sg eX_3 tX_3 wY fY) 4)), .int (nI ((addC sg eX_3 tX_3 wY fY) 5)), .int (nI ((addC sg eX_3 tX_3 wY fY) 6))])), (a1, .inl (G.2.1, 8, .inl (arN sz))), (a2, .inl (G.2.1, 640, .inl (arN (arU (arU (arU (arU sc (((((eX_3 * 5 + tX_3) * 16) + 7) + ((sg (11 + 76 * eX_3 + 15 * tX_3 + 5)) * 3)) + 0) wY) (((((eX_3 * 5 + tX_3) * 16) + 7) + ((sg (11 + 76 * eX_3 + 15 * tX_3 + 5)) * 3)) + 1) fY) (((((eX_3 * 5 + tX_3) * 16) + 7) + ((sg (11 + 76 * eX_3 + 15 * tX_3 + 5)) * 3)) + 2) 0) (((eX_3 * 5 + tX_3) * 16) + 5) ((sg (11 + 76 * eX_3 + 15 * tX_3 + 5)) + 1)))))] H := by rw [qf0, qf1, qf7, qf8, qf9, qf2, qf3, qf4, qf5, qf6]; exact hP
                have hD : va_D (zIn [(a0, .inr (1, [.ref a1, .ref a2, .int (nI (sg 0)), .int (nI (sg 1)), .int (nI (sg 7)), .int (nI (sg 8)), .int (nI (sg 9)), .int (nI (sg 2)), .int (nI (sg 3)), .int (nI (sg 4)), .int (nI (sg 5)), .int (nI (sg 6))])), (a1, .inl (G.2.1, 8, .inl (arN sz))), (a2, .inl (G.2.1, 640, .inl (arN sc)))]) [(a0, .inr (1, [.ref a1, .ref a2, .int (nI ((addC sg eX_3 tX_3 wY fY) 0)), .int (nI ((addC sg eX_3 tX_3 wY fY) 1)), .int (nI ((addC sg eX_3 tX_3 wY fY) 7)), .int (nI ((addC sg eX_3 tX_3 wY fY) 8)), .int (nI ((addC sg eX_3 tX_3 wY fY) 9)), .int (nI ((addC sg eX_3 tX_3 wY fY) 2)), .int (nI ((addC sg eX_3 tX_3 wY fY) 3)), .int (nI ((addC sg eX_3 tX_3 wY fY) 4)), .int (nI ((addC sg eX_3 tX_3 wY fY) 5)), .int (nI ((addC sg eX_3 tX_3 wY fY) 6))])), (a1, .inl (G.2.1, 8, .inl (arN sz))), (a2, .inl (G.2.1, 640, .inl (arN (arU (arU (arU (arU sc (((((eX_3 * 5 + tX_3) * 16) + 7) + ((sg (11 + 76 * eX_3 + 15 * tX_3 + 5)) * 3)) + 0) wY) (((((eX_3 * 5 + tX_3) * 16) + 7) + ((sg (11 + 76 * eX_3 + 15 * tX_3 + 5)) * 3)) + 1) fY) (((((eX_3 * 5 + tX_3) * 16) + 7) + ((sg (11 + 76 * eX_3 + 15 * tX_3 + 5)) * 3)) + 2) 0) (((eX_3 * 5 + tX_3) * 16) + 5) ((sg (11 + 76 * eX_3 + 15 * tX_3 + 5)) + 1)))))] := by rw [qf0, qf1, qf7, qf8, qf9, qf2, qf3, qf4, qf5, qf6]; exact hD
                exact W.iret (v := nI (sg (11 + 76 * eX_3 + 15 * tX_3 + 5))) hx hb hr (fun tT ht hW => ⟨⟨_, (addC sg eX_3 tX_3 wY fY, sz, rowC sc eX_3 tX_3 (sg (11 + 76 * eX_3 + 15 * tX_3 + 5)) wY fY), rfl, Or.inr (Or.inr (Or.inr (Or.inr ⟨eX_3, tX_3, wY, fY, _, _, h3_0, h3_1, rfl, rfl, hw1, hw2, hf2, rfl, rfl, c55, c75, rel_addC hM hR h3_0 h3_1 c75, mOK_addC hM h3_0 h3_1 c75 ⟨hw1, hw2⟩ hf2, rfl, rfl⟩))), by show va_P G.1 vwCl _ tT.heap; rw [ht]; exact hP⟩, hS.F ht⟩) hS.2.2 dX1_putCaption_139
              · refine lv_bipush (v := (-3)) hx hb dX1_putCaption_78 (by decide) ?_
                exact W.iret (v := (-3)) hx hb hr (fun tT ht hW => ⟨⟨_, (sg, sz, sc), rfl, Or.inr (Or.inr (Or.inr (Or.inl ⟨eX_3, tX_3, wY, fY, h3_0, h3_1, rfl, rfl, hw1, hw2, hf2, rfl, rfl, c55, by omega, rfl, rfl⟩))), by show va_P G.1 vwCl _ tT.heap; rw [ht]; exact hP⟩, hS.F ht⟩) hS.2.2 dX1_putCaption_80
            · refine lv_bipush (v := (-4)) hx hb dX1_putCaption_58 (by decide) ?_
              exact W.iret (v := (-4)) hx hb hr (fun tT ht hW => ⟨⟨_, (sg, sz, sc), rfl, Or.inr (Or.inr (Or.inl ⟨eX_3, tX_3, wY, fY, h3_0, h3_1, rfl, rfl, hw1, hw2, hf2, rfl, rfl, c55, rfl, rfl⟩)), by show va_P G.1 vwCl _ tT.heap; rw [ht]; exact hP⟩, hS.F ht⟩) hS.2.2 dX1_putCaption_60
          · refine lv_bipush (v := (-2)) hx hb dX1_putCaption_38 (by decide) ?_
            exact W.iret (v := (-2)) hx hb hr (fun tT ht hW => ⟨⟨_, (sg, sz, sc), rfl, Or.inr (Or.inl ⟨eX_3, tX_3, h3_0, h3_1, rfl, rfl, fun ⟨w1, f1, q1, q2, q3, q4⟩ => in_no3 (by decide) (by decide) c35 ⟨f1, Nat.zero_le _, q2, q4⟩, rfl, rfl⟩), by show va_P G.1 vwCl _ tT.heap; rw [ht]; exact hP⟩, hS.F ht⟩) hS.2.2 dX1_putCaption_40
  · refine lv_istore (lv' := [(5, .int (-1)), (0, .ref a0), (1, .int x), (2, .int y), (3, .int aw), (4, .int af)]) hx hb dX1_putCaption_6 hl (by decide) rfl (fun ls hl => ?_)
    refine lv_iload hx hb dX1_putCaption_8 (lv_at hl 0 rfl) ?_
    refine lv_if_ge (tgt := 15) hx hb dX1_putCaption_10 (by decide) (fun q => absurd q (by decide)) (fun _ => ?_)
    refine lv_iconst (v := (-1)) hx hb dX1_putCaption_13 (by decide) ?_
    exact W.iret (v := (-1)) hx hb hr (fun tT ht hW => ⟨⟨_, (sg, sz, sc), rfl, Or.inl ⟨h3_0, rfl, rfl⟩, by show va_P G.1 vwCl _ tT.heap; rw [ht]; exact hP⟩, hS.F ht⟩) hS.2.2 dX1_putCaption_14
set_option maxRecDepth 100000 in
theorem mwc_admit_0 : Cond.initialized RX2 ∈ wsX1_admit := by decide +kernel
set_option maxRecDepth 100000 in
theorem mwc_admit_1 : Cond.static yX2_isAge ∈ wsX1_admit := by decide +kernel
set_option maxRecDepth 100000 in
theorem mwc_admit_2 : Cond.fieldLink RX1 40 "ExhibitTexts$State" "hasVisitor" "Z" ∈ wsX1_admit := by decide +kernel
set_option maxRecDepth 100000 in
theorem mic_admit_1 : ∀ w ∈ u_ws RX1 TX1 12, w ∈ wsX1_admit := by decide +kernel
set_option maxRecDepth 100000 in
theorem mwc_admit_4 : Cond.fieldLink RX1 44 "ExhibitTexts$State" "age" "I" ∈ wsX1_admit := by decide +kernel
set_option maxRecDepth 100000 in
theorem mwc_admit_5 : Cond.fieldLink RX1 47 "ExhibitTexts$State" "pace" "I" ∈ wsX1_admit := by decide +kernel
set_option maxRecDepth 100000 in
theorem mwc_admit_6 : Cond.fieldLink RX1 50 "ExhibitTexts$State" "seconds" "I" ∈ wsX1_admit := by decide +kernel
set_option maxRecDepth 100000 in
theorem mwc_admit_7 : Cond.fieldLink RX1 53 "ExhibitTexts$State" "learned" "I" ∈ wsX1_admit := by decide +kernel
set_option maxRecDepth 100000 in
theorem mwc_admit_8 : Cond.fieldLink RX1 31 "ExhibitTexts$State" "visitors" "I" ∈ wsX1_admit := by decide +kernel
set_option maxRecDepth 100000 in
theorem mwc_admit_9 : Cond.fieldLink RX1 28 "ExhibitTexts$State" "standsAt" "I" ∈ wsX1_admit := by decide +kernel
set_option maxHeartbeats 4000000 in
set_option maxRecDepth 100000 in
/-- X1_admit: a visitor comes -/
theorem c_admit (l : Launch) (G : zG) (a0 : Nat) (a1 : Nat) (a2 : Nat) (sz : Nat → Nat) (sc : Nat → Nat) (sg : Nat → Nat) (x : Int32) (y : Int32) (z : Int32) (hM : mOK sg) (hR : sRel sz sc sg) : Met l yX1_admit wsX1_admit ({ frames := 2, cells := 0, slots := 0, locals := 50 } : Room) (zPc G [.ref a0, .int x, .int y, .int z] [(a0, .inr (1, [.ref a1, .ref a2, .int (nI (sg 0)), .int (nI (sg 1)), .int (nI (sg 7)), .int (nI (sg 8)), .int (nI (sg 9)), .int (nI (sg 2)), .int (nI (sg 3)), .int (nI (sg 4)), .int (nI (sg 5)), .int (nI (sg 6))])), (a1, .inl (G.2.1, 8, .inl (arN sz))), (a2, .inl (G.2.1, 640, .inl (arN sc)))]) (va_Qi (fun (rR : Int32) (uU : (Nat → Nat) × (Nat → Nat) × (Nat → Nat)) => (¬ pVi x y z ∧ rR = (-2) ∧ uU = (sg, sz, sc)) ∨ (∃ (aX : Nat) (pX : Nat) (sX : Nat) (zZ : Nat → Nat) (cC : Nat → Nat), 4 ≤ aX ∧ aX ≤ 99 ∧ 30 ≤ pX ∧ pX ≤ 400 ∧ 1 ≤ sX ∧ sX ≤ 9999 ∧ x = nI aX ∧ y = nI pX ∧ z = nI sX ∧ sN (enT sg aX pX sX) = none ∧ sRel zZ cC (enT sg aX pX sX) ∧ mOK (enT sg aX pX sX) ∧ rR = nI 9 ∧ uU = (enT sg aX pX sX, zZ, cC)) ∨ (∃ (aX : Nat) (pX : Nat) (sX : Nat) (tX : Nat) (zZ : Nat → Nat) (cC : Nat → Nat), 4 ≤ aX ∧ aX ≤ 99 ∧ 30 ≤ pX ∧ pX ≤ 400 ∧ 1 ≤ sX ∧ sX ≤ 9999 ∧ x = nI aX ∧ y = nI pX ∧ z = nI sX ∧ sN (enT sg aX pX sX) = some tX ∧ sRel zZ cC (enT sg aX pX sX) ∧ mOK (enT sg aX pX sX) ∧ rR = nI tX ∧ uU = (enT sg aX pX sX, zZ, cC))) (fun uU tT => va_P G.1 vwCl ((fun (uU : (Nat → Nat) × (Nat → Nat) × (Nat → Nat)) => ([(a0, .inr (1, [.ref a1, .ref a2, .int (nI (uU.1 0)), .int (nI (uU.1 1)), .int (nI (uU.1 7)), .int (nI (uU.1 8)), .int (nI (uU.1 9)), .int (nI (uU.1 2)), .int (nI (uU.1 3)), .int (nI (uU.1 4)), .int (nI (uU.1 5)), .int (nI (uU.1 6))])), (a1, .inl (G.2.1, 8, .inl (arN uU.2.1))), (a2, .inl (G.2.1, 640, .inl (arN uU.2.2)))] : va_W)) uU) tT.heap) (zIn [(a0, .inr (1, [.ref a1, .ref a2, .int (nI (sg 0)), .int (nI (sg 1)), .int (nI (sg 7)), .int (nI (sg 8)), .int (nI (sg 9)), .int (nI (sg 2)), .int (nI (sg 3)), .int (nI (sg 4)), .int (nI (sg 5)), .int (nI (sg 6))])), (a1, .inl (G.2.1, 8, .inl (arN sz))), (a2, .inl (G.2.1, 640, .inl (arN sc)))])) 0 0 (zIn [(a0, .inr (1, [.ref a1, .ref a2, .int (nI (sg 0)), .int (nI (sg 1)), .int (nI (sg 7)), .int (nI (sg 8)), .int (nI (sg 9)), .int (nI (sg 2)), .int (nI (sg 3)), .int (nI (sg 4)), .int (nI (sg 5)), .int (nI (sg 6))])), (a1, .inl (G.2.1, 8, .inl (arN sz))), (a2, .inl (G.2.1, 640, .inl (arN sc)))]) := by
  refine zM (cc := cX1_admit) (maxL := 5) (ret := (some .int)) (by decide) rfl (Nat.le_of_ble_eq_true rfl) ?_
  intro pP eE sS mM below meth cC hx hb hr hts hown hlk hml hnm hK hN hP hD hS ls hl
  have hl : lv_has ls 5 [(0, .ref a0), (1, .int x), (2, .int y), (3, .int z)] := hl
  refine lv_iload_n hx hb dX1_admit_0 rfl (lv_at hl 1 rfl) ?_
  refine zc_SN (As := [.int x]) (rest := []) ⟨hx, hb, hml, hown, hts⟩ (c_xAge l x ) ⟨va_cnB 1 hts gX1_admit_X2_isAge_n73 rfl rfl rfl hN.X1_X2_isAge (hts _ mwc_admit_0) (by decide +kernel) ⟨Nat.le_of_ble_eq_true rfl, Nat.le_of_ble_eq_true rfl⟩, hts _ mwc_admit_1, trivial⟩ rfl hl.1 rfl (Nat.le_of_ble_eq_true rfl) dX1_admit_1 ⟨Nat.zero_le _, Nat.zero_le _⟩ (fun r1 h1 => ?_)
  rcases h1 with ⟨aX_1, h1_0, h1_1, rfl, rfl⟩ | ⟨h1_0, rfl⟩
  · refine lv_if_eq (tgt := 32) hx hb dX1_admit_4 (by decide) (fun q => absurd q (by decide)) (fun _ => ?_)
    refine lv_iload_n hx hb dX1_admit_7 rfl (lv_at hl 2 rfl) ?_
    refine lv_bipush (v := nI 30) hx hb dX1_admit_8 (by decide) ?_
    refine lv_icmp_lt (tgt := 32) hx hb dX1_admit_10 (by decide) (fun c10 => ?_) (fun c10 => ?_)
    · refine lv_bipush (v := (-2)) hx hb dX1_admit_32 (by decide) ?_
      exact W.iret (v := (-2)) hx hb hr (fun tT ht hW => ⟨⟨_, (sg, sz, sc), rfl, Or.inl ⟨fun ⟨a, b, c, q1, q2, q3, q4, q5, q6, q7, q8, q9⟩ => in_no1 (by decide) (by decide) c10 ⟨b, q3, q4, q8⟩, rfl, rfl⟩, by show va_P G.1 vwCl _ tT.heap; rw [ht]; exact hP⟩, hS.F ht⟩) hS.2.2 dX1_admit_34
    · refine lv_iload_n hx hb dX1_admit_13 rfl (lv_at hl 2 rfl) ?_
      refine lv_sipush (v := nI 400) hx hb dX1_admit_14 (by decide) ?_
      refine lv_icmp_gt (tgt := 32) hx hb dX1_admit_17 (by decide) (fun c17 => ?_) (fun c17 => ?_)
      · refine lv_bipush (v := (-2)) hx hb dX1_admit_32 (by decide) ?_
        exact W.iret (v := (-2)) hx hb hr (fun tT ht hW => ⟨⟨_, (sg, sz, sc), rfl, Or.inl ⟨fun ⟨a, b, c, q1, q2, q3, q4, q5, q6, q7, q8, q9⟩ => in_no2 (by decide) (by decide) c17 ⟨b, q3, q4, q8⟩, rfl, rfl⟩, by show va_P G.1 vwCl _ tT.heap; rw [ht]; exact hP⟩, hS.F ht⟩) hS.2.2 dX1_admit_34
      · obtain ⟨pY, hp1, hp2, rfl⟩ := in_yes (by decide) (by decide) c10 c17
        refine lv_iload_n hx hb dX1_admit_20 rfl (lv_at hl 3 rfl) ?_
        refine lv_iconst (v := nI 1) hx hb dX1_admit_21 (by decide) ?_
        refine lv_icmp_lt (tgt := 32) hx hb dX1_admit_22 (by decide) (fun c22 => ?_) (fun c22 => ?_)
        · refine lv_bipush (v := (-2)) hx hb dX1_admit_32 (by decide) ?_
          exact W.iret (v := (-2)) hx hb hr (fun tT ht hW => ⟨⟨_, (sg, sz, sc), rfl, Or.inl ⟨fun ⟨a, b, c, q1, q2, q3, q4, q5, q6, q7, q8, q9⟩ => in_no1 (by decide) (by decide) c22 ⟨c, q5, q6, q9⟩, rfl, rfl⟩, by show va_P G.1 vwCl _ tT.heap; rw [ht]; exact hP⟩, hS.F ht⟩) hS.2.2 dX1_admit_34
        · refine lv_iload_n hx hb dX1_admit_25 rfl (lv_at hl 3 rfl) ?_
          refine lv_sipush (v := nI 9999) hx hb dX1_admit_26 (by decide) ?_
          refine lv_icmp_le (tgt := 35) hx hb dX1_admit_29 (by decide) (fun c29 => ?_) (fun c29 => ?_)
          · obtain ⟨sY, hs1, hs2, rfl⟩ := in_yesL (by decide) (by decide) c22 c29
            refine lv_aload_n hx hb dX1_admit_35 rfl (lv_at hl 0 rfl) ?_
            refine lv_iconst (v := nI 1) hx hb dX1_admit_36 (by decide) ?_
            refine zk_put (D := G.1) (ci := 1) (v := .int (nI 1)) (ty := .boolean) (C := RX1) (T := TX1) (N := 12) (ws2 := [(a0, .inr (1, [.ref a1, .ref a2, .int (nI (sg 0)), .int (nI (sg 1)), .int (nI (sg 7)), .int (nI (sg 8)), .int (nI (sg 9)), .int (nI 1), .int (nI (sg 3)), .int (nI (sg 4)), .int (nI (sg 5)), .int (nI (sg 6))])), (a1, .inl (G.2.1, 8, .inl (arN sz))), (a2, .inl (G.2.1, 640, .inl (arN sc)))]) hx hb hts mic_admit_1 tyX1 tyX1_ok nmX1 hown hK hP hD hS 0 rfl rfl 7 (by decide) (hts _ mwc_admit_2) (fun _ h9 => h9) rfl (by decide +kernel) rfl rfl (Nat.le_of_ble_eq_true rfl) rfl dX1_admit_37 (fun H locs hP hD hS => ?_)
            refine lv_aload_n hx hb dX1_admit_40 rfl (lv_at hl 0 rfl) ?_
            refine lv_iload_n hx hb dX1_admit_41 rfl (lv_at hl 1 rfl) ?_
            refine zk_put (D := G.1) (ci := 1) (v := .int (nI aX_1)) (ty := .int) (C := RX1) (T := TX1) (N := 12) (ws2 := [(a0, .inr (1, [.ref a1, .ref a2, .int (nI (sg 0)), .int (nI (sg 1)), .int (nI (sg 7)), .int (nI (sg 8)), .int (nI (sg 9)), .int (nI 1), .int (nI aX_1), .int (nI (sg 4)), .int (nI (sg 5)), .int (nI (sg 6))])), (a1, .inl (G.2.1, 8, .inl (arN sz))), (a2, .inl (G.2.1, 640, .inl (arN sc)))]) hx hb hts mic_admit_1 tyX1 tyX1_ok nmX1 hown hK hP hD hS 0 rfl rfl 8 (by decide) (hts _ mwc_admit_4) (fun _ h9 => h9) rfl (by decide +kernel) rfl rfl (Nat.le_of_ble_eq_true rfl) rfl dX1_admit_42 (fun H locs hP hD hS => ?_)
            refine lv_aload_n hx hb dX1_admit_45 rfl (lv_at hl 0 rfl) ?_
            refine lv_iload_n hx hb dX1_admit_46 rfl (lv_at hl 2 rfl) ?_
            refine zk_put (D := G.1) (ci := 1) (v := .int (nI pY)) (ty := .int) (C := RX1) (T := TX1) (N := 12) (ws2 := [(a0, .inr (1, [.ref a1, .ref a2, .int (nI (sg 0)), .int (nI (sg 1)), .int (nI (sg 7)), .int (nI (sg 8)), .int (nI (sg 9)), .int (nI 1), .int (nI aX_1), .int (nI pY), .int (nI (sg 5)), .int (nI (sg 6))])), (a1, .inl (G.2.1, 8, .inl (arN sz))), (a2, .inl (G.2.1, 640, .inl (arN sc)))]) hx hb hts mic_admit_1 tyX1 tyX1_ok nmX1 hown hK hP hD hS 0 rfl rfl 9 (by decide) (hts _ mwc_admit_5) (fun _ h9 => h9) rfl (by decide +kernel) rfl rfl (Nat.le_of_ble_eq_true rfl) rfl dX1_admit_47 (fun H locs hP hD hS => ?_)
            refine lv_aload_n hx hb dX1_admit_50 rfl (lv_at hl 0 rfl) ?_
            refine lv_iload_n hx hb dX1_admit_51 rfl (lv_at hl 3 rfl) ?_
            refine zk_put (D := G.1) (ci := 1) (v := .int (nI sY)) (ty := .int) (C := RX1) (T := TX1) (N := 12) (ws2 := [(a0, .inr (1, [.ref a1, .ref a2, .int (nI (sg 0)), .int (nI (sg 1)), .int (nI (sg 7)), .int (nI (sg 8)), .int (nI (sg 9)), .int (nI 1), .int (nI aX_1), .int (nI pY), .int (nI sY), .int (nI (sg 6))])), (a1, .inl (G.2.1, 8, .inl (arN sz))), (a2, .inl (G.2.1, 640, .inl (arN sc)))]) hx hb hts mic_admit_1 tyX1 tyX1_ok nmX1 hown hK hP hD hS 0 rfl rfl 10 (by decide) (hts _ mwc_admit_6) (fun _ h9 => h9) rfl (by decide +kernel) rfl rfl (Nat.le_of_ble_eq_true rfl) rfl dX1_admit_52 (fun H locs hP hD hS => ?_)
            refine lv_aload_n hx hb dX1_admit_55 rfl (lv_at hl 0 rfl) ?_
            refine lv_iconst (v := nI 0) hx hb dX1_admit_56 (by decide) ?_
            refine zk_put (D := G.1) (ci := 1) (v := .int (nI 0)) (ty := .int) (C := RX1) (T := TX1) (N := 12) (ws2 := [(a0, .inr (1, [.ref a1, .ref a2, .int (nI (sg 0)), .int (nI (sg 1)), .int (nI (sg 7)), .int (nI (sg 8)), .int (nI (sg 9)), .int (nI 1), .int (nI aX_1), .int (nI pY), .int (nI sY), .int (nI 0)])), (a1, .inl (G.2.1, 8, .inl (arN sz))), (a2, .inl (G.2.1, 640, .inl (arN sc)))]) hx hb hts mic_admit_1 tyX1 tyX1_ok nmX1 hown hK hP hD hS 0 rfl rfl 11 (by decide) (hts _ mwc_admit_7) (fun _ h9 => h9) rfl (by decide +kernel) rfl rfl (Nat.le_of_ble_eq_true rfl) rfl dX1_admit_57 (fun H locs hP hD hS => ?_)
            refine lv_aload_n hx hb dX1_admit_60 rfl (lv_at hl 0 rfl) ?_
            refine lv_dup hx hb dX1_admit_61 rfl ?_
            refine va_get (D := G.1) (ci := 1) (v := .int (nI (sg 7))) (C := RX1) (T := TX1) (N := 12) hx hb hts mic_admit_1 hown hK hP 0 rfl rfl 4 (by decide) (hts _ mwc_admit_8) (fun _ h9 => h9) rfl dX1_admit_62 ?_
            refine lv_iconst (v := nI 1) hx hb dX1_admit_65 (by decide) ?_
            refine zk_add hx hb dX1_admit_66 ?_
            refine zk_put (D := G.1) (ci := 1) (v := .int (nI ((sg 7) + 1))) (ty := .int) (C := RX1) (T := TX1) (N := 12) (ws2 := [(a0, .inr (1, [.ref a1, .ref a2, .int (nI (sg 0)), .int (nI (sg 1)), .int (nI ((sg 7) + 1)), .int (nI (sg 8)), .int (nI (sg 9)), .int (nI 1), .int (nI aX_1), .int (nI pY), .int (nI sY), .int (nI 0)])), (a1, .inl (G.2.1, 8, .inl (arN sz))), (a2, .inl (G.2.1, 640, .inl (arN sc)))]) hx hb hts mic_admit_1 tyX1 tyX1_ok nmX1 hown hK hP hD hS 0 rfl rfl 4 (by decide) (hts _ mwc_admit_8) (fun _ h9 => h9) rfl (by decide +kernel) rfl rfl (Nat.le_of_ble_eq_true rfl) rfl dX1_admit_67 (fun H locs hP hD hS => ?_)
            refine lv_aload_n hx hb dX1_admit_70 rfl (lv_at hl 0 rfl) ?_
            refine lv_aload_n hx hb dX1_admit_71 rfl (lv_at hl 0 rfl) ?_
            refine va_get (D := G.1) (ci := 1) (v := .int (nI (sg 0))) (C := RX1) (T := TX1) (N := 12) hx hb hts mic_admit_1 hown hK hP 0 rfl rfl 2 (by decide) (hts _ mwc_admit_9) (fun _ h9 => h9) rfl dX1_admit_72 ?_
            refine lv_aload_n hx hb dX1_admit_75 rfl (lv_at hl 0 rfl) ?_
            refine va_get (D := G.1) (ci := 1) (v := .int (nI aX_1)) (C := RX1) (T := TX1) (N := 12) hx hb hts mic_admit_1 hown hK hP 0 rfl rfl 8 (by decide) (hts _ mwc_admit_4) (fun _ h9 => h9) rfl dX1_admit_76 ?_
            have hM2 := mOK_enT (sg := sg) hM ⟨h1_0, h1_1⟩ ⟨hp1, hp2⟩ hs2
            have hR2 := rel_enT (x := aX_1) (y := pY) (z := sY) hR
            refine zc_R (As := [.int (nI (sg 0)), .int (nI aX_1)]) (rest := []) ⟨hx, hb, hml, hown, hts⟩ (c_textFor l G a0 a1 a2 sz sc (enT sg aX_1 pY sY) (sg 0) aX_1 hM2 hR2 hM.1.1 h1_1) (cwV 2 hts gX1_admit_X1_textFor rfl rfl rfl (by decide +kernel) ⟨Nat.le_of_ble_eq_true rfl, Nat.le_of_ble_eq_true rfl⟩) hK hN hP hD [0, 1, 2] rfl (by decide) (ci := 1) rfl rfl rfl hl.1 rfl (Nat.le_of_ble_eq_true rfl) dX1_admit_79 ⟨Nat.zero_le _, Nat.zero_le _⟩ (fun r79 h79 => ?_)
            rcases h79 with ⟨h79_0, rfl⟩ | ⟨tX_79, h79_0, rfl⟩
            · refine lv_istore (lv' := [(4, .int (-5)), (0, .ref a0), (1, .int (nI aX_1)), (2, .int (nI pY)), (3, .int (nI sY))]) hx hb dX1_admit_82 hl (by decide) rfl (fun ls hl => ?_)
              refine lv_iload hx hb dX1_admit_84 (lv_at hl 0 rfl) ?_
              refine lv_bipush (v := (-5)) hx hb dX1_admit_86 (by decide) ?_
              refine lv_icmp_ne (tgt := 96) hx hb dX1_admit_88 (by decide) (fun q => absurd (by decide) q) (fun _ => ?_)
              refine lv_bipush (v := nI 9) hx hb dX1_admit_91 (by decide) ?_
              refine lv_goto (tgt := 98) hx hb dX1_admit_93 (by decide) ?_
              exact W.iret (v := nI 9) hx hb hr (fun tT ht hW => ⟨⟨_, (enT sg aX_1 pY sY, sz, sc), rfl, Or.inr (Or.inl ⟨aX_1, pY, sY, _, _, h1_0, h1_1, hp1, hp2, hs1, hs2, rfl, rfl, rfl, h79_0, hR2, hM2, rfl, rfl⟩), by show va_P G.1 vwCl _ tT.heap; rw [ht]; exact hP⟩, hS.F ht⟩) hS.2.2 dX1_admit_98
            · have hlt := shA_lt h79_0
              have hz5 : enT sg aX_1 pY sY (10 + 76 * sg 0) ≤ 5 := hM2.2.1 _ hM.1.1
              refine lv_istore (lv' := [(4, .int (nI tX_79)), (0, .ref a0), (1, .int (nI aX_1)), (2, .int (nI pY)), (3, .int (nI sY))]) hx hb dX1_admit_82 hl (by decide) rfl (fun ls hl => ?_)
              refine lv_iload hx hb dX1_admit_84 (lv_at hl 0 rfl) ?_
              refine lv_bipush (v := (-5)) hx hb dX1_admit_86 (by decide) ?_
              refine lv_icmp_ne (tgt := 96) hx hb dX1_admit_88 (by decide) (fun _ => ?_) (fun q => absurd q (enc_ne (by omega)))
              refine lv_iload hx hb dX1_admit_96 (lv_at hl 0 rfl) ?_
              exact W.iret (v := nI tX_79) hx hb hr (fun tT ht hW => ⟨⟨_, (enT sg aX_1 pY sY, sz, sc), rfl, Or.inr (Or.inr ⟨aX_1, pY, sY, tX_79, _, _, h1_0, h1_1, hp1, hp2, hs1, hs2, rfl, rfl, rfl, h79_0, hR2, hM2, rfl, rfl⟩), by show va_P G.1 vwCl _ tT.heap; rw [ht]; exact hP⟩, hS.F ht⟩) hS.2.2 dX1_admit_98
          · refine lv_bipush (v := (-2)) hx hb dX1_admit_32 (by decide) ?_
            exact W.iret (v := (-2)) hx hb hr (fun tT ht hW => ⟨⟨_, (sg, sz, sc), rfl, Or.inl ⟨fun ⟨a, b, c, q1, q2, q3, q4, q5, q6, q7, q8, q9⟩ => in_no3 (by decide) (by decide) c29 ⟨c, q5, q6, q9⟩, rfl, rfl⟩, by show va_P G.1 vwCl _ tT.heap; rw [ht]; exact hP⟩, hS.F ht⟩) hS.2.2 dX1_admit_34
  · refine lv_if_eq (tgt := 32) hx hb dX1_admit_4 (by decide) (fun _ => ?_) (fun q => absurd (by decide) q)
    refine lv_bipush (v := (-2)) hx hb dX1_admit_32 (by decide) ?_
    exact W.iret (v := (-2)) hx hb hr (fun tT ht hW => ⟨⟨_, (sg, sz, sc), rfl, Or.inl ⟨fun ⟨a, b, c, q1, q2, q3, q4, q5, q6, q7, q8, q9⟩ => h1_0 ⟨a, q1, q2, q7⟩, rfl, rfl⟩, by show va_P G.1 vwCl _ tT.heap; rw [ht]; exact hP⟩, hS.F ht⟩) hS.2.2 dX1_admit_34
set_option maxRecDepth 100000 in
theorem mwc_shownRow_t_0 : Cond.fieldLink RX1 40 "ExhibitTexts$State" "hasVisitor" "Z" ∈ wsX1_shownRow := by decide +kernel
set_option maxRecDepth 100000 in
theorem mic_shownRow_t_1 : ∀ w ∈ u_ws RX1 TX1 12, w ∈ wsX1_shownRow := by decide +kernel
set_option maxRecDepth 100000 in
theorem mwc_shownRow_t_2 : Cond.fieldLink RX1 28 "ExhibitTexts$State" "standsAt" "I" ∈ wsX1_shownRow := by decide +kernel
set_option maxRecDepth 100000 in
theorem mwc_shownRow_t_3 : Cond.fieldLink RX1 44 "ExhibitTexts$State" "age" "I" ∈ wsX1_shownRow := by decide +kernel
set_option maxHeartbeats 4000000 in
set_option maxRecDepth 100000 in
/-- X1_shownRow: the row that the visitor is shown, of a text that is told -/
theorem c_shownRow_t (l : Launch) (G : zG) (a0 : Nat) (a1 : Nat) (a2 : Nat) (sz : Nat → Nat) (sc : Nat → Nat) (sg : Nat → Nat) (t : Nat) (hM : mOK sg) (hR : sRel sz sc sg) (hs : sN sg = some t) : Met l yX1_shownRow wsX1_shownRow ({ frames := 2, cells := 0, slots := 0, locals := 50 } : Room) (zPc G [.ref a0] [(a0, .inr (1, [.ref a1, .ref a2, .int (nI (sg 0)), .int (nI (sg 1)), .int (nI (sg 7)), .int (nI (sg 8)), .int (nI (sg 9)), .int (nI (sg 2)), .int (nI (sg 3)), .int (nI (sg 4)), .int (nI (sg 5)), .int (nI (sg 6))])), (a1, .inl (G.2.1, 8, .inl (arN sz))), (a2, .inl (G.2.1, 640, .inl (arN sc)))]) (vp_Si (fun (rR : Int32) => rR = nI ((sg 0 * 5 + t) * 16))) 0 0 (fun _ => False) := by
  refine zR (cc := cX1_shownRow) (maxL := 2) (ret := (some .int)) (by decide) rfl (Nat.le_of_ble_eq_true rfl) ?_
  intro pP eE sS mM below meth cC hx hb hr hts hown hlk hml hK hN hP hD ls hl
  have hl : lv_has ls 2 [(0, .ref a0)] := hl
  have h00 := hM.1.1
  have hv := hM.1.2.2.1
  have hz5 := hM.2.1 _ h00
  have hsn := sN_some hM hs
  have hTX := hM.2.2 _ t h00 hsn.2
  have hw3 := hTX.1.2
  have hp3 := hM.1.2.2.2.1 hsn.1
  have hf3 := hTX.2.2.2.1
  have h6 := hM.1.2.2.2.2.2
  have hsl := secs_le hw3 hp3.2.1
  have hq5 := hM.1.2.2.2.2.1
  have hsh : shT sg (sg 0) (sg 3) = some t := (if_neg (show ¬ sg 2 = 0 from by omega)).symm.trans hs
  refine lv_aload_n hx hb dX1_shownRow_0 rfl (lv_at hl 0 rfl) ?_
  refine va_get (D := G.1) (ci := 1) (v := .int (nI (sg 2))) (C := RX1) (T := TX1) (N := 12) hx hb hts mic_shownRow_t_1 hown hK hP 0 rfl rfl 7 (by decide) (hts _ mwc_shownRow_t_0) (fun _ h9 => h9) rfl dX1_shownRow_1 ?_
  refine zk_zne (tgt := 10) hx hb dX1_shownRow_4 (by decide) (by omega) (fun c4 => ?_) (fun c4 => ?_)
  · refine lv_aload_n hx hb dX1_shownRow_10 rfl (lv_at hl 0 rfl) ?_
    refine lv_aload_n hx hb dX1_shownRow_11 rfl (lv_at hl 0 rfl) ?_
    refine va_get (D := G.1) (ci := 1) (v := .int (nI (sg 0))) (C := RX1) (T := TX1) (N := 12) hx hb hts mic_shownRow_t_1 hown hK hP 0 rfl rfl 2 (by decide) (hts _ mwc_shownRow_t_2) (fun _ h9 => h9) rfl dX1_shownRow_12 ?_
    refine lv_aload_n hx hb dX1_shownRow_15 rfl (lv_at hl 0 rfl) ?_
    refine va_get (D := G.1) (ci := 1) (v := .int (nI (sg 3))) (C := RX1) (T := TX1) (N := 12) hx hb hts mic_shownRow_t_1 hown hK hP 0 rfl rfl 8 (by decide) (hts _ mwc_shownRow_t_3) (fun _ h9 => h9) rfl dX1_shownRow_16 ?_
    refine zc_R (As := [.int (nI (sg 0)), .int (nI (sg 3))]) (rest := []) ⟨hx, hb, hml, hown, hts⟩ (c_textFor l G a0 a1 a2 sz sc sg (sg 0) (sg 3) (by omega) (by omega) h00 (by have := (hM.1.2.2.2.1 (by omega)).1; omega)) (cwV 2 hts gX1_shownRow_X1_textFor rfl rfl rfl (by decide +kernel) ⟨Nat.le_of_ble_eq_true rfl, Nat.le_of_ble_eq_true rfl⟩) hK hN hP hD [0, 1, 2] rfl (by decide) (ci := 1) rfl rfl rfl hl.1 rfl (Nat.le_of_ble_eq_true rfl) dX1_shownRow_19 ⟨Nat.zero_le _, Nat.zero_le _⟩ (fun r19 h19 => ?_)
    rcases h19 with ⟨h19_0, rfl⟩ | ⟨tX_19, h19_0, rfl⟩
    · rw [h19_0] at hsh; cases hsh
    · refine zk_top (y := nI t) (congrArg nI (Option.some.inj (h19_0.symm.trans hsh))) ?_
      refine lv_istore_n (lv' := [(1, .int (nI t)), (0, .ref a0)]) hx hb dX1_shownRow_22 rfl hl (by decide) rfl (fun ls hl => ?_)
      refine lv_iload_n hx hb dX1_shownRow_23 rfl (lv_at hl 0 rfl) ?_
      refine lv_bipush (v := (-5)) hx hb dX1_shownRow_24 (by decide) ?_
      refine lv_icmp_ne (tgt := 34) hx hb dX1_shownRow_26 (by decide) (fun _ => ?_) (fun q => absurd q (enc_ne (by omega)))
      refine lv_aload_n hx hb dX1_shownRow_34 rfl (lv_at hl 1 rfl) ?_
      refine lv_aload_n hx hb dX1_shownRow_35 rfl (lv_at hl 1 rfl) ?_
      refine va_get (D := G.1) (ci := 1) (v := .int (nI (sg 0))) (C := RX1) (T := TX1) (N := 12) hx hb hts mic_shownRow_t_1 hown hK hP 0 rfl rfl 2 (by decide) (hts _ mwc_shownRow_t_2) (fun _ h9 => h9) rfl dX1_shownRow_36 ?_
      refine lv_iload_n hx hb dX1_shownRow_39 rfl (lv_at hl 0 rfl) ?_
      refine zc_R (As := [.int (nI (sg 0)), .int (nI t)]) (rest := []) ⟨hx, hb, hml, hown, hts⟩ (c_rowOf_n l G a0 a1 a2 sz sc sg (sg 0) t (by omega) (by omega) h00 hsn.2) (cwV 2 hts gX1_shownRow_X1_rowOf rfl rfl rfl (by decide +kernel) ⟨Nat.le_of_ble_eq_true rfl, Nat.le_of_ble_eq_true rfl⟩) hK hN hP hD [0, 1, 2] rfl (by decide) (ci := 1) rfl rfl rfl hl.1 rfl (Nat.le_of_ble_eq_true rfl) dX1_shownRow_40 ⟨Nat.zero_le _, Nat.zero_le _⟩ (fun r40 h40 => ?_)
      subst h40
      exact W.iret (v := nI (((sg 0) * 5 + t) * 16)) hx hb hr (fun tT ht hW => ⟨_, rfl, rfl, ht⟩) (fun _ h => absurd h List.not_mem_nil) dX1_shownRow_43
  · omega
set_option maxRecDepth 100000 in
theorem mwc_readShown_t_0 : Cond.fieldLink RX1 15 "ExhibitTexts$State" "cells" "[I" ∈ wsX1_readShown := by decide +kernel
set_option maxRecDepth 100000 in
theorem mic_readShown_t_1 : ∀ w ∈ u_ws RX1 TX1 12, w ∈ wsX1_readShown := by decide +kernel
set_option maxRecDepth 100000 in
theorem mwc_readShown_t_2 : Cond.fieldLink RX1 50 "ExhibitTexts$State" "seconds" "I" ∈ wsX1_readShown := by decide +kernel
set_option maxRecDepth 100000 in
theorem mwc_readShown_t_3 : Cond.fieldLink RX1 53 "ExhibitTexts$State" "learned" "I" ∈ wsX1_readShown := by decide +kernel
set_option maxRecDepth 100000 in
theorem mwc_readShown_t_4 : Cond.fieldLink RX1 34 "ExhibitTexts$State" "textsRead" "I" ∈ wsX1_readShown := by decide +kernel
set_option maxHeartbeats 4000000 in
set_option maxRecDepth 100000 in
/-- X1_readShown: the text that is shown is read, if it can be -/
theorem c_readShown_t (l : Launch) (G : zG) (a0 : Nat) (a1 : Nat) (a2 : Nat) (sz : Nat → Nat) (sc : Nat → Nat) (sg : Nat → Nat) (t : Nat) (hM : mOK sg) (hR : sRel sz sc sg) (hs : sN sg = some t) : Met l yX1_readShown wsX1_readShown ({ frames := 3, cells := 0, slots := 0, locals := 71 } : Room) (zPc G [.ref a0] [(a0, .inr (1, [.ref a1, .ref a2, .int (nI (sg 0)), .int (nI (sg 1)), .int (nI (sg 7)), .int (nI (sg 8)), .int (nI (sg 9)), .int (nI (sg 2)), .int (nI (sg 3)), .int (nI (sg 4)), .int (nI (sg 5)), .int (nI (sg 6))])), (a1, .inl (G.2.1, 8, .inl (arN sz))), (a2, .inl (G.2.1, 640, .inl (arN sc)))]) (va_Qi (fun (rR : Int32) (uU : (Nat → Nat) × (Nat → Nat) × (Nat → Nat)) => (¬ canR sg t ∧ rR = nI 0 ∧ uU = (sg, sz, sc)) ∨ (∃ (zZ : Nat → Nat) (cC : Nat → Nat), canR sg t ∧ sRel zZ cC (rdT sg t) ∧ mOK (rdT sg t) ∧ rR = nI 1 ∧ uU = (rdT sg t, zZ, cC))) (fun uU tT => va_P G.1 vwCl ((fun (uU : (Nat → Nat) × (Nat → Nat) × (Nat → Nat)) => ([(a0, .inr (1, [.ref a1, .ref a2, .int (nI (uU.1 0)), .int (nI (uU.1 1)), .int (nI (uU.1 7)), .int (nI (uU.1 8)), .int (nI (uU.1 9)), .int (nI (uU.1 2)), .int (nI (uU.1 3)), .int (nI (uU.1 4)), .int (nI (uU.1 5)), .int (nI (uU.1 6))])), (a1, .inl (G.2.1, 8, .inl (arN uU.2.1))), (a2, .inl (G.2.1, 640, .inl (arN uU.2.2)))] : va_W)) uU) tT.heap) (zIn [(a0, .inr (1, [.ref a1, .ref a2, .int (nI (sg 0)), .int (nI (sg 1)), .int (nI (sg 7)), .int (nI (sg 8)), .int (nI (sg 9)), .int (nI (sg 2)), .int (nI (sg 3)), .int (nI (sg 4)), .int (nI (sg 5)), .int (nI (sg 6))])), (a1, .inl (G.2.1, 8, .inl (arN sz))), (a2, .inl (G.2.1, 640, .inl (arN sc)))])) 0 0 (zIn [(a0, .inr (1, [.ref a1, .ref a2, .int (nI (sg 0)), .int (nI (sg 1)), .int (nI (sg 7)), .int (nI (sg 8)), .int (nI (sg 9)), .int (nI (sg 2)), .int (nI (sg 3)), .int (nI (sg 4)), .int (nI (sg 5)), .int (nI (sg 6))])), (a1, .inl (G.2.1, 8, .inl (arN sz))), (a2, .inl (G.2.1, 640, .inl (arN sc)))]) := by
  refine zM (cc := cX1_readShown) (maxL := 3) (ret := (some .boolean)) (by decide) rfl (Nat.le_of_ble_eq_true rfl) ?_
  intro pP eE sS mM below meth cC hx hb hr hts hown hlk hml hnm hK hN hP hD hS ls hl
  have hl : lv_has ls 3 [(0, .ref a0)] := hl
  have h00 := hM.1.1
  have hv := hM.1.2.2.1
  have hz5 := hM.2.1 _ h00
  have hsn := sN_some hM hs
  have hTX := hM.2.2 _ t h00 hsn.2
  have hw3 := hTX.1.2
  have hp3 := hM.1.2.2.2.1 hsn.1
  have hf3 := hTX.2.2.2.1
  have h6 := hM.1.2.2.2.2.2
  have hsl := secs_le hw3 hp3.2.1
  have hq5 := hM.1.2.2.2.2.1
  refine lv_aload_n hx hb dX1_readShown_0 rfl (lv_at hl 0 rfl) ?_
  refine zc_R (As := []) (rest := []) ⟨hx, hb, hml, hown, hts⟩ (c_shownRow_t l G a0 a1 a2 sz sc sg t (by omega) (by omega) (by omega)) (cwV 0 hts gX1_readShown_X1_shownRow rfl rfl rfl (by decide +kernel) ⟨Nat.le_of_ble_eq_true rfl, Nat.le_of_ble_eq_true rfl⟩) hK hN hP hD [0, 1, 2] rfl (by decide) (ci := 1) rfl rfl rfl hl.1 rfl (Nat.le_of_ble_eq_true rfl) dX1_readShown_1 ⟨Nat.zero_le _, Nat.zero_le _⟩ (fun r1 h1 => ?_)
  subst h1
  refine lv_istore_n (lv' := [(1, .int (nI ((sg 0 * 5 + t) * 16))), (0, .ref a0)]) hx hb dX1_readShown_4 rfl hl (by decide) rfl (fun ls hl => ?_)
  refine lv_iload_n hx hb dX1_readShown_5 rfl (lv_at hl 0 rfl) ?_
  refine zk_zge (tgt := 11) hx hb dX1_readShown_6 (by decide) (by omega) ?_
  refine lv_aload_n hx hb dX1_readShown_11 rfl (lv_at hl 1 rfl) ?_
  refine lv_aload_n hx hb dX1_readShown_12 rfl (lv_at hl 1 rfl) ?_
  refine va_get (D := G.1) (ci := 1) (v := .ref a2) (C := RX1) (T := TX1) (N := 12) hx hb hts mic_readShown_t_1 hown hK hP 0 rfl rfl 1 (by decide) (hts _ mwc_readShown_t_0) (fun _ h9 => h9) rfl dX1_readShown_13 ?_
  refine lv_iload_n hx hb dX1_readShown_16 rfl (lv_at hl 0 rfl) ?_
  refine lv_iconst (v := nI 0) hx hb dX1_readShown_17 (by decide) ?_
  refine zk_add hx hb dX1_readShown_18 ?_
  refine zk_ald (f := sc) (k := ((sg 0 * 5 + t) * 16) + 0) hx hb hK hP 2 0 rfl rfl (Nat.le_of_ble_eq_true rfl) (by omega) dX1_readShown_19 ?_
  refine zk_top (y := nI (sg (11 + 76 * sg 0 + 15 * t + 0))) (congrArg nI (hR.2 (sg 0) t h00 hsn.2).1) ?_
  refine zc_R (As := [.int (nI (sg (11 + 76 * sg 0 + 15 * t + 0)))]) (rest := []) ⟨hx, hb, hml, hown, hts⟩ (c_timeFor l G a0 a1 a2 sz sc sg (sg (11 + 76 * sg 0 + 15 * t + 0)) (by omega) (by omega) hsn.1 hw3) (cwV 1 hts gX1_readShown_X1_timeFor rfl rfl rfl (by decide +kernel) ⟨Nat.le_of_ble_eq_true rfl, Nat.le_of_ble_eq_true rfl⟩) hK hN hP hD [0, 1, 2] rfl (by decide) (ci := 1) rfl rfl rfl hl.1 rfl (Nat.le_of_ble_eq_true rfl) dX1_readShown_20 ⟨Nat.zero_le _, Nat.zero_le _⟩ (fun r20 h20 => ?_)
  subst h20
  refine lv_istore_n (lv' := [(2, .int (nI (secs (sg (11 + 76 * sg 0 + 15 * t + 0)) (sg 4)))), (1, .int (nI ((sg 0 * 5 + t) * 16))), (0, .ref a0)]) hx hb dX1_readShown_23 rfl hl (by decide) rfl (fun ls hl => ?_)
  refine lv_iload_n hx hb dX1_readShown_24 rfl (lv_at hl 0 rfl) ?_
  refine lv_aload_n hx hb dX1_readShown_25 rfl (lv_at hl 2 rfl) ?_
  refine va_get (D := G.1) (ci := 1) (v := .int (nI (sg 5))) (C := RX1) (T := TX1) (N := 12) hx hb hts mic_readShown_t_1 hown hK hP 0 rfl rfl 10 (by decide) (hts _ mwc_readShown_t_2) (fun _ h9 => h9) rfl dX1_readShown_26 ?_
  refine zk_igt (tgt := 50) hx hb dX1_readShown_29 (by decide) (by omega) (by omega) (fun c29 => ?_) (fun c29 => ?_)
  · refine lv_iconst (v := nI 0) hx hb dX1_readShown_50 (by decide) ?_
    exact W.zret (ty := .boolean) (v := nI 0) hx hb hr (rfl) (fun tT ht hW => ⟨⟨_, (sg, sz, sc), rfl, Or.inl ⟨fun q => absurd q.2 (by omega), rfl, rfl⟩, by show va_P G.1 vwCl _ tT.heap; rw [ht]; exact hP⟩, hS.F ht⟩) hS.2.2 dX1_readShown_51
  · refine lv_aload_n hx hb dX1_readShown_32 rfl (lv_at hl 2 rfl) ?_
    refine va_get (D := G.1) (ci := 1) (v := .ref a2) (C := RX1) (T := TX1) (N := 12) hx hb hts mic_readShown_t_1 hown hK hP 0 rfl rfl 1 (by decide) (hts _ mwc_readShown_t_0) (fun _ h9 => h9) rfl dX1_readShown_33 ?_
    refine lv_iload_n hx hb dX1_readShown_36 rfl (lv_at hl 1 rfl) ?_
    refine lv_iconst (v := nI 3) hx hb dX1_readShown_37 (by decide) ?_
    refine zk_add hx hb dX1_readShown_38 ?_
    refine zk_ald (f := sc) (k := ((sg 0 * 5 + t) * 16) + 3) hx hb hK hP 2 0 rfl rfl (Nat.le_of_ble_eq_true rfl) (by omega) dX1_readShown_39 ?_
    refine zk_top (y := nI (sg (11 + 76 * sg 0 + 15 * t + 3))) (congrArg nI (hR.2 (sg 0) t h00 hsn.2).2.2.2.1) ?_
    refine lv_aload_n hx hb dX1_readShown_40 rfl (lv_at hl 2 rfl) ?_
    refine va_get (D := G.1) (ci := 1) (v := .int (nI (sg 6))) (C := RX1) (T := TX1) (N := 12) hx hb hts mic_readShown_t_1 hown hK hP 0 rfl rfl 11 (by decide) (hts _ mwc_readShown_t_3) (fun _ h9 => h9) rfl dX1_readShown_41 ?_
    refine lv_iconst (v := (-1)) hx hb dX1_readShown_44 (by decide) ?_
    refine lv_ixor hx hb dX1_readShown_45 ?_
    refine lv_iand hx hb dX1_readShown_46 ?_
    refine lv_if_ne (tgt := 52) hx hb dX1_readShown_47 (by decide) (fun c47 => ?_) (fun c47 => ?_)
    · refine lv_aload_n hx hb dX1_readShown_52 rfl (lv_at hl 2 rfl) ?_
      refine lv_dup hx hb dX1_readShown_53 rfl ?_
      refine va_get (D := G.1) (ci := 1) (v := .int (nI (sg 5))) (C := RX1) (T := TX1) (N := 12) hx hb hts mic_readShown_t_1 hown hK hP 0 rfl rfl 10 (by decide) (hts _ mwc_readShown_t_2) (fun _ h9 => h9) rfl dX1_readShown_54 ?_
      refine lv_iload_n hx hb dX1_readShown_57 rfl (lv_at hl 0 rfl) ?_
      refine zk_sub hx hb dX1_readShown_58 (by omega) ?_
      refine zk_put (D := G.1) (ci := 1) (v := .int (nI ((sg 5) - (secs (sg (11 + 76 * sg 0 + 15 * t + 0)) (sg 4))))) (ty := .int) (C := RX1) (T := TX1) (N := 12) (ws2 := [(a0, .inr (1, [.ref a1, .ref a2, .int (nI (sg 0)), .int (nI (sg 1)), .int (nI (sg 7)), .int (nI (sg 8)), .int (nI (sg 9)), .int (nI (sg 2)), .int (nI (sg 3)), .int (nI (sg 4)), .int (nI ((sg 5) - (secs (sg (11 + 76 * sg 0 + 15 * t + 0)) (sg 4)))), .int (nI (sg 6))])), (a1, .inl (G.2.1, 8, .inl (arN sz))), (a2, .inl (G.2.1, 640, .inl (arN sc)))]) hx hb hts mic_readShown_t_1 tyX1 tyX1_ok nmX1 hown hK hP hD hS 0 rfl rfl 10 (by decide) (hts _ mwc_readShown_t_2) (fun _ h9 => h9) rfl (by decide +kernel) rfl rfl (Nat.le_of_ble_eq_true rfl) rfl dX1_readShown_59 (fun H locs hP hD hS => ?_)
      refine lv_aload_n hx hb dX1_readShown_62 rfl (lv_at hl 2 rfl) ?_
      refine lv_dup hx hb dX1_readShown_63 rfl ?_
      refine va_get (D := G.1) (ci := 1) (v := .int (nI (sg 6))) (C := RX1) (T := TX1) (N := 12) hx hb hts mic_readShown_t_1 hown hK hP 0 rfl rfl 11 (by decide) (hts _ mwc_readShown_t_3) (fun _ h9 => h9) rfl dX1_readShown_64 ?_
      refine lv_aload_n hx hb dX1_readShown_67 rfl (lv_at hl 2 rfl) ?_
      refine va_get (D := G.1) (ci := 1) (v := .ref a2) (C := RX1) (T := TX1) (N := 12) hx hb hts mic_readShown_t_1 hown hK hP 0 rfl rfl 1 (by decide) (hts _ mwc_readShown_t_0) (fun _ h9 => h9) rfl dX1_readShown_68 ?_
      refine lv_iload_n hx hb dX1_readShown_71 rfl (lv_at hl 1 rfl) ?_
      refine lv_iconst (v := nI 3) hx hb dX1_readShown_72 (by decide) ?_
      refine zk_add hx hb dX1_readShown_73 ?_
      refine zk_ald (f := sc) (k := ((sg 0 * 5 + t) * 16) + 3) hx hb hK hP 2 0 rfl rfl (Nat.le_of_ble_eq_true rfl) (by omega) dX1_readShown_74 ?_
      refine zk_top (y := nI (sg (11 + 76 * sg 0 + 15 * t + 3))) (congrArg nI (hR.2 (sg 0) t h00 hsn.2).2.2.2.1) ?_
      refine zk_or hx hb dX1_readShown_75 ?_
      refine zk_put (D := G.1) (ci := 1) (v := .int (nI ((sg 6) ||| (sg (11 + 76 * sg 0 + 15 * t + 3))))) (ty := .int) (C := RX1) (T := TX1) (N := 12) (ws2 := [(a0, .inr (1, [.ref a1, .ref a2, .int (nI (sg 0)), .int (nI (sg 1)), .int (nI (sg 7)), .int (nI (sg 8)), .int (nI (sg 9)), .int (nI (sg 2)), .int (nI (sg 3)), .int (nI (sg 4)), .int (nI ((sg 5) - (secs (sg (11 + 76 * sg 0 + 15 * t + 0)) (sg 4)))), .int (nI ((sg 6) ||| (sg (11 + 76 * sg 0 + 15 * t + 3))))])), (a1, .inl (G.2.1, 8, .inl (arN sz))), (a2, .inl (G.2.1, 640, .inl (arN sc)))]) hx hb hts mic_readShown_t_1 tyX1 tyX1_ok nmX1 hown hK hP hD hS 0 rfl rfl 11 (by decide) (hts _ mwc_readShown_t_3) (fun _ h9 => h9) rfl (by decide +kernel) rfl rfl (Nat.le_of_ble_eq_true rfl) rfl dX1_readShown_76 (fun H locs hP hD hS => ?_)
      refine lv_aload_n hx hb dX1_readShown_79 rfl (lv_at hl 2 rfl) ?_
      refine va_get (D := G.1) (ci := 1) (v := .ref a2) (C := RX1) (T := TX1) (N := 12) hx hb hts mic_readShown_t_1 hown hK hP 0 rfl rfl 1 (by decide) (hts _ mwc_readShown_t_0) (fun _ h9 => h9) rfl dX1_readShown_80 ?_
      refine lv_iload_n hx hb dX1_readShown_83 rfl (lv_at hl 1 rfl) ?_
      refine lv_bipush (v := nI 6) hx hb dX1_readShown_84 (by decide) ?_
      refine zk_add hx hb dX1_readShown_86 ?_
      refine lv_dup2_11 hx hb dX1_readShown_87 rfl rfl ?_
      refine zk_ald (f := sc) (k := ((sg 0 * 5 + t) * 16) + 6) hx hb hK hP 2 0 rfl rfl (Nat.le_of_ble_eq_true rfl) (by omega) dX1_readShown_88 ?_
      refine zk_top (y := nI (sg (11 + 76 * sg 0 + 15 * t + 4))) (congrArg nI (hR.2 (sg 0) t h00 hsn.2).2.2.2.2.2.2.1) ?_
      refine lv_iconst (v := nI 1) hx hb dX1_readShown_89 (by decide) ?_
      refine zk_add hx hb dX1_readShown_90 ?_
      refine zk_ast (f := sc) (k := ((sg 0 * 5 + t) * 16) + 6) (v := (sg (11 + 76 * sg 0 + 15 * t + 4)) + 1) (ws2 := [(a0, .inr (1, [.ref a1, .ref a2, .int (nI (sg 0)), .int (nI (sg 1)), .int (nI (sg 7)), .int (nI (sg 8)), .int (nI (sg 9)), .int (nI (sg 2)), .int (nI (sg 3)), .int (nI (sg 4)), .int (nI ((sg 5) - (secs (sg (11 + 76 * sg 0 + 15 * t + 0)) (sg 4)))), .int (nI ((sg 6) ||| (sg (11 + 76 * sg 0 + 15 * t + 3))))])), (a1, .inl (G.2.1, 8, .inl (arN sz))), (a2, .inl (G.2.1, 640, .inl (arN (arU sc (((sg 0 * 5 + t) * 16) + 6) ((sg (11 + 76 * sg 0 + 15 * t + 4)) + 1)))))]) hx hb hK hP hD hS 2 0 rfl rfl (Nat.le_of_ble_eq_true rfl) (by omega) rfl dX1_readShown_91 (fun H locs hP hD hS => ?_)
      refine lv_aload_n hx hb dX1_readShown_92 rfl (lv_at hl 2 rfl) ?_
      refine lv_dup hx hb dX1_readShown_93 rfl ?_
      refine va_get (D := G.1) (ci := 1) (v := .int (nI (sg 8))) (C := RX1) (T := TX1) (N := 12) hx hb hts mic_readShown_t_1 hown hK hP 0 rfl rfl 5 (by decide) (hts _ mwc_readShown_t_4) (fun _ h9 => h9) rfl dX1_readShown_94 ?_
      refine lv_iconst (v := nI 1) hx hb dX1_readShown_97 (by decide) ?_
      refine zk_add hx hb dX1_readShown_98 ?_
      refine zk_put (D := G.1) (ci := 1) (v := .int (nI ((sg 8) + 1))) (ty := .int) (C := RX1) (T := TX1) (N := 12) (ws2 := [(a0, .inr (1, [.ref a1, .ref a2, .int (nI (sg 0)), .int (nI (sg 1)), .int (nI (sg 7)), .int (nI ((sg 8) + 1)), .int (nI (sg 9)), .int (nI (sg 2)), .int (nI (sg 3)), .int (nI (sg 4)), .int (nI ((sg 5) - (secs (sg (11 + 76 * sg 0 + 15 * t + 0)) (sg 4)))), .int (nI ((sg 6) ||| (sg (11 + 76 * sg 0 + 15 * t + 3))))])), (a1, .inl (G.2.1, 8, .inl (arN sz))), (a2, .inl (G.2.1, 640, .inl (arN (arU sc (((sg 0 * 5 + t) * 16) + 6) ((sg (11 + 76 * sg 0 + 15 * t + 4)) + 1)))))]) hx hb hts mic_readShown_t_1 tyX1 tyX1_ok nmX1 hown hK hP hD hS 0 rfl rfl 5 (by decide) (hts _ mwc_readShown_t_4) (fun _ h9 => h9) rfl (by decide +kernel) rfl rfl (Nat.le_of_ble_eq_true rfl) rfl dX1_readShown_99 (fun H locs hP hD hS => ?_)
      refine lv_iconst (v := nI 1) hx hb dX1_readShown_102 (by decide) ?_
      obtain ⟨qf0, qf1, qf7, qf8, qf9, qf2, qf3, qf4, qf5, qf6⟩ := rdT_f (sg := sg) (t := t)
      have hP : va_P G.1 vwCl [(a0, .inr (1, [.ref a1, .ref a2, .int (nI (rdT sg t 0)), .int (nI (rdT sg t 1)), .int (nI (rdT sg t 7)), .int (nI (rdT sg t 8)), .int (nI (rdT sg t 9)), .int (nI (rdT sg t 2)), .int (nI (rdT sg t 3)), .int (nI (rdT sg t 4)), .int (nI (rdT sg t 5)), .int (nI (rdT sg t 6))])), (a1, .inl (G.2.1, 8, .inl (arN sz))), (a2, .inl (G.2.1, 640, .inl (arN (arU sc (((sg 0 * 5 + t) * 16) + 6) ((sg (11 + 76 * sg 0 + 15 * t + 4)) + 1)))))] H := by rw [qf0, qf1, qf7, qf8, qf9, qf2, qf3, qf4, qf5, qf6]; exact hP
      have hD : va_D (zIn [(a0, .inr (1, [.ref a1, .ref a2, .int (nI (sg 0)), .int (nI (sg 1)), .int (nI (sg 7)), .int (nI (sg 8)), .int (nI (sg 9)), .int (nI (sg 2)), .int (nI (sg 3)), .int (nI (sg 4)), .int (nI (sg 5)), .int (nI (sg 6))])), (a1, .inl (G.2.1, 8, .inl (arN sz))), (a2, .inl (G.2.1, 640, .inl (arN sc)))]) [(a0, .inr (1, [.ref a1, .ref a2, .int (nI (rdT sg t 0)), .int (nI (rdT sg t 1)), .int (nI (rdT sg t 7)), .int (nI (rdT sg t 8)), .int (nI (rdT sg t 9)), .int (nI (rdT sg t 2)), .int (nI (rdT sg t 3)), .int (nI (rdT sg t 4)), .int (nI (rdT sg t 5)), .int (nI (rdT sg t 6))])), (a1, .inl (G.2.1, 8, .inl (arN sz))), (a2, .inl (G.2.1, 640, .inl (arN (arU sc (((sg 0 * 5 + t) * 16) + 6) ((sg (11 + 76 * sg 0 + 15 * t + 4)) + 1)))))] := by rw [qf0, qf1, qf7, qf8, qf9, qf2, qf3, qf4, qf5, qf6]; exact hD
      exact W.zret (ty := .boolean) (v := nI 1) hx hb hr (rfl) (fun tT ht hW => ⟨⟨_, (rdT sg t, sz, arU sc ((sg 0 * 5 + t) * 16 + 6) (sg (11 + 76 * sg 0 + 15 * t + 4) + 1)), rfl, Or.inr ⟨_, _, ⟨c47, by omega⟩, rel_rdT hM hR hsn.2, mOK_rdT hM hsn.2, rfl, rfl⟩, by show va_P G.1 vwCl _ tT.heap; rw [ht]; exact hP⟩, hS.F ht⟩) hS.2.2 dX1_readShown_103
    · refine lv_iconst (v := nI 0) hx hb dX1_readShown_50 (by decide) ?_
      exact W.zret (ty := .boolean) (v := nI 0) hx hb hr (rfl) (fun tT ht hW => ⟨⟨_, (sg, sz, sc), rfl, Or.inl ⟨fun q => q.1 c47, rfl, rfl⟩, by show va_P G.1 vwCl _ tT.heap; rw [ht]; exact hP⟩, hS.F ht⟩) hS.2.2 dX1_readShown_51
set_option maxRecDepth 100000 in
theorem mwc_readShown_0 : Cond.fieldLink RX1 15 "ExhibitTexts$State" "cells" "[I" ∈ wsX1_readShown := by decide +kernel
set_option maxRecDepth 100000 in
theorem mic_readShown_1 : ∀ w ∈ u_ws RX1 TX1 12, w ∈ wsX1_readShown := by decide +kernel
set_option maxRecDepth 100000 in
theorem mwc_readShown_2 : Cond.fieldLink RX1 50 "ExhibitTexts$State" "seconds" "I" ∈ wsX1_readShown := by decide +kernel
set_option maxRecDepth 100000 in
theorem mwc_readShown_3 : Cond.fieldLink RX1 53 "ExhibitTexts$State" "learned" "I" ∈ wsX1_readShown := by decide +kernel
set_option maxRecDepth 100000 in
theorem mwc_readShown_4 : Cond.fieldLink RX1 34 "ExhibitTexts$State" "textsRead" "I" ∈ wsX1_readShown := by decide +kernel
set_option maxHeartbeats 4000000 in
set_option maxRecDepth 100000 in
/-- X1_readShown: the text that is shown is read, if there is one and it can be -/
theorem c_readShown (l : Launch) (G : zG) (a0 : Nat) (a1 : Nat) (a2 : Nat) (sz : Nat → Nat) (sc : Nat → Nat) (sg : Nat → Nat) (hM : mOK sg) (hR : sRel sz sc sg) : Met l yX1_readShown wsX1_readShown ({ frames := 3, cells := 0, slots := 0, locals := 71 } : Room) (zPc G [.ref a0] [(a0, .inr (1, [.ref a1, .ref a2, .int (nI (sg 0)), .int (nI (sg 1)), .int (nI (sg 7)), .int (nI (sg 8)), .int (nI (sg 9)), .int (nI (sg 2)), .int (nI (sg 3)), .int (nI (sg 4)), .int (nI (sg 5)), .int (nI (sg 6))])), (a1, .inl (G.2.1, 8, .inl (arN sz))), (a2, .inl (G.2.1, 640, .inl (arN sc)))]) (va_Qi (fun (rR : Int32) (uU : (Nat → Nat) × (Nat → Nat) × (Nat → Nat)) => (sN sg = none ∧ rR = nI 0 ∧ uU = (sg, sz, sc)) ∨ (∃ (tX : Nat), sN sg = some tX ∧ ¬ canR sg tX ∧ rR = nI 0 ∧ uU = (sg, sz, sc)) ∨ (∃ (tX : Nat) (zZ : Nat → Nat) (cC : Nat → Nat), sN sg = some tX ∧ canR sg tX ∧ sRel zZ cC (rdT sg tX) ∧ mOK (rdT sg tX) ∧ rR = nI 1 ∧ uU = (rdT sg tX, zZ, cC))) (fun uU tT => va_P G.1 vwCl ((fun (uU : (Nat → Nat) × (Nat → Nat) × (Nat → Nat)) => ([(a0, .inr (1, [.ref a1, .ref a2, .int (nI (uU.1 0)), .int (nI (uU.1 1)), .int (nI (uU.1 7)), .int (nI (uU.1 8)), .int (nI (uU.1 9)), .int (nI (uU.1 2)), .int (nI (uU.1 3)), .int (nI (uU.1 4)), .int (nI (uU.1 5)), .int (nI (uU.1 6))])), (a1, .inl (G.2.1, 8, .inl (arN uU.2.1))), (a2, .inl (G.2.1, 640, .inl (arN uU.2.2)))] : va_W)) uU) tT.heap) (zIn [(a0, .inr (1, [.ref a1, .ref a2, .int (nI (sg 0)), .int (nI (sg 1)), .int (nI (sg 7)), .int (nI (sg 8)), .int (nI (sg 9)), .int (nI (sg 2)), .int (nI (sg 3)), .int (nI (sg 4)), .int (nI (sg 5)), .int (nI (sg 6))])), (a1, .inl (G.2.1, 8, .inl (arN sz))), (a2, .inl (G.2.1, 640, .inl (arN sc)))])) 0 0 (zIn [(a0, .inr (1, [.ref a1, .ref a2, .int (nI (sg 0)), .int (nI (sg 1)), .int (nI (sg 7)), .int (nI (sg 8)), .int (nI (sg 9)), .int (nI (sg 2)), .int (nI (sg 3)), .int (nI (sg 4)), .int (nI (sg 5)), .int (nI (sg 6))])), (a1, .inl (G.2.1, 8, .inl (arN sz))), (a2, .inl (G.2.1, 640, .inl (arN sc)))]) := by
  refine zM (cc := cX1_readShown) (maxL := 3) (ret := (some .boolean)) (by decide) rfl (Nat.le_of_ble_eq_true rfl) ?_
  intro pP eE sS mM below meth cC hx hb hr hts hown hlk hml hnm hK hN hP hD hS ls hl
  have hl : lv_has ls 3 [(0, .ref a0)] := hl
  refine lv_aload_n hx hb dX1_readShown_0 rfl (lv_at hl 0 rfl) ?_
  refine zc_R (As := []) (rest := []) ⟨hx, hb, hml, hown, hts⟩ (c_shownRow l G a0 a1 a2 sz sc sg (by omega) (by omega)) (cwV 0 hts gX1_readShown_X1_shownRow rfl rfl rfl (by decide +kernel) ⟨Nat.le_of_ble_eq_true rfl, Nat.le_of_ble_eq_true rfl⟩) hK hN hP hD [0, 1, 2] rfl (by decide) (ci := 1) rfl rfl rfl hl.1 rfl (Nat.le_of_ble_eq_true rfl) dX1_readShown_1 ⟨Nat.zero_le _, Nat.zero_le _⟩ (fun r1 h1 => ?_)
  rcases h1 with ⟨h1_0, rfl⟩ | ⟨tX_1, h1_0, rfl⟩
  · refine lv_istore_n (lv' := [(1, .int (-5)), (0, .ref a0)]) hx hb dX1_readShown_4 rfl hl (by decide) rfl (fun ls hl => ?_)
    refine lv_iload_n hx hb dX1_readShown_5 rfl (lv_at hl 0 rfl) ?_
    refine lv_if_ge (tgt := 11) hx hb dX1_readShown_6 (by decide) (fun q => absurd q (by decide)) (fun _ => ?_)
    refine lv_iconst (v := nI 0) hx hb dX1_readShown_9 (by decide) ?_
    exact W.zret (ty := .boolean) (v := nI 0) hx hb hr (rfl) (fun tT ht hW => ⟨⟨_, (sg, sz, sc), rfl, Or.inl ⟨h1_0, rfl, rfl⟩, by show va_P G.1 vwCl _ tT.heap; rw [ht]; exact hP⟩, hS.F ht⟩) hS.2.2 dX1_readShown_10
  · have h00 := hM.1.1
    have hz5 := hM.2.1 _ h00
    have hsn := sN_some hM h1_0
    have hTX := hM.2.2 _ tX_1 h00 hsn.2
    have hw3 := hTX.1.2
    have hp3 := hM.1.2.2.2.1 hsn.1
    have hf3 := hTX.2.2.2.1
    have h6 := hM.1.2.2.2.2.2
    have hq5 := hM.1.2.2.2.2.1
    have hc3 := hTX.2.2.2.2.1
    have hsl0 := secs_le hw3 hp3.2.1
    refine lv_istore_n (lv' := [(1, .int (nI ((sg 0 * 5 + tX_1) * 16))), (0, .ref a0)]) hx hb dX1_readShown_4 rfl hl (by decide) rfl (fun ls hl => ?_)
    refine lv_iload_n hx hb dX1_readShown_5 rfl (lv_at hl 0 rfl) ?_
    refine zk_zge (tgt := 11) hx hb dX1_readShown_6 (by decide) (by omega) ?_
    refine lv_aload_n hx hb dX1_readShown_11 rfl (lv_at hl 1 rfl) ?_
    refine lv_aload_n hx hb dX1_readShown_12 rfl (lv_at hl 1 rfl) ?_
    refine va_get (D := G.1) (ci := 1) (v := .ref a2) (C := RX1) (T := TX1) (N := 12) hx hb hts mic_readShown_1 hown hK hP 0 rfl rfl 1 (by decide) (hts _ mwc_readShown_0) (fun _ h9 => h9) rfl dX1_readShown_13 ?_
    refine lv_iload_n hx hb dX1_readShown_16 rfl (lv_at hl 0 rfl) ?_
    refine lv_iconst (v := nI 0) hx hb dX1_readShown_17 (by decide) ?_
    refine zk_add hx hb dX1_readShown_18 ?_
    refine zk_ald (f := sc) (k := ((sg 0 * 5 + tX_1) * 16) + 0) hx hb hK hP 2 0 rfl rfl (Nat.le_of_ble_eq_true rfl) (by omega) dX1_readShown_19 ?_
    refine zk_top (y := nI (sg (11 + 76 * sg 0 + 15 * tX_1 + 0))) (congrArg nI (hR.2 (sg 0) tX_1 h00 hsn.2).1) ?_
    refine zc_R (As := [.int (nI (sg (11 + 76 * sg 0 + 15 * tX_1 + 0)))]) (rest := []) ⟨hx, hb, hml, hown, hts⟩ (c_timeFor l G a0 a1 a2 sz sc sg (sg (11 + 76 * sg 0 + 15 * tX_1 + 0)) (by omega) (by omega) hsn.1 hw3) (cwV 1 hts gX1_readShown_X1_timeFor rfl rfl rfl (by decide +kernel) ⟨Nat.le_of_ble_eq_true rfl, Nat.le_of_ble_eq_true rfl⟩) hK hN hP hD [0, 1, 2] rfl (by decide) (ci := 1) rfl rfl rfl hl.1 rfl (Nat.le_of_ble_eq_true rfl) dX1_readShown_20 ⟨Nat.zero_le _, Nat.zero_le _⟩ (fun r20 h20 => ?_)
    subst h20
    refine lv_istore_n (lv' := [(2, .int (nI (secs (sg (11 + 76 * sg 0 + 15 * tX_1 + 0)) (sg 4)))), (1, .int (nI ((sg 0 * 5 + tX_1) * 16))), (0, .ref a0)]) hx hb dX1_readShown_23 rfl hl (by decide) rfl (fun ls hl => ?_)
    refine lv_iload_n hx hb dX1_readShown_24 rfl (lv_at hl 0 rfl) ?_
    refine lv_aload_n hx hb dX1_readShown_25 rfl (lv_at hl 2 rfl) ?_
    refine va_get (D := G.1) (ci := 1) (v := .int (nI (sg 5))) (C := RX1) (T := TX1) (N := 12) hx hb hts mic_readShown_1 hown hK hP 0 rfl rfl 10 (by decide) (hts _ mwc_readShown_2) (fun _ h9 => h9) rfl dX1_readShown_26 ?_
    refine zk_igt (tgt := 50) hx hb dX1_readShown_29 (by decide) (by omega) (by omega) (fun c29 => ?_) (fun c29 => ?_)
    · refine lv_iconst (v := nI 0) hx hb dX1_readShown_50 (by decide) ?_
      exact W.zret (ty := .boolean) (v := nI 0) hx hb hr (rfl) (fun tT ht hW => ⟨⟨_, (sg, sz, sc), rfl, Or.inr (Or.inl ⟨tX_1, h1_0, fun q => absurd q.2 (by omega), rfl, rfl⟩), by show va_P G.1 vwCl _ tT.heap; rw [ht]; exact hP⟩, hS.F ht⟩) hS.2.2 dX1_readShown_51
    · refine lv_aload_n hx hb dX1_readShown_32 rfl (lv_at hl 2 rfl) ?_
      refine va_get (D := G.1) (ci := 1) (v := .ref a2) (C := RX1) (T := TX1) (N := 12) hx hb hts mic_readShown_1 hown hK hP 0 rfl rfl 1 (by decide) (hts _ mwc_readShown_0) (fun _ h9 => h9) rfl dX1_readShown_33 ?_
      refine lv_iload_n hx hb dX1_readShown_36 rfl (lv_at hl 1 rfl) ?_
      refine lv_iconst (v := nI 3) hx hb dX1_readShown_37 (by decide) ?_
      refine zk_add hx hb dX1_readShown_38 ?_
      refine zk_ald (f := sc) (k := ((sg 0 * 5 + tX_1) * 16) + 3) hx hb hK hP 2 0 rfl rfl (Nat.le_of_ble_eq_true rfl) (by omega) dX1_readShown_39 ?_
      refine zk_top (y := nI (sg (11 + 76 * sg 0 + 15 * tX_1 + 3))) (congrArg nI (hR.2 (sg 0) tX_1 h00 hsn.2).2.2.2.1) ?_
      refine lv_aload_n hx hb dX1_readShown_40 rfl (lv_at hl 2 rfl) ?_
      refine va_get (D := G.1) (ci := 1) (v := .int (nI (sg 6))) (C := RX1) (T := TX1) (N := 12) hx hb hts mic_readShown_1 hown hK hP 0 rfl rfl 11 (by decide) (hts _ mwc_readShown_3) (fun _ h9 => h9) rfl dX1_readShown_41 ?_
      refine lv_iconst (v := (-1)) hx hb dX1_readShown_44 (by decide) ?_
      refine lv_ixor hx hb dX1_readShown_45 ?_
      refine lv_iand hx hb dX1_readShown_46 ?_
      refine lv_if_ne (tgt := 52) hx hb dX1_readShown_47 (by decide) (fun c47 => ?_) (fun c47 => ?_)
      · refine lv_aload_n hx hb dX1_readShown_52 rfl (lv_at hl 2 rfl) ?_
        refine lv_dup hx hb dX1_readShown_53 rfl ?_
        refine va_get (D := G.1) (ci := 1) (v := .int (nI (sg 5))) (C := RX1) (T := TX1) (N := 12) hx hb hts mic_readShown_1 hown hK hP 0 rfl rfl 10 (by decide) (hts _ mwc_readShown_2) (fun _ h9 => h9) rfl dX1_readShown_54 ?_
        refine lv_iload_n hx hb dX1_readShown_57 rfl (lv_at hl 0 rfl) ?_
        refine zk_sub hx hb dX1_readShown_58 (by omega) ?_
        refine zk_put (D := G.1) (ci := 1) (v := .int (nI ((sg 5) - (secs (sg (11 + 76 * sg 0 + 15 * tX_1 + 0)) (sg 4))))) (ty := .int) (C := RX1) (T := TX1) (N := 12) (ws2 := [(a0, .inr (1, [.ref a1, .ref a2, .int (nI (sg 0)), .int (nI (sg 1)), .int (nI (sg 7)), .int (nI (sg 8)), .int (nI (sg 9)), .int (nI (sg 2)), .int (nI (sg 3)), .int (nI (sg 4)), .int (nI ((sg 5) - (secs (sg (11 + 76 * sg 0 + 15 * tX_1 + 0)) (sg 4)))), .int (nI (sg 6))])), (a1, .inl (G.2.1, 8, .inl (arN sz))), (a2, .inl (G.2.1, 640, .inl (arN sc)))]) hx hb hts mic_readShown_1 tyX1 tyX1_ok nmX1 hown hK hP hD hS 0 rfl rfl 10 (by decide) (hts _ mwc_readShown_2) (fun _ h9 => h9) rfl (by decide +kernel) rfl rfl (Nat.le_of_ble_eq_true rfl) rfl dX1_readShown_59 (fun H locs hP hD hS => ?_)
        refine lv_aload_n hx hb dX1_readShown_62 rfl (lv_at hl 2 rfl) ?_
        refine lv_dup hx hb dX1_readShown_63 rfl ?_
        refine va_get (D := G.1) (ci := 1) (v := .int (nI (sg 6))) (C := RX1) (T := TX1) (N := 12) hx hb hts mic_readShown_1 hown hK hP 0 rfl rfl 11 (by decide) (hts _ mwc_readShown_3) (fun _ h9 => h9) rfl dX1_readShown_64 ?_
        refine lv_aload_n hx hb dX1_readShown_67 rfl (lv_at hl 2 rfl) ?_
        refine va_get (D := G.1) (ci := 1) (v := .ref a2) (C := RX1) (T := TX1) (N := 12) hx hb hts mic_readShown_1 hown hK hP 0 rfl rfl 1 (by decide) (hts _ mwc_readShown_0) (fun _ h9 => h9) rfl dX1_readShown_68 ?_
        refine lv_iload_n hx hb dX1_readShown_71 rfl (lv_at hl 1 rfl) ?_
        refine lv_iconst (v := nI 3) hx hb dX1_readShown_72 (by decide) ?_
        refine zk_add hx hb dX1_readShown_73 ?_
        refine zk_ald (f := sc) (k := ((sg 0 * 5 + tX_1) * 16) + 3) hx hb hK hP 2 0 rfl rfl (Nat.le_of_ble_eq_true rfl) (by omega) dX1_readShown_74 ?_
        refine zk_top (y := nI (sg (11 + 76 * sg 0 + 15 * tX_1 + 3))) (congrArg nI (hR.2 (sg 0) tX_1 h00 hsn.2).2.2.2.1) ?_
        refine zk_or hx hb dX1_readShown_75 ?_
        refine zk_put (D := G.1) (ci := 1) (v := .int (nI ((sg 6) ||| (sg (11 + 76 * sg 0 + 15 * tX_1 + 3))))) (ty := .int) (C := RX1) (T := TX1) (N := 12) (ws2 := [(a0, .inr (1, [.ref a1, .ref a2, .int (nI (sg 0)), .int (nI (sg 1)), .int (nI (sg 7)), .int (nI (sg 8)), .int (nI (sg 9)), .int (nI (sg 2)), .int (nI (sg 3)), .int (nI (sg 4)), .int (nI ((sg 5) - (secs (sg (11 + 76 * sg 0 + 15 * tX_1 + 0)) (sg 4)))), .int (nI ((sg 6) ||| (sg (11 + 76 * sg 0 + 15 * tX_1 + 3))))])), (a1, .inl (G.2.1, 8, .inl (arN sz))), (a2, .inl (G.2.1, 640, .inl (arN sc)))]) hx hb hts mic_readShown_1 tyX1 tyX1_ok nmX1 hown hK hP hD hS 0 rfl rfl 11 (by decide) (hts _ mwc_readShown_3) (fun _ h9 => h9) rfl (by decide +kernel) rfl rfl (Nat.le_of_ble_eq_true rfl) rfl dX1_readShown_76 (fun H locs hP hD hS => ?_)
        refine lv_aload_n hx hb dX1_readShown_79 rfl (lv_at hl 2 rfl) ?_
        refine va_get (D := G.1) (ci := 1) (v := .ref a2) (C := RX1) (T := TX1) (N := 12) hx hb hts mic_readShown_1 hown hK hP 0 rfl rfl 1 (by decide) (hts _ mwc_readShown_0) (fun _ h9 => h9) rfl dX1_readShown_80 ?_
        refine lv_iload_n hx hb dX1_readShown_83 rfl (lv_at hl 1 rfl) ?_
        refine lv_bipush (v := nI 6) hx hb dX1_readShown_84 (by decide) ?_
        refine zk_add hx hb dX1_readShown_86 ?_
        refine lv_dup2_11 hx hb dX1_readShown_87 rfl rfl ?_
        refine zk_ald (f := sc) (k := ((sg 0 * 5 + tX_1) * 16) + 6) hx hb hK hP 2 0 rfl rfl (Nat.le_of_ble_eq_true rfl) (by omega) dX1_readShown_88 ?_
        refine zk_top (y := nI (sg (11 + 76 * sg 0 + 15 * tX_1 + 4))) (congrArg nI (hR.2 (sg 0) tX_1 h00 hsn.2).2.2.2.2.2.2.1) ?_
        refine lv_iconst (v := nI 1) hx hb dX1_readShown_89 (by decide) ?_
        refine zk_add hx hb dX1_readShown_90 ?_
        refine zk_ast (f := sc) (k := ((sg 0 * 5 + tX_1) * 16) + 6) (v := (sg (11 + 76 * sg 0 + 15 * tX_1 + 4)) + 1) (ws2 := [(a0, .inr (1, [.ref a1, .ref a2, .int (nI (sg 0)), .int (nI (sg 1)), .int (nI (sg 7)), .int (nI (sg 8)), .int (nI (sg 9)), .int (nI (sg 2)), .int (nI (sg 3)), .int (nI (sg 4)), .int (nI ((sg 5) - (secs (sg (11 + 76 * sg 0 + 15 * tX_1 + 0)) (sg 4)))), .int (nI ((sg 6) ||| (sg (11 + 76 * sg 0 + 15 * tX_1 + 3))))])), (a1, .inl (G.2.1, 8, .inl (arN sz))), (a2, .inl (G.2.1, 640, .inl (arN (arU sc (((sg 0 * 5 + tX_1) * 16) + 6) ((sg (11 + 76 * sg 0 + 15 * tX_1 + 4)) + 1)))))]) hx hb hK hP hD hS 2 0 rfl rfl (Nat.le_of_ble_eq_true rfl) (by omega) rfl dX1_readShown_91 (fun H locs hP hD hS => ?_)
        refine lv_aload_n hx hb dX1_readShown_92 rfl (lv_at hl 2 rfl) ?_
        refine lv_dup hx hb dX1_readShown_93 rfl ?_
        refine va_get (D := G.1) (ci := 1) (v := .int (nI (sg 8))) (C := RX1) (T := TX1) (N := 12) hx hb hts mic_readShown_1 hown hK hP 0 rfl rfl 5 (by decide) (hts _ mwc_readShown_4) (fun _ h9 => h9) rfl dX1_readShown_94 ?_
        refine lv_iconst (v := nI 1) hx hb dX1_readShown_97 (by decide) ?_
        refine zk_add hx hb dX1_readShown_98 ?_
        refine zk_put (D := G.1) (ci := 1) (v := .int (nI ((sg 8) + 1))) (ty := .int) (C := RX1) (T := TX1) (N := 12) (ws2 := [(a0, .inr (1, [.ref a1, .ref a2, .int (nI (sg 0)), .int (nI (sg 1)), .int (nI (sg 7)), .int (nI ((sg 8) + 1)), .int (nI (sg 9)), .int (nI (sg 2)), .int (nI (sg 3)), .int (nI (sg 4)), .int (nI ((sg 5) - (secs (sg (11 + 76 * sg 0 + 15 * tX_1 + 0)) (sg 4)))), .int (nI ((sg 6) ||| (sg (11 + 76 * sg 0 + 15 * tX_1 + 3))))])), (a1, .inl (G.2.1, 8, .inl (arN sz))), (a2, .inl (G.2.1, 640, .inl (arN (arU sc (((sg 0 * 5 + tX_1) * 16) + 6) ((sg (11 + 76 * sg 0 + 15 * tX_1 + 4)) + 1)))))]) hx hb hts mic_readShown_1 tyX1 tyX1_ok nmX1 hown hK hP hD hS 0 rfl rfl 5 (by decide) (hts _ mwc_readShown_4) (fun _ h9 => h9) rfl (by decide +kernel) rfl rfl (Nat.le_of_ble_eq_true rfl) rfl dX1_readShown_99 (fun H locs hP hD hS => ?_)
        refine lv_iconst (v := nI 1) hx hb dX1_readShown_102 (by decide) ?_
        obtain ⟨qf0, qf1, qf7, qf8, qf9, qf2, qf3, qf4, qf5, qf6⟩ := rdT_f (sg := sg) (t := tX_1)
        have hP : va_P G.1 vwCl [(a0, .inr (1, [.ref a1, .ref a2, .int (nI (rdT sg tX_1 0)), .int (nI (rdT sg tX_1 1)), .int (nI (rdT sg tX_1 7)), .int (nI (rdT sg tX_1 8)), .int (nI (rdT sg tX_1 9)), .int (nI (rdT sg tX_1 2)), .int (nI (rdT sg tX_1 3)), .int (nI (rdT sg tX_1 4)), .int (nI (rdT sg tX_1 5)), .int (nI (rdT sg tX_1 6))])), (a1, .inl (G.2.1, 8, .inl (arN sz))), (a2, .inl (G.2.1, 640, .inl (arN (arU sc (((sg 0 * 5 + tX_1) * 16) + 6) ((sg (11 + 76 * sg 0 + 15 * tX_1 + 4)) + 1)))))] H := by rw [qf0, qf1, qf7, qf8, qf9, qf2, qf3, qf4, qf5, qf6]; exact hP
        have hD : va_D (zIn [(a0, .inr (1, [.ref a1, .ref a2, .int (nI (sg 0)), .int (nI (sg 1)), .int (nI (sg 7)), .int (nI (sg 8)), .int (nI (sg 9)), .int (nI (sg 2)), .int (nI (sg 3)), .int (nI (sg 4)), .int (nI (sg 5)), .int (nI (sg 6))])), (a1, .inl (G.2.1, 8, .inl (arN sz))), (a2, .inl (G.2.1, 640, .inl (arN sc)))]) [(a0, .inr (1, [.ref a1, .ref a2, .int (nI (rdT sg tX_1 0)), .int (nI (rdT sg tX_1 1)), .int (nI (rdT sg tX_1 7)), .int (nI (rdT sg tX_1 8)), .int (nI (rdT sg tX_1 9)), .int (nI (rdT sg tX_1 2)), .int (nI (rdT sg tX_1 3)), .int (nI (rdT sg tX_1 4)), .int (nI (rdT sg tX_1 5)), .int (nI (rdT sg tX_1 6))])), (a1, .inl (G.2.1, 8, .inl (arN sz))), (a2, .inl (G.2.1, 640, .inl (arN (arU sc (((sg 0 * 5 + tX_1) * 16) + 6) ((sg (11 + 76 * sg 0 + 15 * tX_1 + 4)) + 1)))))] := by rw [qf0, qf1, qf7, qf8, qf9, qf2, qf3, qf4, qf5, qf6]; exact hD
        exact W.zret (ty := .boolean) (v := nI 1) hx hb hr (rfl) (fun tT ht hW => ⟨⟨_, (rdT sg tX_1, sz, arU sc ((sg 0 * 5 + tX_1) * 16 + 6) (sg (11 + 76 * sg 0 + 15 * tX_1 + 4) + 1)), rfl, Or.inr (Or.inr ⟨tX_1, _, _, h1_0, ⟨c47, by omega⟩, rel_rdT hM hR hsn.2, mOK_rdT hM hsn.2, rfl, rfl⟩), by show va_P G.1 vwCl _ tT.heap; rw [ht]; exact hP⟩, hS.F ht⟩) hS.2.2 dX1_readShown_103
      · refine lv_iconst (v := nI 0) hx hb dX1_readShown_50 (by decide) ?_
        exact W.zret (ty := .boolean) (v := nI 0) hx hb hr (rfl) (fun tT ht hW => ⟨⟨_, (sg, sz, sc), rfl, Or.inr (Or.inl ⟨tX_1, h1_0, fun q => q.1 c47, rfl, rfl⟩), by show va_P G.1 vwCl _ tT.heap; rw [ht]; exact hP⟩, hS.F ht⟩) hS.2.2 dX1_readShown_51
set_option maxRecDepth 100000 in
theorem mwc_touchCaption_0 : Cond.fieldLink RX1 15 "ExhibitTexts$State" "cells" "[I" ∈ wsX1_touchCaption := by decide +kernel
set_option maxRecDepth 100000 in
theorem mic_touchCaption_1 : ∀ w ∈ u_ws RX1 TX1 12, w ∈ wsX1_touchCaption := by decide +kernel
set_option maxRecDepth 100000 in
theorem mwc_touchCaption_2 : Cond.fieldLink RX1 50 "ExhibitTexts$State" "seconds" "I" ∈ wsX1_touchCaption := by decide +kernel
set_option maxRecDepth 100000 in
theorem mwc_touchCaption_3 : Cond.fieldLink RX1 53 "ExhibitTexts$State" "learned" "I" ∈ wsX1_touchCaption := by decide +kernel
set_option maxRecDepth 100000 in
theorem mwc_touchCaption_4 : Cond.fieldLink RX1 37 "ExhibitTexts$State" "captionsRead" "I" ∈ wsX1_touchCaption := by decide +kernel
set_option maxHeartbeats 4000000 in
set_option maxRecDepth 100000 in
/-- X1_touchCaption: a caption is touched -/
theorem c_touchCaption (l : Launch) (G : zG) (a0 : Nat) (a1 : Nat) (a2 : Nat) (sz : Nat → Nat) (sc : Nat → Nat) (sg : Nat → Nat) (y : Int32) (hM : mOK sg) (hR : sRel sz sc sg) : Met l yX1_touchCaption wsX1_touchCaption ({ frames := 4, cells := 0, slots := 0, locals := 93 } : Room) (zPc G [.ref a0, .int y] [(a0, .inr (1, [.ref a1, .ref a2, .int (nI (sg 0)), .int (nI (sg 1)), .int (nI (sg 7)), .int (nI (sg 8)), .int (nI (sg 9)), .int (nI (sg 2)), .int (nI (sg 3)), .int (nI (sg 4)), .int (nI (sg 5)), .int (nI (sg 6))])), (a1, .inl (G.2.1, 8, .inl (arN sz))), (a2, .inl (G.2.1, 640, .inl (arN sc)))]) (va_Qi (fun (rR : Int32) (uU : (Nat → Nat) × (Nat → Nat) × (Nat → Nat)) => (sN sg = none ∧ rR = (-4) ∧ uU = (sg, sz, sc)) ∨ (∃ (tX : Nat), sN sg = some tX ∧ (¬ ∃ k : Nat, k < sg (11 + 76 * sg 0 + 15 * tX + 5) ∧ y = nI k) ∧ rR = (-1) ∧ uU = (sg, sz, sc)) ∨ (∃ (tX : Nat) (kX : Nat), sN sg = some tX ∧ kX < sg (11 + 76 * sg 0 + 15 * tX + 5) ∧ y = nI kX ∧ sg 5 < secs (sg (11 + 76 * sg 0 + 15 * tX + (6 + 3 * kX + 0))) (sg 4) ∧ rR = (-5) ∧ uU = (sg, sz, sc)) ∨ (∃ (tX : Nat) (kX : Nat) (zZ : Nat → Nat) (cC : Nat → Nat), sN sg = some tX ∧ kX < sg (11 + 76 * sg 0 + 15 * tX + 5) ∧ y = nI kX ∧ secs (sg (11 + 76 * sg 0 + 15 * tX + (6 + 3 * kX + 0))) (sg 4) ≤ sg 5 ∧ sRel zZ cC (tcT sg tX kX) ∧ mOK (tcT sg tX kX) ∧ rR = nI (bitsN (tcT sg tX kX 6) 16) - nI (bitsN (sg 6) 16) ∧ uU = (tcT sg tX kX, zZ, cC))) (fun uU tT => va_P G.1 vwCl ((fun (uU : (Nat → Nat) × (Nat → Nat) × (Nat → Nat)) => ([(a0, .inr (1, [.ref a1, .ref a2, .int (nI (uU.1 0)), .int (nI (uU.1 1)), .int (nI (uU.1 7)), .int (nI (uU.1 8)), .int (nI (uU.1 9)), .int (nI (uU.1 2)), .int (nI (uU.1 3)), .int (nI (uU.1 4)), .int (nI (uU.1 5)), .int (nI (uU.1 6))])), (a1, .inl (G.2.1, 8, .inl (arN uU.2.1))), (a2, .inl (G.2.1, 640, .inl (arN uU.2.2)))] : va_W)) uU) tT.heap) (zIn [(a0, .inr (1, [.ref a1, .ref a2, .int (nI (sg 0)), .int (nI (sg 1)), .int (nI (sg 7)), .int (nI (sg 8)), .int (nI (sg 9)), .int (nI (sg 2)), .int (nI (sg 3)), .int (nI (sg 4)), .int (nI (sg 5)), .int (nI (sg 6))])), (a1, .inl (G.2.1, 8, .inl (arN sz))), (a2, .inl (G.2.1, 640, .inl (arN sc)))])) 0 0 (zIn [(a0, .inr (1, [.ref a1, .ref a2, .int (nI (sg 0)), .int (nI (sg 1)), .int (nI (sg 7)), .int (nI (sg 8)), .int (nI (sg 9)), .int (nI (sg 2)), .int (nI (sg 3)), .int (nI (sg 4)), .int (nI (sg 5)), .int (nI (sg 6))])), (a1, .inl (G.2.1, 8, .inl (arN sz))), (a2, .inl (G.2.1, 640, .inl (arN sc)))]) := by
  refine zM (cc := cX1_touchCaption) (maxL := 6) (ret := (some .int)) (by decide) rfl (Nat.le_of_ble_eq_true rfl) ?_
  intro pP eE sS mM below meth cC hx hb hr hts hown hlk hml hnm hK hN hP hD hS ls hl
  have hl : lv_has ls 6 [(0, .ref a0), (1, .int y)] := hl
  refine lv_aload_n hx hb dX1_touchCaption_0 rfl (lv_at hl 0 rfl) ?_
  refine zc_R (As := []) (rest := []) ⟨hx, hb, hml, hown, hts⟩ (c_shownRow l G a0 a1 a2 sz sc sg (by omega) (by omega)) (cwV 0 hts gX1_touchCaption_X1_shownRow rfl rfl rfl (by decide +kernel) ⟨Nat.le_of_ble_eq_true rfl, Nat.le_of_ble_eq_true rfl⟩) hK hN hP hD [0, 1, 2] rfl (by decide) (ci := 1) rfl rfl rfl hl.1 rfl (Nat.le_of_ble_eq_true rfl) dX1_touchCaption_1 ⟨Nat.zero_le _, Nat.zero_le _⟩ (fun r1 h1 => ?_)
  rcases h1 with ⟨h1_0, rfl⟩ | ⟨tX_1, h1_0, rfl⟩
  · refine lv_istore_n (lv' := [(2, .int (-5)), (0, .ref a0), (1, .int y)]) hx hb dX1_touchCaption_4 rfl hl (by decide) rfl (fun ls hl => ?_)
    refine lv_iload_n hx hb dX1_touchCaption_5 rfl (lv_at hl 0 rfl) ?_
    refine lv_if_ge (tgt := 12) hx hb dX1_touchCaption_6 (by decide) (fun q => absurd q (by decide)) (fun _ => ?_)
    refine lv_bipush (v := (-4)) hx hb dX1_touchCaption_9 (by decide) ?_
    exact W.iret (v := (-4)) hx hb hr (fun tT ht hW => ⟨⟨_, (sg, sz, sc), rfl, Or.inl ⟨h1_0, rfl, rfl⟩, by show va_P G.1 vwCl _ tT.heap; rw [ht]; exact hP⟩, hS.F ht⟩) hS.2.2 dX1_touchCaption_11
  · have h00 := hM.1.1
    have hz5 := hM.2.1 _ h00
    have hsn := sN_some hM h1_0
    have hTX := hM.2.2 _ tX_1 h00 hsn.2
    have hw3 := hTX.1.2
    have hp3 := hM.1.2.2.2.1 hsn.1
    have hf3 := hTX.2.2.2.1
    have h6 := hM.1.2.2.2.2.2
    have hq5 := hM.1.2.2.2.2.1
    have hc3 := hTX.2.2.2.2.1
    have hsl0 := secs_le hw3 hp3.2.1
    refine lv_istore_n (lv' := [(2, .int (nI ((sg 0 * 5 + tX_1) * 16))), (0, .ref a0), (1, .int y)]) hx hb dX1_touchCaption_4 rfl hl (by decide) rfl (fun ls hl => ?_)
    refine lv_iload_n hx hb dX1_touchCaption_5 rfl (lv_at hl 0 rfl) ?_
    refine zk_zge (tgt := 12) hx hb dX1_touchCaption_6 (by decide) (by omega) ?_
    refine lv_aload_n hx hb dX1_touchCaption_12 rfl (lv_at hl 1 rfl) ?_
    refine lv_iload_n hx hb dX1_touchCaption_13 rfl (lv_at hl 0 rfl) ?_
    refine lv_iload_n hx hb dX1_touchCaption_14 rfl (lv_at hl 2 rfl) ?_
    refine zc_R (As := [.int (nI ((sg 0 * 5 + tX_1) * 16)), .int y]) (rest := []) ⟨hx, hb, hml, hown, hts⟩ (c_captionOf l G a0 a1 a2 sz sc sg (sg 0) tX_1 y (by omega) (by omega) h00 hsn.2) (cwV 2 hts gX1_touchCaption_X1_captionOf rfl rfl rfl (by decide +kernel) ⟨Nat.le_of_ble_eq_true rfl, Nat.le_of_ble_eq_true rfl⟩) hK hN hP hD [0, 1, 2] rfl (by decide) (ci := 1) rfl rfl rfl hl.1 rfl (Nat.le_of_ble_eq_true rfl) dX1_touchCaption_15 ⟨Nat.zero_le _, Nat.zero_le _⟩ (fun r15 h15 => ?_)
    rcases h15 with ⟨kX_15, h15_0, rfl, rfl⟩ | ⟨h15_0, rfl⟩
    · have hcp := hTX.2.2.2.2.2 kX_15 h15_0
      have hsl := secs_le (w := sg (11 + 76 * sg 0 + 15 * tX_1 + (6 + 3 * kX_15 + 0))) (by omega) hp3.2.1
      refine lv_istore_n (lv' := [(3, .int (nI (((sg 0) * 5 + tX_1) * 16 + 7 + kX_15 * 3))), (2, .int (nI ((sg 0 * 5 + tX_1) * 16))), (0, .ref a0), (1, .int (nI kX_15))]) hx hb dX1_touchCaption_18 rfl hl (by decide) rfl (fun ls hl => ?_)
      refine lv_iload_n hx hb dX1_touchCaption_19 rfl (lv_at hl 0 rfl) ?_
      refine zk_zge (tgt := 25) hx hb dX1_touchCaption_20 (by decide) (by omega) ?_
      refine lv_aload_n hx hb dX1_touchCaption_25 rfl (lv_at hl 2 rfl) ?_
      refine lv_aload_n hx hb dX1_touchCaption_26 rfl (lv_at hl 2 rfl) ?_
      refine va_get (D := G.1) (ci := 1) (v := .ref a2) (C := RX1) (T := TX1) (N := 12) hx hb hts mic_touchCaption_1 hown hK hP 0 rfl rfl 1 (by decide) (hts _ mwc_touchCaption_0) (fun _ h9 => h9) rfl dX1_touchCaption_27 ?_
      refine lv_iload_n hx hb dX1_touchCaption_30 rfl (lv_at hl 0 rfl) ?_
      refine lv_iconst (v := nI 0) hx hb dX1_touchCaption_31 (by decide) ?_
      refine zk_add hx hb dX1_touchCaption_32 ?_
      refine zk_ald (f := sc) (k := (((sg 0) * 5 + tX_1) * 16 + 7 + kX_15 * 3) + 0) hx hb hK hP 2 0 rfl rfl (Nat.le_of_ble_eq_true rfl) (by omega) dX1_touchCaption_33 ?_
      refine zk_top (y := nI (sg (11 + 76 * sg 0 + 15 * tX_1 + (6 + 3 * kX_15 + 0)))) (congrArg nI ((hR.2 (sg 0) tX_1 h00 hsn.2).2.2.2.2.2.2.2 kX_15 (by omega) h15_0).1) ?_
      refine zc_R (As := [.int (nI (sg (11 + 76 * sg 0 + 15 * tX_1 + (6 + 3 * kX_15 + 0))))]) (rest := []) ⟨hx, hb, hml, hown, hts⟩ (c_timeFor l G a0 a1 a2 sz sc sg (sg (11 + 76 * sg 0 + 15 * tX_1 + (6 + 3 * kX_15 + 0))) (by omega) (by omega) hsn.1 (by omega)) (cwV 1 hts gX1_touchCaption_X1_timeFor rfl rfl rfl (by decide +kernel) ⟨Nat.le_of_ble_eq_true rfl, Nat.le_of_ble_eq_true rfl⟩) hK hN hP hD [0, 1, 2] rfl (by decide) (ci := 1) rfl rfl rfl hl.1 rfl (Nat.le_of_ble_eq_true rfl) dX1_touchCaption_34 ⟨Nat.zero_le _, Nat.zero_le _⟩ (fun r34 h34 => ?_)
      subst h34
      refine lv_istore (lv' := [(4, .int (nI (secs (sg (11 + 76 * sg 0 + 15 * tX_1 + (6 + 3 * kX_15 + 0))) (sg 4)))), (3, .int (nI (((sg 0) * 5 + tX_1) * 16 + 7 + kX_15 * 3))), (2, .int (nI ((sg 0 * 5 + tX_1) * 16))), (0, .ref a0), (1, .int (nI kX_15))]) hx hb dX1_touchCaption_37 hl (by decide) rfl (fun ls hl => ?_)
      refine lv_iload hx hb dX1_touchCaption_39 (lv_at hl 0 rfl) ?_
      refine lv_aload_n hx hb dX1_touchCaption_41 rfl (lv_at hl 3 rfl) ?_
      refine va_get (D := G.1) (ci := 1) (v := .int (nI (sg 5))) (C := RX1) (T := TX1) (N := 12) hx hb hts mic_touchCaption_1 hown hK hP 0 rfl rfl 10 (by decide) (hts _ mwc_touchCaption_2) (fun _ h9 => h9) rfl dX1_touchCaption_42 ?_
      refine zk_ile (tgt := 51) hx hb dX1_touchCaption_45 (by decide) (by omega) (by omega) (fun c45 => ?_) (fun c45 => ?_)
      · refine lv_aload_n hx hb dX1_touchCaption_51 rfl (lv_at hl 3 rfl) ?_
        refine va_get (D := G.1) (ci := 1) (v := .int (nI (sg 6))) (C := RX1) (T := TX1) (N := 12) hx hb hts mic_touchCaption_1 hown hK hP 0 rfl rfl 11 (by decide) (hts _ mwc_touchCaption_3) (fun _ h9 => h9) rfl dX1_touchCaption_52 ?_
        refine lv_istore (lv' := [(5, .int (nI (sg 6))), (4, .int (nI (secs (sg (11 + 76 * sg 0 + 15 * tX_1 + (6 + 3 * kX_15 + 0))) (sg 4)))), (3, .int (nI (((sg 0) * 5 + tX_1) * 16 + 7 + kX_15 * 3))), (2, .int (nI ((sg 0 * 5 + tX_1) * 16))), (0, .ref a0), (1, .int (nI kX_15))]) hx hb dX1_touchCaption_55 hl (by decide) rfl (fun ls hl => ?_)
        refine lv_aload_n hx hb dX1_touchCaption_57 rfl (lv_at hl 4 rfl) ?_
        refine lv_dup hx hb dX1_touchCaption_58 rfl ?_
        refine va_get (D := G.1) (ci := 1) (v := .int (nI (sg 5))) (C := RX1) (T := TX1) (N := 12) hx hb hts mic_touchCaption_1 hown hK hP 0 rfl rfl 10 (by decide) (hts _ mwc_touchCaption_2) (fun _ h9 => h9) rfl dX1_touchCaption_59 ?_
        refine lv_iload hx hb dX1_touchCaption_62 (lv_at hl 1 rfl) ?_
        refine zk_sub hx hb dX1_touchCaption_64 (by omega) ?_
        refine zk_put (D := G.1) (ci := 1) (v := .int (nI ((sg 5) - (secs (sg (11 + 76 * sg 0 + 15 * tX_1 + (6 + 3 * kX_15 + 0))) (sg 4))))) (ty := .int) (C := RX1) (T := TX1) (N := 12) (ws2 := [(a0, .inr (1, [.ref a1, .ref a2, .int (nI (sg 0)), .int (nI (sg 1)), .int (nI (sg 7)), .int (nI (sg 8)), .int (nI (sg 9)), .int (nI (sg 2)), .int (nI (sg 3)), .int (nI (sg 4)), .int (nI ((sg 5) - (secs (sg (11 + 76 * sg 0 + 15 * tX_1 + (6 + 3 * kX_15 + 0))) (sg 4)))), .int (nI (sg 6))])), (a1, .inl (G.2.1, 8, .inl (arN sz))), (a2, .inl (G.2.1, 640, .inl (arN sc)))]) hx hb hts mic_touchCaption_1 tyX1 tyX1_ok nmX1 hown hK hP hD hS 0 rfl rfl 10 (by decide) (hts _ mwc_touchCaption_2) (fun _ h9 => h9) rfl (by decide +kernel) rfl rfl (Nat.le_of_ble_eq_true rfl) rfl dX1_touchCaption_65 (fun H locs hP hD hS => ?_)
        refine lv_aload_n hx hb dX1_touchCaption_68 rfl (lv_at hl 4 rfl) ?_
        refine lv_dup hx hb dX1_touchCaption_69 rfl ?_
        refine va_get (D := G.1) (ci := 1) (v := .int (nI (sg 6))) (C := RX1) (T := TX1) (N := 12) hx hb hts mic_touchCaption_1 hown hK hP 0 rfl rfl 11 (by decide) (hts _ mwc_touchCaption_3) (fun _ h9 => h9) rfl dX1_touchCaption_70 ?_
        refine lv_aload_n hx hb dX1_touchCaption_73 rfl (lv_at hl 4 rfl) ?_
        refine va_get (D := G.1) (ci := 1) (v := .ref a2) (C := RX1) (T := TX1) (N := 12) hx hb hts mic_touchCaption_1 hown hK hP 0 rfl rfl 1 (by decide) (hts _ mwc_touchCaption_0) (fun _ h9 => h9) rfl dX1_touchCaption_74 ?_
        refine lv_iload_n hx hb dX1_touchCaption_77 rfl (lv_at hl 2 rfl) ?_
        refine lv_iconst (v := nI 1) hx hb dX1_touchCaption_78 (by decide) ?_
        refine zk_add hx hb dX1_touchCaption_79 ?_
        refine zk_ald (f := sc) (k := (((sg 0) * 5 + tX_1) * 16 + 7 + kX_15 * 3) + 1) hx hb hK hP 2 0 rfl rfl (Nat.le_of_ble_eq_true rfl) (by omega) dX1_touchCaption_80 ?_
        refine zk_top (y := nI (sg (11 + 76 * sg 0 + 15 * tX_1 + (6 + 3 * kX_15 + 1)))) (congrArg nI ((hR.2 (sg 0) tX_1 h00 hsn.2).2.2.2.2.2.2.2 kX_15 (by omega) h15_0).2.1) ?_
        refine zk_or hx hb dX1_touchCaption_81 ?_
        refine zk_put (D := G.1) (ci := 1) (v := .int (nI ((sg 6) ||| (sg (11 + 76 * sg 0 + 15 * tX_1 + (6 + 3 * kX_15 + 1)))))) (ty := .int) (C := RX1) (T := TX1) (N := 12) (ws2 := [(a0, .inr (1, [.ref a1, .ref a2, .int (nI (sg 0)), .int (nI (sg 1)), .int (nI (sg 7)), .int (nI (sg 8)), .int (nI (sg 9)), .int (nI (sg 2)), .int (nI (sg 3)), .int (nI (sg 4)), .int (nI ((sg 5) - (secs (sg (11 + 76 * sg 0 + 15 * tX_1 + (6 + 3 * kX_15 + 0))) (sg 4)))), .int (nI ((sg 6) ||| (sg (11 + 76 * sg 0 + 15 * tX_1 + (6 + 3 * kX_15 + 1)))))])), (a1, .inl (G.2.1, 8, .inl (arN sz))), (a2, .inl (G.2.1, 640, .inl (arN sc)))]) hx hb hts mic_touchCaption_1 tyX1 tyX1_ok nmX1 hown hK hP hD hS 0 rfl rfl 11 (by decide) (hts _ mwc_touchCaption_3) (fun _ h9 => h9) rfl (by decide +kernel) rfl rfl (Nat.le_of_ble_eq_true rfl) rfl dX1_touchCaption_82 (fun H locs hP hD hS => ?_)
        refine lv_aload_n hx hb dX1_touchCaption_85 rfl (lv_at hl 4 rfl) ?_
        refine va_get (D := G.1) (ci := 1) (v := .ref a2) (C := RX1) (T := TX1) (N := 12) hx hb hts mic_touchCaption_1 hown hK hP 0 rfl rfl 1 (by decide) (hts _ mwc_touchCaption_0) (fun _ h9 => h9) rfl dX1_touchCaption_86 ?_
        refine lv_iload_n hx hb dX1_touchCaption_89 rfl (lv_at hl 2 rfl) ?_
        refine lv_iconst (v := nI 2) hx hb dX1_touchCaption_90 (by decide) ?_
        refine zk_add hx hb dX1_touchCaption_91 ?_
        refine lv_dup2_11 hx hb dX1_touchCaption_92 rfl rfl ?_
        refine zk_ald (f := sc) (k := (((sg 0) * 5 + tX_1) * 16 + 7 + kX_15 * 3) + 2) hx hb hK hP 2 0 rfl rfl (Nat.le_of_ble_eq_true rfl) (by omega) dX1_touchCaption_93 ?_
        refine zk_top (y := nI (sg (11 + 76 * sg 0 + 15 * tX_1 + (6 + 3 * kX_15 + 2)))) (congrArg nI ((hR.2 (sg 0) tX_1 h00 hsn.2).2.2.2.2.2.2.2 kX_15 (by omega) h15_0).2.2) ?_
        refine lv_iconst (v := nI 1) hx hb dX1_touchCaption_94 (by decide) ?_
        refine zk_add hx hb dX1_touchCaption_95 ?_
        refine zk_ast (f := sc) (k := (((sg 0) * 5 + tX_1) * 16 + 7 + kX_15 * 3) + 2) (v := (sg (11 + 76 * sg 0 + 15 * tX_1 + (6 + 3 * kX_15 + 2))) + 1) (ws2 := [(a0, .inr (1, [.ref a1, .ref a2, .int (nI (sg 0)), .int (nI (sg 1)), .int (nI (sg 7)), .int (nI (sg 8)), .int (nI (sg 9)), .int (nI (sg 2)), .int (nI (sg 3)), .int (nI (sg 4)), .int (nI ((sg 5) - (secs (sg (11 + 76 * sg 0 + 15 * tX_1 + (6 + 3 * kX_15 + 0))) (sg 4)))), .int (nI ((sg 6) ||| (sg (11 + 76 * sg 0 + 15 * tX_1 + (6 + 3 * kX_15 + 1)))))])), (a1, .inl (G.2.1, 8, .inl (arN sz))), (a2, .inl (G.2.1, 640, .inl (arN (arU sc ((((sg 0) * 5 + tX_1) * 16 + 7 + kX_15 * 3) + 2) ((sg (11 + 76 * sg 0 + 15 * tX_1 + (6 + 3 * kX_15 + 2))) + 1)))))]) hx hb hK hP hD hS 2 0 rfl rfl (Nat.le_of_ble_eq_true rfl) (by omega) rfl dX1_touchCaption_96 (fun H locs hP hD hS => ?_)
        refine lv_aload_n hx hb dX1_touchCaption_97 rfl (lv_at hl 4 rfl) ?_
        refine lv_dup hx hb dX1_touchCaption_98 rfl ?_
        refine va_get (D := G.1) (ci := 1) (v := .int (nI (sg 9))) (C := RX1) (T := TX1) (N := 12) hx hb hts mic_touchCaption_1 hown hK hP 0 rfl rfl 6 (by decide) (hts _ mwc_touchCaption_4) (fun _ h9 => h9) rfl dX1_touchCaption_99 ?_
        refine lv_iconst (v := nI 1) hx hb dX1_touchCaption_102 (by decide) ?_
        refine zk_add hx hb dX1_touchCaption_103 ?_
        refine zk_put (D := G.1) (ci := 1) (v := .int (nI ((sg 9) + 1))) (ty := .int) (C := RX1) (T := TX1) (N := 12) (ws2 := [(a0, .inr (1, [.ref a1, .ref a2, .int (nI (sg 0)), .int (nI (sg 1)), .int (nI (sg 7)), .int (nI (sg 8)), .int (nI ((sg 9) + 1)), .int (nI (sg 2)), .int (nI (sg 3)), .int (nI (sg 4)), .int (nI ((sg 5) - (secs (sg (11 + 76 * sg 0 + 15 * tX_1 + (6 + 3 * kX_15 + 0))) (sg 4)))), .int (nI ((sg 6) ||| (sg (11 + 76 * sg 0 + 15 * tX_1 + (6 + 3 * kX_15 + 1)))))])), (a1, .inl (G.2.1, 8, .inl (arN sz))), (a2, .inl (G.2.1, 640, .inl (arN (arU sc ((((sg 0) * 5 + tX_1) * 16 + 7 + kX_15 * 3) + 2) ((sg (11 + 76 * sg 0 + 15 * tX_1 + (6 + 3 * kX_15 + 2))) + 1)))))]) hx hb hts mic_touchCaption_1 tyX1 tyX1_ok nmX1 hown hK hP hD hS 0 rfl rfl 6 (by decide) (hts _ mwc_touchCaption_4) (fun _ h9 => h9) rfl (by decide +kernel) rfl rfl (Nat.le_of_ble_eq_true rfl) rfl dX1_touchCaption_104 (fun H locs hP hD hS => ?_)
        refine lv_aload_n hx hb dX1_touchCaption_107 rfl (lv_at hl 4 rfl) ?_
        have hMc := mOK_cpT hM hsn.2 h15_0
        have hRc := rel_cpT hM hR hsn.2 h15_0
        obtain ⟨qf0, qf1, qf7, qf8, qf9, qf2, qf3, qf4, qf5, qf6⟩ := cpT_f (sg := sg) (t := tX_1) (k := kX_15)
        have hP : va_P G.1 vwCl [(a0, .inr (1, [.ref a1, .ref a2, .int (nI (cpT sg tX_1 kX_15 0)), .int (nI (cpT sg tX_1 kX_15 1)), .int (nI (cpT sg tX_1 kX_15 7)), .int (nI (cpT sg tX_1 kX_15 8)), .int (nI (cpT sg tX_1 kX_15 9)), .int (nI (cpT sg tX_1 kX_15 2)), .int (nI (cpT sg tX_1 kX_15 3)), .int (nI (cpT sg tX_1 kX_15 4)), .int (nI (cpT sg tX_1 kX_15 5)), .int (nI (cpT sg tX_1 kX_15 6))])), (a1, .inl (G.2.1, 8, .inl (arN sz))), (a2, .inl (G.2.1, 640, .inl (arN (arU sc ((((sg 0) * 5 + tX_1) * 16 + 7 + kX_15 * 3) + 2) ((sg (11 + 76 * sg 0 + 15 * tX_1 + (6 + 3 * kX_15 + 2))) + 1)))))] H := by rw [qf0, qf1, qf7, qf8, qf9, qf2, qf3, qf4, qf5, qf6]; exact hP
        have hD : va_D (zIn [(a0, .inr (1, [.ref a1, .ref a2, .int (nI (sg 0)), .int (nI (sg 1)), .int (nI (sg 7)), .int (nI (sg 8)), .int (nI (sg 9)), .int (nI (sg 2)), .int (nI (sg 3)), .int (nI (sg 4)), .int (nI (sg 5)), .int (nI (sg 6))])), (a1, .inl (G.2.1, 8, .inl (arN sz))), (a2, .inl (G.2.1, 640, .inl (arN sc)))]) [(a0, .inr (1, [.ref a1, .ref a2, .int (nI (cpT sg tX_1 kX_15 0)), .int (nI (cpT sg tX_1 kX_15 1)), .int (nI (cpT sg tX_1 kX_15 7)), .int (nI (cpT sg tX_1 kX_15 8)), .int (nI (cpT sg tX_1 kX_15 9)), .int (nI (cpT sg tX_1 kX_15 2)), .int (nI (cpT sg tX_1 kX_15 3)), .int (nI (cpT sg tX_1 kX_15 4)), .int (nI (cpT sg tX_1 kX_15 5)), .int (nI (cpT sg tX_1 kX_15 6))])), (a1, .inl (G.2.1, 8, .inl (arN sz))), (a2, .inl (G.2.1, 640, .inl (arN (arU sc ((((sg 0) * 5 + tX_1) * 16 + 7 + kX_15 * 3) + 2) ((sg (11 + 76 * sg 0 + 15 * tX_1 + (6 + 3 * kX_15 + 2))) + 1)))))] := by rw [qf0, qf1, qf7, qf8, qf9, qf2, qf3, qf4, qf5, qf6]; exact hD
        refine zc_V (As := []) (rest := []) (ws2 := (fun (uU : (Nat → Nat) × (Nat → Nat) × (Nat → Nat)) => ([(a0, .inr (1, [.ref a1, .ref a2, .int (nI (uU.1 0)), .int (nI (uU.1 1)), .int (nI (uU.1 7)), .int (nI (uU.1 8)), .int (nI (uU.1 9)), .int (nI (uU.1 2)), .int (nI (uU.1 3)), .int (nI (uU.1 4)), .int (nI (uU.1 5)), .int (nI (uU.1 6))])), (a1, .inl (G.2.1, 8, .inl (arN uU.2.1))), (a2, .inl (G.2.1, 640, .inl (arN uU.2.2)))] : va_W))) ⟨hx, hb, hml, hown, hts⟩ (c_readShown_t l G a0 a1 a2 sz (arU sc ((((sg 0) * 5 + tX_1) * 16 + 7 + kX_15 * 3) + 2) ((sg (11 + 76 * sg 0 + 15 * tX_1 + (6 + 3 * kX_15 + 2))) + 1)) (cpT sg tX_1 kX_15) tX_1 hMc hRc ((sN_cpT hM hsn.2 (by omega)).trans h1_0)) (cwV 0 hts gX1_touchCaption_X1_readShown rfl rfl rfl (by decide +kernel) ⟨Nat.le_of_ble_eq_true rfl, Nat.le_of_ble_eq_true rfl⟩) hK hN hP hD hS [0, 1, 2] rfl (by decide) (ci := 1) rfl rfl (fun _ => rfl) (fun _ => rfl) rfl hl.1 rfl (Nat.le_of_ble_eq_true rfl) dX1_touchCaption_108 ⟨Nat.zero_le _, Nat.zero_le _⟩ (fun r108 u108 H locs h108 hP hD hS => ?_)
        rcases h108 with ⟨h108_0, rfl, rfl⟩ | ⟨zZ_108, cC_108, h108_0, h108_1, h108_2, rfl, rfl⟩
        · have hP : va_P G.1 vwCl [(a0, .inr (1, [.ref a1, .ref a2, .int (nI ((cpT sg tX_1 kX_15) 0)), .int (nI ((cpT sg tX_1 kX_15) 1)), .int (nI ((cpT sg tX_1 kX_15) 7)), .int (nI ((cpT sg tX_1 kX_15) 8)), .int (nI ((cpT sg tX_1 kX_15) 9)), .int (nI ((cpT sg tX_1 kX_15) 2)), .int (nI ((cpT sg tX_1 kX_15) 3)), .int (nI ((cpT sg tX_1 kX_15) 4)), .int (nI ((cpT sg tX_1 kX_15) 5)), .int (nI ((cpT sg tX_1 kX_15) 6))])), (a1, .inl (G.2.1, 8, .inl (arN sz))), (a2, .inl (G.2.1, 640, .inl (arN (arU sc ((((sg 0) * 5 + tX_1) * 16 + 7 + kX_15 * 3) + 2) ((sg (11 + 76 * sg 0 + 15 * tX_1 + (6 + 3 * kX_15 + 2))) + 1)))))] H := hP
          have hD : va_D (zIn [(a0, .inr (1, [.ref a1, .ref a2, .int (nI (sg 0)), .int (nI (sg 1)), .int (nI (sg 7)), .int (nI (sg 8)), .int (nI (sg 9)), .int (nI (sg 2)), .int (nI (sg 3)), .int (nI (sg 4)), .int (nI (sg 5)), .int (nI (sg 6))])), (a1, .inl (G.2.1, 8, .inl (arN sz))), (a2, .inl (G.2.1, 640, .inl (arN sc)))]) [(a0, .inr (1, [.ref a1, .ref a2, .int (nI ((cpT sg tX_1 kX_15) 0)), .int (nI ((cpT sg tX_1 kX_15) 1)), .int (nI ((cpT sg tX_1 kX_15) 7)), .int (nI ((cpT sg tX_1 kX_15) 8)), .int (nI ((cpT sg tX_1 kX_15) 9)), .int (nI ((cpT sg tX_1 kX_15) 2)), .int (nI ((cpT sg tX_1 kX_15) 3)), .int (nI ((cpT sg tX_1 kX_15) 4)), .int (nI ((cpT sg tX_1 kX_15) 5)), .int (nI ((cpT sg tX_1 kX_15) 6))])), (a1, .inl (G.2.1, 8, .inl (arN sz))), (a2, .inl (G.2.1, 640, .inl (arN (arU sc ((((sg 0) * 5 + tX_1) * 16 + 7 + kX_15 * 3) + 2) ((sg (11 + 76 * sg 0 + 15 * tX_1 + (6 + 3 * kX_15 + 2))) + 1)))))] := hD
          have et : cpT sg tX_1 kX_15 = tcT sg tX_1 kX_15 := (if_neg h108_0).symm
          rw [et] at hP hD
          have hM6 : mOK (tcT sg tX_1 kX_15) := by rw [← et]; exact hMc
          refine lv_pop hx hb dX1_touchCaption_111 rfl ?_
          refine lv_aload_n hx hb dX1_touchCaption_112 rfl (lv_at hl 4 rfl) ?_
          refine va_get (D := G.1) (ci := 1) (v := .int (nI (tcT sg tX_1 kX_15 6))) (C := RX1) (T := TX1) (N := 12) hx hb hts mic_touchCaption_1 hown hK hP 0 rfl rfl 11 (by decide) (hts _ mwc_touchCaption_3) (fun _ h9 => h9) rfl dX1_touchCaption_113 ?_
          refine lv_iload hx hb dX1_touchCaption_116 (lv_at hl 0 rfl) ?_
          refine lv_iconst (v := (-1)) hx hb dX1_touchCaption_118 (by decide) ?_
          refine lv_ixor hx hb dX1_touchCaption_119 ?_
          refine lv_iand hx hb dX1_touchCaption_120 ?_
          refine zk_top (y := andN (tcT sg tX_1 kX_15 6) (sg 6)) rfl ?_
          refine zc_S (As := [.int (andN (tcT sg tX_1 kX_15 6) (sg 6))]) (rest := []) ⟨hx, hb, hml, hown, hts⟩ (c_bitSub l (tcT sg tX_1 kX_15 6) (sg 6) hM6.1.2.2.2.2.2 sup_tcT) (va_cwS 1 hts gX1_touchCaption_J6_bitCount_0f7a4 rfl rfl rfl (by decide +kernel) ⟨Nat.le_of_ble_eq_true rfl, Nat.le_of_ble_eq_true rfl⟩) rfl hl.1 rfl (Nat.le_of_ble_eq_true rfl) dX1_touchCaption_121 ⟨Nat.zero_le _, Nat.zero_le _⟩ (fun r121 h121 => ?_)
          subst h121
          exact W.iret (v := nI (bitsN (tcT sg tX_1 kX_15 6) 16) - nI (bitsN (sg 6) 16)) hx hb hr (fun tT ht hW => ⟨⟨_, (tcT sg tX_1 kX_15, sz, arU sc ((sg 0 * 5 + tX_1) * 16 + 7 + kX_15 * 3 + 2) (sg (11 + 76 * sg 0 + 15 * tX_1 + (6 + 3 * kX_15 + 2)) + 1)), rfl, Or.inr (Or.inr (Or.inr ⟨tX_1, kX_15, _, _, h1_0, h15_0, rfl, by omega, by rw [← et]; exact hRc, hM6, rfl, rfl⟩)), by show va_P G.1 vwCl _ tT.heap; rw [ht]; exact hP⟩, hS.F ht⟩) hS.2.2 dX1_touchCaption_124
        · have hP : va_P G.1 vwCl [(a0, .inr (1, [.ref a1, .ref a2, .int (nI ((rdT (cpT sg tX_1 kX_15) tX_1) 0)), .int (nI ((rdT (cpT sg tX_1 kX_15) tX_1) 1)), .int (nI ((rdT (cpT sg tX_1 kX_15) tX_1) 7)), .int (nI ((rdT (cpT sg tX_1 kX_15) tX_1) 8)), .int (nI ((rdT (cpT sg tX_1 kX_15) tX_1) 9)), .int (nI ((rdT (cpT sg tX_1 kX_15) tX_1) 2)), .int (nI ((rdT (cpT sg tX_1 kX_15) tX_1) 3)), .int (nI ((rdT (cpT sg tX_1 kX_15) tX_1) 4)), .int (nI ((rdT (cpT sg tX_1 kX_15) tX_1) 5)), .int (nI ((rdT (cpT sg tX_1 kX_15) tX_1) 6))])), (a1, .inl (G.2.1, 8, .inl (arN zZ_108))), (a2, .inl (G.2.1, 640, .inl (arN cC_108)))] H := hP
          have hD : va_D (zIn [(a0, .inr (1, [.ref a1, .ref a2, .int (nI (sg 0)), .int (nI (sg 1)), .int (nI (sg 7)), .int (nI (sg 8)), .int (nI (sg 9)), .int (nI (sg 2)), .int (nI (sg 3)), .int (nI (sg 4)), .int (nI (sg 5)), .int (nI (sg 6))])), (a1, .inl (G.2.1, 8, .inl (arN sz))), (a2, .inl (G.2.1, 640, .inl (arN sc)))]) [(a0, .inr (1, [.ref a1, .ref a2, .int (nI ((rdT (cpT sg tX_1 kX_15) tX_1) 0)), .int (nI ((rdT (cpT sg tX_1 kX_15) tX_1) 1)), .int (nI ((rdT (cpT sg tX_1 kX_15) tX_1) 7)), .int (nI ((rdT (cpT sg tX_1 kX_15) tX_1) 8)), .int (nI ((rdT (cpT sg tX_1 kX_15) tX_1) 9)), .int (nI ((rdT (cpT sg tX_1 kX_15) tX_1) 2)), .int (nI ((rdT (cpT sg tX_1 kX_15) tX_1) 3)), .int (nI ((rdT (cpT sg tX_1 kX_15) tX_1) 4)), .int (nI ((rdT (cpT sg tX_1 kX_15) tX_1) 5)), .int (nI ((rdT (cpT sg tX_1 kX_15) tX_1) 6))])), (a1, .inl (G.2.1, 8, .inl (arN zZ_108))), (a2, .inl (G.2.1, 640, .inl (arN cC_108)))] := hD
          have et : rdT (cpT sg tX_1 kX_15) tX_1 = tcT sg tX_1 kX_15 := (if_pos h108_0).symm
          rw [et] at hP hD h108_1 h108_2
          refine lv_pop hx hb dX1_touchCaption_111 rfl ?_
          refine lv_aload_n hx hb dX1_touchCaption_112 rfl (lv_at hl 4 rfl) ?_
          refine va_get (D := G.1) (ci := 1) (v := .int (nI (tcT sg tX_1 kX_15 6))) (C := RX1) (T := TX1) (N := 12) hx hb hts mic_touchCaption_1 hown hK hP 0 rfl rfl 11 (by decide) (hts _ mwc_touchCaption_3) (fun _ h9 => h9) rfl dX1_touchCaption_113 ?_
          refine lv_iload hx hb dX1_touchCaption_116 (lv_at hl 0 rfl) ?_
          refine lv_iconst (v := (-1)) hx hb dX1_touchCaption_118 (by decide) ?_
          refine lv_ixor hx hb dX1_touchCaption_119 ?_
          refine lv_iand hx hb dX1_touchCaption_120 ?_
          refine zk_top (y := andN (tcT sg tX_1 kX_15 6) (sg 6)) rfl ?_
          refine zc_S (As := [.int (andN (tcT sg tX_1 kX_15 6) (sg 6))]) (rest := []) ⟨hx, hb, hml, hown, hts⟩ (c_bitSub l (tcT sg tX_1 kX_15 6) (sg 6) h108_2.1.2.2.2.2.2 sup_tcT) (va_cwS 1 hts gX1_touchCaption_J6_bitCount_0f7a4 rfl rfl rfl (by decide +kernel) ⟨Nat.le_of_ble_eq_true rfl, Nat.le_of_ble_eq_true rfl⟩) rfl hl.1 rfl (Nat.le_of_ble_eq_true rfl) dX1_touchCaption_121 ⟨Nat.zero_le _, Nat.zero_le _⟩ (fun r121 h121 => ?_)
          subst h121
          exact W.iret (v := nI (bitsN (tcT sg tX_1 kX_15 6) 16) - nI (bitsN (sg 6) 16)) hx hb hr (fun tT ht hW => ⟨⟨_, (tcT sg tX_1 kX_15, zZ_108, cC_108), rfl, Or.inr (Or.inr (Or.inr ⟨tX_1, kX_15, _, _, h1_0, h15_0, rfl, by omega, h108_1, h108_2, rfl, rfl⟩)), by show va_P G.1 vwCl _ tT.heap; rw [ht]; exact hP⟩, hS.F ht⟩) hS.2.2 dX1_touchCaption_124
      · refine lv_bipush (v := (-5)) hx hb dX1_touchCaption_48 (by decide) ?_
        exact W.iret (v := (-5)) hx hb hr (fun tT ht hW => ⟨⟨_, (sg, sz, sc), rfl, Or.inr (Or.inr (Or.inl ⟨tX_1, kX_15, h1_0, h15_0, rfl, by omega, rfl, rfl⟩)), by show va_P G.1 vwCl _ tT.heap; rw [ht]; exact hP⟩, hS.F ht⟩) hS.2.2 dX1_touchCaption_50
    · refine lv_istore_n (lv' := [(3, .int (-1)), (2, .int (nI ((sg 0 * 5 + tX_1) * 16))), (0, .ref a0), (1, .int y)]) hx hb dX1_touchCaption_18 rfl hl (by decide) rfl (fun ls hl => ?_)
      refine lv_iload_n hx hb dX1_touchCaption_19 rfl (lv_at hl 0 rfl) ?_
      refine lv_if_ge (tgt := 25) hx hb dX1_touchCaption_20 (by decide) (fun q => absurd q (by decide)) (fun _ => ?_)
      refine lv_iconst (v := (-1)) hx hb dX1_touchCaption_23 (by decide) ?_
      exact W.iret (v := (-1)) hx hb hr (fun tT ht hW => ⟨⟨_, (sg, sz, sc), rfl, Or.inr (Or.inl ⟨tX_1, h1_0, h15_0, rfl, rfl⟩), by show va_P G.1 vwCl _ tT.heap; rw [ht]; exact hP⟩, hS.F ht⟩) hS.2.2 dX1_touchCaption_24
set_option maxRecDepth 100000 in
theorem mwc_readUntouched_0 : Cond.fieldLink RX1 15 "ExhibitTexts$State" "cells" "[I" ∈ wsX1_readUntouched := by decide +kernel
set_option maxRecDepth 100000 in
theorem mic_readUntouched_1 : ∀ w ∈ u_ws RX1 TX1 12, w ∈ wsX1_readUntouched := by decide +kernel
set_option maxRecDepth 100000 in
theorem mwc_readUntouched_2 : Cond.fieldLink RX1 53 "ExhibitTexts$State" "learned" "I" ∈ wsX1_readUntouched := by decide +kernel
set_option maxHeartbeats 4000000 in
set_option maxRecDepth 100000 in
/-- X1_readUntouched: a text without captions is read -/
theorem c_readUntouched (l : Launch) (G : zG) (a0 : Nat) (a1 : Nat) (a2 : Nat) (sz : Nat → Nat) (sc : Nat → Nat) (sg : Nat → Nat) (hM : mOK sg) (hR : sRel sz sc sg) : Met l yX1_readUntouched wsX1_readUntouched ({ frames := 4, cells := 0, slots := 0, locals := 93 } : Room) (zPc G [.ref a0] [(a0, .inr (1, [.ref a1, .ref a2, .int (nI (sg 0)), .int (nI (sg 1)), .int (nI (sg 7)), .int (nI (sg 8)), .int (nI (sg 9)), .int (nI (sg 2)), .int (nI (sg 3)), .int (nI (sg 4)), .int (nI (sg 5)), .int (nI (sg 6))])), (a1, .inl (G.2.1, 8, .inl (arN sz))), (a2, .inl (G.2.1, 640, .inl (arN sc)))]) (va_Qi (fun (rR : Int32) (uU : (Nat → Nat) × (Nat → Nat) × (Nat → Nat)) => (sN sg = none ∧ rR = (-4) ∧ uU = (sg, sz, sc)) ∨ (∃ (tX : Nat), sN sg = some tX ∧ 0 < sg (11 + 76 * sg 0 + 15 * tX + 5) ∧ rR = (-4) ∧ uU = (sg, sz, sc)) ∨ (∃ (tX : Nat), sN sg = some tX ∧ sg (11 + 76 * sg 0 + 15 * tX + 5) = 0 ∧ ¬ canR sg tX ∧ rR = (-5) ∧ uU = (sg, sz, sc)) ∨ (∃ (tX : Nat) (zZ : Nat → Nat) (cC : Nat → Nat), sN sg = some tX ∧ sg (11 + 76 * sg 0 + 15 * tX + 5) = 0 ∧ canR sg tX ∧ sRel zZ cC (rdT sg tX) ∧ mOK (rdT sg tX) ∧ rR = nI (bitsN (rdT sg tX 6) 16) - nI (bitsN (sg 6) 16) ∧ uU = (rdT sg tX, zZ, cC))) (fun uU tT => va_P G.1 vwCl ((fun (uU : (Nat → Nat) × (Nat → Nat) × (Nat → Nat)) => ([(a0, .inr (1, [.ref a1, .ref a2, .int (nI (uU.1 0)), .int (nI (uU.1 1)), .int (nI (uU.1 7)), .int (nI (uU.1 8)), .int (nI (uU.1 9)), .int (nI (uU.1 2)), .int (nI (uU.1 3)), .int (nI (uU.1 4)), .int (nI (uU.1 5)), .int (nI (uU.1 6))])), (a1, .inl (G.2.1, 8, .inl (arN uU.2.1))), (a2, .inl (G.2.1, 640, .inl (arN uU.2.2)))] : va_W)) uU) tT.heap) (zIn [(a0, .inr (1, [.ref a1, .ref a2, .int (nI (sg 0)), .int (nI (sg 1)), .int (nI (sg 7)), .int (nI (sg 8)), .int (nI (sg 9)), .int (nI (sg 2)), .int (nI (sg 3)), .int (nI (sg 4)), .int (nI (sg 5)), .int (nI (sg 6))])), (a1, .inl (G.2.1, 8, .inl (arN sz))), (a2, .inl (G.2.1, 640, .inl (arN sc)))])) 0 0 (zIn [(a0, .inr (1, [.ref a1, .ref a2, .int (nI (sg 0)), .int (nI (sg 1)), .int (nI (sg 7)), .int (nI (sg 8)), .int (nI (sg 9)), .int (nI (sg 2)), .int (nI (sg 3)), .int (nI (sg 4)), .int (nI (sg 5)), .int (nI (sg 6))])), (a1, .inl (G.2.1, 8, .inl (arN sz))), (a2, .inl (G.2.1, 640, .inl (arN sc)))]) := by
  refine zM (cc := cX1_readUntouched) (maxL := 3) (ret := (some .int)) (by decide) rfl (Nat.le_of_ble_eq_true rfl) ?_
  intro pP eE sS mM below meth cC hx hb hr hts hown hlk hml hnm hK hN hP hD hS ls hl
  have hl : lv_has ls 3 [(0, .ref a0)] := hl
  refine lv_aload_n hx hb dX1_readUntouched_0 rfl (lv_at hl 0 rfl) ?_
  refine zc_R (As := []) (rest := []) ⟨hx, hb, hml, hown, hts⟩ (c_shownRow l G a0 a1 a2 sz sc sg (by omega) (by omega)) (cwV 0 hts gX1_readUntouched_X1_shownRow rfl rfl rfl (by decide +kernel) ⟨Nat.le_of_ble_eq_true rfl, Nat.le_of_ble_eq_true rfl⟩) hK hN hP hD [0, 1, 2] rfl (by decide) (ci := 1) rfl rfl rfl hl.1 rfl (Nat.le_of_ble_eq_true rfl) dX1_readUntouched_1 ⟨Nat.zero_le _, Nat.zero_le _⟩ (fun r1 h1 => ?_)
  rcases h1 with ⟨h1_0, rfl⟩ | ⟨tX_1, h1_0, rfl⟩
  · refine lv_istore_n (lv' := [(1, .int (-5)), (0, .ref a0)]) hx hb dX1_readUntouched_4 rfl hl (by decide) rfl (fun ls hl => ?_)
    refine lv_iload_n hx hb dX1_readUntouched_5 rfl (lv_at hl 0 rfl) ?_
    refine lv_if_lt (tgt := 20) hx hb dX1_readUntouched_6 (by decide) (fun _ => ?_) (fun q => absurd (by decide) q)
    refine lv_bipush (v := (-4)) hx hb dX1_readUntouched_20 (by decide) ?_
    exact W.iret (v := (-4)) hx hb hr (fun tT ht hW => ⟨⟨_, (sg, sz, sc), rfl, Or.inl ⟨h1_0, rfl, rfl⟩, by show va_P G.1 vwCl _ tT.heap; rw [ht]; exact hP⟩, hS.F ht⟩) hS.2.2 dX1_readUntouched_22
  · have h00 := hM.1.1
    have hz5 := hM.2.1 _ h00
    have hsn := sN_some hM h1_0
    have hTX := hM.2.2 _ tX_1 h00 hsn.2
    have hw3 := hTX.1.2
    have hp3 := hM.1.2.2.2.1 hsn.1
    have hf3 := hTX.2.2.2.1
    have h6 := hM.1.2.2.2.2.2
    have hq5 := hM.1.2.2.2.2.1
    have hc3 := hTX.2.2.2.2.1
    have hsl0 := secs_le hw3 hp3.2.1
    refine lv_istore_n (lv' := [(1, .int (nI ((sg 0 * 5 + tX_1) * 16))), (0, .ref a0)]) hx hb dX1_readUntouched_4 rfl hl (by decide) rfl (fun ls hl => ?_)
    refine lv_iload_n hx hb dX1_readUntouched_5 rfl (lv_at hl 0 rfl) ?_
    refine zk_zlt (tgt := 20) hx hb dX1_readUntouched_6 (by decide) (by omega) ?_
    refine lv_aload_n hx hb dX1_readUntouched_9 rfl (lv_at hl 1 rfl) ?_
    refine va_get (D := G.1) (ci := 1) (v := .ref a2) (C := RX1) (T := TX1) (N := 12) hx hb hts mic_readUntouched_1 hown hK hP 0 rfl rfl 1 (by decide) (hts _ mwc_readUntouched_0) (fun _ h9 => h9) rfl dX1_readUntouched_10 ?_
    refine lv_iload_n hx hb dX1_readUntouched_13 rfl (lv_at hl 0 rfl) ?_
    refine lv_iconst (v := nI 5) hx hb dX1_readUntouched_14 (by decide) ?_
    refine zk_add hx hb dX1_readUntouched_15 ?_
    refine zk_ald (f := sc) (k := ((sg 0 * 5 + tX_1) * 16) + 5) hx hb hK hP 2 0 rfl rfl (Nat.le_of_ble_eq_true rfl) (by omega) dX1_readUntouched_16 ?_
    refine zk_top (y := nI (sg (11 + 76 * sg 0 + 15 * tX_1 + 5))) (congrArg nI (hR.2 (sg 0) tX_1 h00 hsn.2).2.2.2.2.2.1) ?_
    refine zk_zle (tgt := 23) hx hb dX1_readUntouched_17 (by decide) (by omega) (fun c17 => ?_) (fun c17 => ?_)
    · refine lv_aload_n hx hb dX1_readUntouched_23 rfl (lv_at hl 1 rfl) ?_
      refine va_get (D := G.1) (ci := 1) (v := .int (nI (sg 6))) (C := RX1) (T := TX1) (N := 12) hx hb hts mic_readUntouched_1 hown hK hP 0 rfl rfl 11 (by decide) (hts _ mwc_readUntouched_2) (fun _ h9 => h9) rfl dX1_readUntouched_24 ?_
      refine lv_istore_n (lv' := [(2, .int (nI (sg 6))), (1, .int (nI ((sg 0 * 5 + tX_1) * 16))), (0, .ref a0)]) hx hb dX1_readUntouched_27 rfl hl (by decide) rfl (fun ls hl => ?_)
      refine lv_aload_n hx hb dX1_readUntouched_28 rfl (lv_at hl 2 rfl) ?_
      refine zc_V (As := []) (rest := []) (ws2 := (fun (uU : (Nat → Nat) × (Nat → Nat) × (Nat → Nat)) => ([(a0, .inr (1, [.ref a1, .ref a2, .int (nI (uU.1 0)), .int (nI (uU.1 1)), .int (nI (uU.1 7)), .int (nI (uU.1 8)), .int (nI (uU.1 9)), .int (nI (uU.1 2)), .int (nI (uU.1 3)), .int (nI (uU.1 4)), .int (nI (uU.1 5)), .int (nI (uU.1 6))])), (a1, .inl (G.2.1, 8, .inl (arN uU.2.1))), (a2, .inl (G.2.1, 640, .inl (arN uU.2.2)))] : va_W))) ⟨hx, hb, hml, hown, hts⟩ (c_readShown_t l G a0 a1 a2 sz sc sg tX_1 (by omega) (by omega) h1_0) (cwV 0 hts gX1_readUntouched_X1_readShown rfl rfl rfl (by decide +kernel) ⟨Nat.le_of_ble_eq_true rfl, Nat.le_of_ble_eq_true rfl⟩) hK hN hP hD hS [0, 1, 2] rfl (by decide) (ci := 1) rfl rfl (fun _ => rfl) (fun _ => rfl) rfl hl.1 rfl (Nat.le_of_ble_eq_true rfl) dX1_readUntouched_29 ⟨Nat.zero_le _, Nat.zero_le _⟩ (fun r29 u29 H locs h29 hP hD hS => ?_)
      rcases h29 with ⟨h29_0, rfl, rfl⟩ | ⟨zZ_29, cC_29, h29_0, h29_1, h29_2, rfl, rfl⟩
      · have hP : va_P G.1 vwCl [(a0, .inr (1, [.ref a1, .ref a2, .int (nI (sg 0)), .int (nI (sg 1)), .int (nI (sg 7)), .int (nI (sg 8)), .int (nI (sg 9)), .int (nI (sg 2)), .int (nI (sg 3)), .int (nI (sg 4)), .int (nI (sg 5)), .int (nI (sg 6))])), (a1, .inl (G.2.1, 8, .inl (arN sz))), (a2, .inl (G.2.1, 640, .inl (arN sc)))] H := hP
        have hD : va_D (zIn [(a0, .inr (1, [.ref a1, .ref a2, .int (nI (sg 0)), .int (nI (sg 1)), .int (nI (sg 7)), .int (nI (sg 8)), .int (nI (sg 9)), .int (nI (sg 2)), .int (nI (sg 3)), .int (nI (sg 4)), .int (nI (sg 5)), .int (nI (sg 6))])), (a1, .inl (G.2.1, 8, .inl (arN sz))), (a2, .inl (G.2.1, 640, .inl (arN sc)))]) [(a0, .inr (1, [.ref a1, .ref a2, .int (nI (sg 0)), .int (nI (sg 1)), .int (nI (sg 7)), .int (nI (sg 8)), .int (nI (sg 9)), .int (nI (sg 2)), .int (nI (sg 3)), .int (nI (sg 4)), .int (nI (sg 5)), .int (nI (sg 6))])), (a1, .inl (G.2.1, 8, .inl (arN sz))), (a2, .inl (G.2.1, 640, .inl (arN sc)))] := hD
        refine lv_if_ne (tgt := 38) hx hb dX1_readUntouched_32 (by decide) (fun q => absurd (by decide) q) (fun _ => ?_)
        refine lv_bipush (v := (-5)) hx hb dX1_readUntouched_35 (by decide) ?_
        exact W.iret (v := (-5)) hx hb hr (fun tT ht hW => ⟨⟨_, (sg, sz, sc), rfl, Or.inr (Or.inr (Or.inl ⟨tX_1, h1_0, by omega, h29_0, rfl, rfl⟩)), by show va_P G.1 vwCl _ tT.heap; rw [ht]; exact hP⟩, hS.F ht⟩) hS.2.2 dX1_readUntouched_37
      · have hP : va_P G.1 vwCl [(a0, .inr (1, [.ref a1, .ref a2, .int (nI ((rdT sg tX_1) 0)), .int (nI ((rdT sg tX_1) 1)), .int (nI ((rdT sg tX_1) 7)), .int (nI ((rdT sg tX_1) 8)), .int (nI ((rdT sg tX_1) 9)), .int (nI ((rdT sg tX_1) 2)), .int (nI ((rdT sg tX_1) 3)), .int (nI ((rdT sg tX_1) 4)), .int (nI ((rdT sg tX_1) 5)), .int (nI ((rdT sg tX_1) 6))])), (a1, .inl (G.2.1, 8, .inl (arN zZ_29))), (a2, .inl (G.2.1, 640, .inl (arN cC_29)))] H := hP
        have hD : va_D (zIn [(a0, .inr (1, [.ref a1, .ref a2, .int (nI (sg 0)), .int (nI (sg 1)), .int (nI (sg 7)), .int (nI (sg 8)), .int (nI (sg 9)), .int (nI (sg 2)), .int (nI (sg 3)), .int (nI (sg 4)), .int (nI (sg 5)), .int (nI (sg 6))])), (a1, .inl (G.2.1, 8, .inl (arN sz))), (a2, .inl (G.2.1, 640, .inl (arN sc)))]) [(a0, .inr (1, [.ref a1, .ref a2, .int (nI ((rdT sg tX_1) 0)), .int (nI ((rdT sg tX_1) 1)), .int (nI ((rdT sg tX_1) 7)), .int (nI ((rdT sg tX_1) 8)), .int (nI ((rdT sg tX_1) 9)), .int (nI ((rdT sg tX_1) 2)), .int (nI ((rdT sg tX_1) 3)), .int (nI ((rdT sg tX_1) 4)), .int (nI ((rdT sg tX_1) 5)), .int (nI ((rdT sg tX_1) 6))])), (a1, .inl (G.2.1, 8, .inl (arN zZ_29))), (a2, .inl (G.2.1, 640, .inl (arN cC_29)))] := hD
        refine lv_if_ne (tgt := 38) hx hb dX1_readUntouched_32 (by decide) (fun _ => ?_) (fun q => absurd q (by decide))
        refine lv_aload_n hx hb dX1_readUntouched_38 rfl (lv_at hl 2 rfl) ?_
        refine va_get (D := G.1) (ci := 1) (v := .int (nI ((rdT sg tX_1) 6))) (C := RX1) (T := TX1) (N := 12) hx hb hts mic_readUntouched_1 hown hK hP 0 rfl rfl 11 (by decide) (hts _ mwc_readUntouched_2) (fun _ h9 => h9) rfl dX1_readUntouched_39 ?_
        refine lv_iload_n hx hb dX1_readUntouched_42 rfl (lv_at hl 0 rfl) ?_
        refine lv_iconst (v := (-1)) hx hb dX1_readUntouched_43 (by decide) ?_
        refine lv_ixor hx hb dX1_readUntouched_44 ?_
        refine lv_iand hx hb dX1_readUntouched_45 ?_
        refine zk_top (y := andN (rdT sg tX_1 6) (sg 6)) rfl ?_
        refine zc_S (As := [.int (andN (rdT sg tX_1 6) (sg 6))]) (rest := []) ⟨hx, hb, hml, hown, hts⟩ (c_bitSub l (rdT sg tX_1 6) (sg 6) h29_2.1.2.2.2.2.2 sup_rdT) (va_cwS 1 hts gX1_readUntouched_J6_bitCount_0f7a4 rfl rfl rfl (by decide +kernel) ⟨Nat.le_of_ble_eq_true rfl, Nat.le_of_ble_eq_true rfl⟩) rfl hl.1 rfl (Nat.le_of_ble_eq_true rfl) dX1_readUntouched_46 ⟨Nat.zero_le _, Nat.zero_le _⟩ (fun r46 h46 => ?_)
        subst h46
        exact W.iret (v := nI (bitsN (rdT sg tX_1 6) 16) - nI (bitsN (sg 6) 16)) hx hb hr (fun tT ht hW => ⟨⟨_, (rdT sg tX_1, zZ_29, cC_29), rfl, Or.inr (Or.inr (Or.inr ⟨tX_1, _, _, h1_0, by omega, h29_0, h29_1, h29_2, rfl, rfl⟩)), by show va_P G.1 vwCl _ tT.heap; rw [ht]; exact hP⟩, hS.F ht⟩) hS.2.2 dX1_readUntouched_49
    · refine lv_bipush (v := (-4)) hx hb dX1_readUntouched_20 (by decide) ?_
      exact W.iret (v := (-4)) hx hb hr (fun tT ht hW => ⟨⟨_, (sg, sz, sc), rfl, Or.inr (Or.inl ⟨tX_1, h1_0, by omega, rfl, rfl⟩), by show va_P G.1 vwCl _ tT.heap; rw [ht]; exact hP⟩, hS.F ht⟩) hS.2.2 dX1_readUntouched_22
set_option maxRecDepth 100000 in
theorem mwc_turnRing1_0 : Cond.fieldLink RX1 28 "ExhibitTexts$State" "standsAt" "I" ∈ wsX1_turnRing := by decide +kernel
set_option maxRecDepth 100000 in
theorem mic_turnRing1_1 : ∀ w ∈ u_ws RX1 TX1 12, w ∈ wsX1_turnRing := by decide +kernel
set_option maxRecDepth 100000 in
theorem mwc_turnRing1_2 : Cond.fieldLink RX1 50 "ExhibitTexts$State" "seconds" "I" ∈ wsX1_turnRing := by decide +kernel
set_option maxRecDepth 100000 in
theorem mwc_turnRing1_3 : Cond.fieldLink RX1 18 "ExhibitTexts$State" "turning" "I" ∈ wsX1_turnRing := by decide +kernel
set_option maxRecDepth 100000 in
theorem mwc_turnRing1_4 : Cond.methodLink RX1 103 Lib.Math.max.name ∈ wsX1_turnRing := by decide +kernel
set_option maxRecDepth 100000 in
theorem mwc_turnRing1_5 : Cond.static Lib.Math.max.name ∈ wsX1_turnRing := by decide +kernel
set_option maxRecDepth 100000 in
theorem mwc_turnRing1_6 : Cond.initialized "java/lang/Math" ∈ wsX1_turnRing := by decide +kernel
set_option maxRecDepth 100000 in
theorem mwc_turnRing1_7 : Cond.code Lib.Math.max.name Lib.Math.max.code 2 (some .int) ∈ wsX1_turnRing := by decide +kernel
set_option maxHeartbeats 4000000 in
set_option maxRecDepth 100000 in
/-- X1_turnRing: the carousel turns -/
theorem c_turnRing1 (l : Launch) (G : zG) (a0 : Nat) (a1 : Nat) (a2 : Nat) (sz : Nat → Nat) (sc : Nat → Nat) (sg : Nat → Nat) (hM : mOK sg) (hR : sRel sz sc sg) : Met l yX1_turnRing wsX1_turnRing ({ frames := 1, cells := 0, slots := 0, locals := 22 } : Room) (zPc G [.ref a0, .int (nI 1)] [(a0, .inr (1, [.ref a1, .ref a2, .int (nI (sg 0)), .int (nI (sg 1)), .int (nI (sg 7)), .int (nI (sg 8)), .int (nI (sg 9)), .int (nI (sg 2)), .int (nI (sg 3)), .int (nI (sg 4)), .int (nI (sg 5)), .int (nI (sg 6))])), (a1, .inl (G.2.1, 8, .inl (arN sz))), (a2, .inl (G.2.1, 640, .inl (arN sc)))]) (va_Qi (fun (rR : Int32) (uU : (Nat → Nat) × (Nat → Nat) × (Nat → Nat)) => ∃ (zZ : Nat → Nat) (cC : Nat → Nat), sRel zZ cC (tuT sg 1) ∧ mOK (tuT sg 1) ∧ rR = nI ((sg 0 + 1) % 8) ∧ uU = (tuT sg 1, zZ, cC)) (fun uU tT => va_P G.1 vwCl ((fun (uU : (Nat → Nat) × (Nat → Nat) × (Nat → Nat)) => ([(a0, .inr (1, [.ref a1, .ref a2, .int (nI (uU.1 0)), .int (nI (uU.1 1)), .int (nI (uU.1 7)), .int (nI (uU.1 8)), .int (nI (uU.1 9)), .int (nI (uU.1 2)), .int (nI (uU.1 3)), .int (nI (uU.1 4)), .int (nI (uU.1 5)), .int (nI (uU.1 6))])), (a1, .inl (G.2.1, 8, .inl (arN uU.2.1))), (a2, .inl (G.2.1, 640, .inl (arN uU.2.2)))] : va_W)) uU) tT.heap) (zIn [(a0, .inr (1, [.ref a1, .ref a2, .int (nI (sg 0)), .int (nI (sg 1)), .int (nI (sg 7)), .int (nI (sg 8)), .int (nI (sg 9)), .int (nI (sg 2)), .int (nI (sg 3)), .int (nI (sg 4)), .int (nI (sg 5)), .int (nI (sg 6))])), (a1, .inl (G.2.1, 8, .inl (arN sz))), (a2, .inl (G.2.1, 640, .inl (arN sc)))])) 0 0 (zIn [(a0, .inr (1, [.ref a1, .ref a2, .int (nI (sg 0)), .int (nI (sg 1)), .int (nI (sg 7)), .int (nI (sg 8)), .int (nI (sg 9)), .int (nI (sg 2)), .int (nI (sg 3)), .int (nI (sg 4)), .int (nI (sg 5)), .int (nI (sg 6))])), (a1, .inl (G.2.1, 8, .inl (arN sz))), (a2, .inl (G.2.1, 640, .inl (arN sc)))]) := by
  refine zM (cc := cX1_turnRing) (maxL := 2) (ret := (some .int)) (by decide) rfl (Nat.le_of_ble_eq_true rfl) ?_
  intro pP eE sS mM below meth cC hx hb hr hts hown hlk hml hnm hK hN hP hD hS ls hl
  have hl : lv_has ls 2 [(0, .ref a0), (1, .int (nI 1))] := hl
  have h0 := hM.1.1
  have h1 := hM.1.2.1
  have h5 := hM.1.2.2.2.2.1
  refine lv_aload_n hx hb dX1_turnRing_0 rfl (lv_at hl 0 rfl) ?_
  refine lv_iload_n hx hb dX1_turnRing_1 rfl (lv_at hl 1 rfl) ?_
  refine lv_if_eq (tgt := 14) hx hb dX1_turnRing_2 (by decide) (fun q => absurd q (by decide)) (fun _ => ?_)
  refine lv_aload_n hx hb dX1_turnRing_5 rfl (lv_at hl 0 rfl) ?_
  refine va_get (D := G.1) (ci := 1) (v := .int (nI (sg 0))) (C := RX1) (T := TX1) (N := 12) hx hb hts mic_turnRing1_1 hown hK hP 0 rfl rfl 2 (by decide) (hts _ mwc_turnRing1_0) (fun _ h9 => h9) rfl dX1_turnRing_6 ?_
  refine lv_iconst (v := nI 1) hx hb dX1_turnRing_9 (by decide) ?_
  refine zk_add hx hb dX1_turnRing_10 ?_
  refine lv_goto (tgt := 20) hx hb dX1_turnRing_11 (by decide) ?_
  refine lv_bipush (v := nI 8) hx hb dX1_turnRing_20 (by decide) ?_
  refine zc_S (As := [.int (nI ((sg 0) + 1)), .int (nI 8)]) (rest := [.ref a0]) ⟨hx, hb, hml, hown, hts⟩ (c_floorMod l ((sg 0) + 1) (by omega)) (va_cwS 2 hts gX1_turnRing_J9_floorMod_7cf53 rfl rfl rfl (by decide +kernel) ⟨Nat.le_of_ble_eq_true rfl, Nat.le_of_ble_eq_true rfl⟩) rfl hl.1 rfl (Nat.le_of_ble_eq_true rfl) dX1_turnRing_22 ⟨Nat.zero_le _, Nat.zero_le _⟩ (fun r22 h22 => ?_)
  subst h22
  refine zk_put (D := G.1) (ci := 1) (v := .int (nI (((sg 0) + 1) % 8))) (ty := .int) (C := RX1) (T := TX1) (N := 12) (ws2 := [(a0, .inr (1, [.ref a1, .ref a2, .int (nI (((sg 0) + 1) % 8)), .int (nI (sg 1)), .int (nI (sg 7)), .int (nI (sg 8)), .int (nI (sg 9)), .int (nI (sg 2)), .int (nI (sg 3)), .int (nI (sg 4)), .int (nI (sg 5)), .int (nI (sg 6))])), (a1, .inl (G.2.1, 8, .inl (arN sz))), (a2, .inl (G.2.1, 640, .inl (arN sc)))]) hx hb hts mic_turnRing1_1 tyX1 tyX1_ok nmX1 hown hK hP hD hS 0 rfl rfl 2 (by decide) (hts _ mwc_turnRing1_0) (fun _ h9 => h9) rfl (by decide +kernel) rfl rfl (Nat.le_of_ble_eq_true rfl) rfl dX1_turnRing_25 (fun H locs hP hD hS => ?_)
  refine lv_aload_n hx hb dX1_turnRing_28 rfl (lv_at hl 0 rfl) ?_
  refine lv_aload_n hx hb dX1_turnRing_29 rfl (lv_at hl 0 rfl) ?_
  refine va_get (D := G.1) (ci := 1) (v := .int (nI (sg 5))) (C := RX1) (T := TX1) (N := 12) hx hb hts mic_turnRing1_1 hown hK hP 0 rfl rfl 10 (by decide) (hts _ mwc_turnRing1_2) (fun _ h9 => h9) rfl dX1_turnRing_30 ?_
  refine lv_aload_n hx hb dX1_turnRing_33 rfl (lv_at hl 0 rfl) ?_
  refine va_get (D := G.1) (ci := 1) (v := .int (nI (sg 1))) (C := RX1) (T := TX1) (N := 12) hx hb hts mic_turnRing1_1 hown hK hP 0 rfl rfl 3 (by decide) (hts _ mwc_turnRing1_3) (fun _ h9 => h9) rfl dX1_turnRing_34 ?_
  refine lv_isub hx hb dX1_turnRing_37 ?_
  refine lv_iconst (v := nI 0) hx hb dX1_turnRing_38 (by decide) ?_
  refine va_mmax hx hb (hml.trans hl.1.symm) hown (hts _ mwc_turnRing1_4) (hts _ mwc_turnRing1_5) (hts _ mwc_turnRing1_6) (hts _ mwc_turnRing1_7) (Nat.le_of_ble_eq_true rfl) (Nat.le_of_ble_eq_true rfl) (Nat.zero_le _) (Nat.zero_le _) dX1_turnRing_39 ?_
  refine zk_top (y := nI (sg 5 - sg 1)) (mx_sub (by omega) (by omega)) ?_
  refine zk_put (D := G.1) (ci := 1) (v := .int (nI (sg 5 - sg 1))) (ty := .int) (C := RX1) (T := TX1) (N := 12) (ws2 := [(a0, .inr (1, [.ref a1, .ref a2, .int (nI (((sg 0) + 1) % 8)), .int (nI (sg 1)), .int (nI (sg 7)), .int (nI (sg 8)), .int (nI (sg 9)), .int (nI (sg 2)), .int (nI (sg 3)), .int (nI (sg 4)), .int (nI (sg 5 - sg 1)), .int (nI (sg 6))])), (a1, .inl (G.2.1, 8, .inl (arN sz))), (a2, .inl (G.2.1, 640, .inl (arN sc)))]) hx hb hts mic_turnRing1_1 tyX1 tyX1_ok nmX1 hown hK hP hD hS 0 rfl rfl 10 (by decide) (hts _ mwc_turnRing1_2) (fun _ h9 => h9) rfl (by decide +kernel) rfl rfl (Nat.le_of_ble_eq_true rfl) rfl dX1_turnRing_42 (fun H locs hP hD hS => ?_)
  refine lv_aload_n hx hb dX1_turnRing_45 rfl (lv_at hl 0 rfl) ?_
  refine va_get (D := G.1) (ci := 1) (v := .int (nI (((sg 0) + 1) % 8))) (C := RX1) (T := TX1) (N := 12) hx hb hts mic_turnRing1_1 hown hK hP 0 rfl rfl 2 (by decide) (hts _ mwc_turnRing1_0) (fun _ h9 => h9) rfl dX1_turnRing_46 ?_
  exact W.iret (v := nI (((sg 0) + 1) % 8)) hx hb hr (fun tT ht hW => ⟨⟨_, (tuT sg 1, sz, sc), rfl, ⟨_, _, rel_tuT hR, mOK_tuT hM, rfl, rfl⟩, by show va_P G.1 vwCl _ tT.heap; rw [ht]; exact hP⟩, hS.F ht⟩) hS.2.2 dX1_turnRing_49
set_option maxRecDepth 100000 in
theorem mwc_turnRing0_0 : Cond.fieldLink RX1 28 "ExhibitTexts$State" "standsAt" "I" ∈ wsX1_turnRing := by decide +kernel
set_option maxRecDepth 100000 in
theorem mic_turnRing0_1 : ∀ w ∈ u_ws RX1 TX1 12, w ∈ wsX1_turnRing := by decide +kernel
set_option maxRecDepth 100000 in
theorem mwc_turnRing0_2 : Cond.fieldLink RX1 50 "ExhibitTexts$State" "seconds" "I" ∈ wsX1_turnRing := by decide +kernel
set_option maxRecDepth 100000 in
theorem mwc_turnRing0_3 : Cond.fieldLink RX1 18 "ExhibitTexts$State" "turning" "I" ∈ wsX1_turnRing := by decide +kernel
set_option maxRecDepth 100000 in
theorem mwc_turnRing0_4 : Cond.methodLink RX1 103 Lib.Math.max.name ∈ wsX1_turnRing := by decide +kernel
set_option maxRecDepth 100000 in
theorem mwc_turnRing0_5 : Cond.static Lib.Math.max.name ∈ wsX1_turnRing := by decide +kernel
set_option maxRecDepth 100000 in
theorem mwc_turnRing0_6 : Cond.initialized "java/lang/Math" ∈ wsX1_turnRing := by decide +kernel
set_option maxRecDepth 100000 in
theorem mwc_turnRing0_7 : Cond.code Lib.Math.max.name Lib.Math.max.code 2 (some .int) ∈ wsX1_turnRing := by decide +kernel
set_option maxHeartbeats 4000000 in
set_option maxRecDepth 100000 in
/-- X1_turnRing: the carousel turns -/
theorem c_turnRing0 (l : Launch) (G : zG) (a0 : Nat) (a1 : Nat) (a2 : Nat) (sz : Nat → Nat) (sc : Nat → Nat) (sg : Nat → Nat) (hM : mOK sg) (hR : sRel sz sc sg) : Met l yX1_turnRing wsX1_turnRing ({ frames := 1, cells := 0, slots := 0, locals := 22 } : Room) (zPc G [.ref a0, .int (nI 0)] [(a0, .inr (1, [.ref a1, .ref a2, .int (nI (sg 0)), .int (nI (sg 1)), .int (nI (sg 7)), .int (nI (sg 8)), .int (nI (sg 9)), .int (nI (sg 2)), .int (nI (sg 3)), .int (nI (sg 4)), .int (nI (sg 5)), .int (nI (sg 6))])), (a1, .inl (G.2.1, 8, .inl (arN sz))), (a2, .inl (G.2.1, 640, .inl (arN sc)))]) (va_Qi (fun (rR : Int32) (uU : (Nat → Nat) × (Nat → Nat) × (Nat → Nat)) => ∃ (zZ : Nat → Nat) (cC : Nat → Nat), sRel zZ cC (tuT sg 7) ∧ mOK (tuT sg 7) ∧ rR = nI ((sg 0 + 7) % 8) ∧ uU = (tuT sg 7, zZ, cC)) (fun uU tT => va_P G.1 vwCl ((fun (uU : (Nat → Nat) × (Nat → Nat) × (Nat → Nat)) => ([(a0, .inr (1, [.ref a1, .ref a2, .int (nI (uU.1 0)), .int (nI (uU.1 1)), .int (nI (uU.1 7)), .int (nI (uU.1 8)), .int (nI (uU.1 9)), .int (nI (uU.1 2)), .int (nI (uU.1 3)), .int (nI (uU.1 4)), .int (nI (uU.1 5)), .int (nI (uU.1 6))])), (a1, .inl (G.2.1, 8, .inl (arN uU.2.1))), (a2, .inl (G.2.1, 640, .inl (arN uU.2.2)))] : va_W)) uU) tT.heap) (zIn [(a0, .inr (1, [.ref a1, .ref a2, .int (nI (sg 0)), .int (nI (sg 1)), .int (nI (sg 7)), .int (nI (sg 8)), .int (nI (sg 9)), .int (nI (sg 2)), .int (nI (sg 3)), .int (nI (sg 4)), .int (nI (sg 5)), .int (nI (sg 6))])), (a1, .inl (G.2.1, 8, .inl (arN sz))), (a2, .inl (G.2.1, 640, .inl (arN sc)))])) 0 0 (zIn [(a0, .inr (1, [.ref a1, .ref a2, .int (nI (sg 0)), .int (nI (sg 1)), .int (nI (sg 7)), .int (nI (sg 8)), .int (nI (sg 9)), .int (nI (sg 2)), .int (nI (sg 3)), .int (nI (sg 4)), .int (nI (sg 5)), .int (nI (sg 6))])), (a1, .inl (G.2.1, 8, .inl (arN sz))), (a2, .inl (G.2.1, 640, .inl (arN sc)))]) := by
  refine zM (cc := cX1_turnRing) (maxL := 2) (ret := (some .int)) (by decide) rfl (Nat.le_of_ble_eq_true rfl) ?_
  intro pP eE sS mM below meth cC hx hb hr hts hown hlk hml hnm hK hN hP hD hS ls hl
  have hl : lv_has ls 2 [(0, .ref a0), (1, .int (nI 0))] := hl
  have h0 := hM.1.1
  have h1 := hM.1.2.1
  have h5 := hM.1.2.2.2.2.1
  refine lv_aload_n hx hb dX1_turnRing_0 rfl (lv_at hl 0 rfl) ?_
  refine lv_iload_n hx hb dX1_turnRing_1 rfl (lv_at hl 1 rfl) ?_
  refine lv_if_eq (tgt := 14) hx hb dX1_turnRing_2 (by decide) (fun _ => ?_) (fun q => absurd (by decide) q)
  refine lv_aload_n hx hb dX1_turnRing_14 rfl (lv_at hl 0 rfl) ?_
  refine va_get (D := G.1) (ci := 1) (v := .int (nI (sg 0))) (C := RX1) (T := TX1) (N := 12) hx hb hts mic_turnRing0_1 hown hK hP 0 rfl rfl 2 (by decide) (hts _ mwc_turnRing0_0) (fun _ h9 => h9) rfl dX1_turnRing_15 ?_
  refine lv_iconst (v := nI 1) hx hb dX1_turnRing_18 (by decide) ?_
  rcases Nat.eq_zero_or_pos (sg 0) with hz0 | hz0
  · refine lv_isub hx hb dX1_turnRing_19 ?_
    refine zk_top (y := (-1)) (by rw [hz0]; decide) ?_
    refine lv_bipush (v := nI 8) hx hb dX1_turnRing_20 (by decide) ?_
    refine zc_S (As := [.int (-1), .int (nI 8)]) (rest := [.ref a0]) ⟨hx, hb, hml, hown, hts⟩ (c_floorModM l  ) (va_cwS 2 hts gX1_turnRing_J9_floorMod_7cf53 rfl rfl rfl (by decide +kernel) ⟨Nat.le_of_ble_eq_true rfl, Nat.le_of_ble_eq_true rfl⟩) rfl hl.1 rfl (Nat.le_of_ble_eq_true rfl) dX1_turnRing_22 ⟨Nat.zero_le _, Nat.zero_le _⟩ (fun r22 h22 => ?_)
    subst h22
    refine zk_top (y := nI ((sg 0 + 7) % 8)) (congrArg nI (by omega)) ?_
    refine zk_put (D := G.1) (ci := 1) (v := .int (nI ((sg 0 + 7) % 8))) (ty := .int) (C := RX1) (T := TX1) (N := 12) (ws2 := [(a0, .inr (1, [.ref a1, .ref a2, .int (nI ((sg 0 + 7) % 8)), .int (nI (sg 1)), .int (nI (sg 7)), .int (nI (sg 8)), .int (nI (sg 9)), .int (nI (sg 2)), .int (nI (sg 3)), .int (nI (sg 4)), .int (nI (sg 5)), .int (nI (sg 6))])), (a1, .inl (G.2.1, 8, .inl (arN sz))), (a2, .inl (G.2.1, 640, .inl (arN sc)))]) hx hb hts mic_turnRing0_1 tyX1 tyX1_ok nmX1 hown hK hP hD hS 0 rfl rfl 2 (by decide) (hts _ mwc_turnRing0_0) (fun _ h9 => h9) rfl (by decide +kernel) rfl rfl (Nat.le_of_ble_eq_true rfl) rfl dX1_turnRing_25 (fun H locs hP hD hS => ?_)
    refine lv_aload_n hx hb dX1_turnRing_28 rfl (lv_at hl 0 rfl) ?_
    refine lv_aload_n hx hb dX1_turnRing_29 rfl (lv_at hl 0 rfl) ?_
    refine va_get (D := G.1) (ci := 1) (v := .int (nI (sg 5))) (C := RX1) (T := TX1) (N := 12) hx hb hts mic_turnRing0_1 hown hK hP 0 rfl rfl 10 (by decide) (hts _ mwc_turnRing0_2) (fun _ h9 => h9) rfl dX1_turnRing_30 ?_
    refine lv_aload_n hx hb dX1_turnRing_33 rfl (lv_at hl 0 rfl) ?_
    refine va_get (D := G.1) (ci := 1) (v := .int (nI (sg 1))) (C := RX1) (T := TX1) (N := 12) hx hb hts mic_turnRing0_1 hown hK hP 0 rfl rfl 3 (by decide) (hts _ mwc_turnRing0_3) (fun _ h9 => h9) rfl dX1_turnRing_34 ?_
    refine lv_isub hx hb dX1_turnRing_37 ?_
    refine lv_iconst (v := nI 0) hx hb dX1_turnRing_38 (by decide) ?_
    refine va_mmax hx hb (hml.trans hl.1.symm) hown (hts _ mwc_turnRing0_4) (hts _ mwc_turnRing0_5) (hts _ mwc_turnRing0_6) (hts _ mwc_turnRing0_7) (Nat.le_of_ble_eq_true rfl) (Nat.le_of_ble_eq_true rfl) (Nat.zero_le _) (Nat.zero_le _) dX1_turnRing_39 ?_
    refine zk_top (y := nI (sg 5 - sg 1)) (mx_sub (by omega) (by omega)) ?_
    refine zk_put (D := G.1) (ci := 1) (v := .int (nI (sg 5 - sg 1))) (ty := .int) (C := RX1) (T := TX1) (N := 12) (ws2 := [(a0, .inr (1, [.ref a1, .ref a2, .int (nI ((sg 0 + 7) % 8)), .int (nI (sg 1)), .int (nI (sg 7)), .int (nI (sg 8)), .int (nI (sg 9)), .int (nI (sg 2)), .int (nI (sg 3)), .int (nI (sg 4)), .int (nI (sg 5 - sg 1)), .int (nI (sg 6))])), (a1, .inl (G.2.1, 8, .inl (arN sz))), (a2, .inl (G.2.1, 640, .inl (arN sc)))]) hx hb hts mic_turnRing0_1 tyX1 tyX1_ok nmX1 hown hK hP hD hS 0 rfl rfl 10 (by decide) (hts _ mwc_turnRing0_2) (fun _ h9 => h9) rfl (by decide +kernel) rfl rfl (Nat.le_of_ble_eq_true rfl) rfl dX1_turnRing_42 (fun H locs hP hD hS => ?_)
    refine lv_aload_n hx hb dX1_turnRing_45 rfl (lv_at hl 0 rfl) ?_
    refine va_get (D := G.1) (ci := 1) (v := .int (nI ((sg 0 + 7) % 8))) (C := RX1) (T := TX1) (N := 12) hx hb hts mic_turnRing0_1 hown hK hP 0 rfl rfl 2 (by decide) (hts _ mwc_turnRing0_0) (fun _ h9 => h9) rfl dX1_turnRing_46 ?_
    exact W.iret (v := nI ((sg 0 + 7) % 8)) hx hb hr (fun tT ht hW => ⟨⟨_, (tuT sg 7, sz, sc), rfl, ⟨_, _, rel_tuT hR, mOK_tuT hM, rfl, rfl⟩, by show va_P G.1 vwCl _ tT.heap; rw [ht]; exact hP⟩, hS.F ht⟩) hS.2.2 dX1_turnRing_49
  · refine zk_sub hx hb dX1_turnRing_19 (by omega) ?_
    refine zk_top (y := nI ((sg 0) - 1)) rfl ?_
    refine lv_bipush (v := nI 8) hx hb dX1_turnRing_20 (by decide) ?_
    refine zc_S (As := [.int (nI ((sg 0) - 1)), .int (nI 8)]) (rest := [.ref a0]) ⟨hx, hb, hml, hown, hts⟩ (c_floorMod l ((sg 0) - 1) (by omega)) (va_cwS 2 hts gX1_turnRing_J9_floorMod_7cf53 rfl rfl rfl (by decide +kernel) ⟨Nat.le_of_ble_eq_true rfl, Nat.le_of_ble_eq_true rfl⟩) rfl hl.1 rfl (Nat.le_of_ble_eq_true rfl) dX1_turnRing_22 ⟨Nat.zero_le _, Nat.zero_le _⟩ (fun r22 h22 => ?_)
    subst h22
    refine zk_top (y := nI ((sg 0 + 7) % 8)) (congrArg nI (by omega)) ?_
    refine zk_put (D := G.1) (ci := 1) (v := .int (nI ((sg 0 + 7) % 8))) (ty := .int) (C := RX1) (T := TX1) (N := 12) (ws2 := [(a0, .inr (1, [.ref a1, .ref a2, .int (nI ((sg 0 + 7) % 8)), .int (nI (sg 1)), .int (nI (sg 7)), .int (nI (sg 8)), .int (nI (sg 9)), .int (nI (sg 2)), .int (nI (sg 3)), .int (nI (sg 4)), .int (nI (sg 5)), .int (nI (sg 6))])), (a1, .inl (G.2.1, 8, .inl (arN sz))), (a2, .inl (G.2.1, 640, .inl (arN sc)))]) hx hb hts mic_turnRing0_1 tyX1 tyX1_ok nmX1 hown hK hP hD hS 0 rfl rfl 2 (by decide) (hts _ mwc_turnRing0_0) (fun _ h9 => h9) rfl (by decide +kernel) rfl rfl (Nat.le_of_ble_eq_true rfl) rfl dX1_turnRing_25 (fun H locs hP hD hS => ?_)
    refine lv_aload_n hx hb dX1_turnRing_28 rfl (lv_at hl 0 rfl) ?_
    refine lv_aload_n hx hb dX1_turnRing_29 rfl (lv_at hl 0 rfl) ?_
    refine va_get (D := G.1) (ci := 1) (v := .int (nI (sg 5))) (C := RX1) (T := TX1) (N := 12) hx hb hts mic_turnRing0_1 hown hK hP 0 rfl rfl 10 (by decide) (hts _ mwc_turnRing0_2) (fun _ h9 => h9) rfl dX1_turnRing_30 ?_
    refine lv_aload_n hx hb dX1_turnRing_33 rfl (lv_at hl 0 rfl) ?_
    refine va_get (D := G.1) (ci := 1) (v := .int (nI (sg 1))) (C := RX1) (T := TX1) (N := 12) hx hb hts mic_turnRing0_1 hown hK hP 0 rfl rfl 3 (by decide) (hts _ mwc_turnRing0_3) (fun _ h9 => h9) rfl dX1_turnRing_34 ?_
    refine lv_isub hx hb dX1_turnRing_37 ?_
    refine lv_iconst (v := nI 0) hx hb dX1_turnRing_38 (by decide) ?_
    refine va_mmax hx hb (hml.trans hl.1.symm) hown (hts _ mwc_turnRing0_4) (hts _ mwc_turnRing0_5) (hts _ mwc_turnRing0_6) (hts _ mwc_turnRing0_7) (Nat.le_of_ble_eq_true rfl) (Nat.le_of_ble_eq_true rfl) (Nat.zero_le _) (Nat.zero_le _) dX1_turnRing_39 ?_
    refine zk_top (y := nI (sg 5 - sg 1)) (mx_sub (by omega) (by omega)) ?_
    refine zk_put (D := G.1) (ci := 1) (v := .int (nI (sg 5 - sg 1))) (ty := .int) (C := RX1) (T := TX1) (N := 12) (ws2 := [(a0, .inr (1, [.ref a1, .ref a2, .int (nI ((sg 0 + 7) % 8)), .int (nI (sg 1)), .int (nI (sg 7)), .int (nI (sg 8)), .int (nI (sg 9)), .int (nI (sg 2)), .int (nI (sg 3)), .int (nI (sg 4)), .int (nI (sg 5 - sg 1)), .int (nI (sg 6))])), (a1, .inl (G.2.1, 8, .inl (arN sz))), (a2, .inl (G.2.1, 640, .inl (arN sc)))]) hx hb hts mic_turnRing0_1 tyX1 tyX1_ok nmX1 hown hK hP hD hS 0 rfl rfl 10 (by decide) (hts _ mwc_turnRing0_2) (fun _ h9 => h9) rfl (by decide +kernel) rfl rfl (Nat.le_of_ble_eq_true rfl) rfl dX1_turnRing_42 (fun H locs hP hD hS => ?_)
    refine lv_aload_n hx hb dX1_turnRing_45 rfl (lv_at hl 0 rfl) ?_
    refine va_get (D := G.1) (ci := 1) (v := .int (nI ((sg 0 + 7) % 8))) (C := RX1) (T := TX1) (N := 12) hx hb hts mic_turnRing0_1 hown hK hP 0 rfl rfl 2 (by decide) (hts _ mwc_turnRing0_0) (fun _ h9 => h9) rfl dX1_turnRing_46 ?_
    exact W.iret (v := nI ((sg 0 + 7) % 8)) hx hb hr (fun tT ht hW => ⟨⟨_, (tuT sg 7, sz, sc), rfl, ⟨_, _, rel_tuT hR, mOK_tuT hM, rfl, rfl⟩, by show va_P G.1 vwCl _ tT.heap; rw [ht]; exact hP⟩, hS.F ht⟩) hS.2.2 dX1_turnRing_49
set_option maxRecDepth 100000 in
theorem mwc_changeTurning_0 : Cond.fieldLink RX1 18 "ExhibitTexts$State" "turning" "I" ∈ wsX1_changeTurning := by decide +kernel
set_option maxRecDepth 100000 in
theorem mic_changeTurning_1 : ∀ w ∈ u_ws RX1 TX1 12, w ∈ wsX1_changeTurning := by decide +kernel
set_option maxHeartbeats 4000000 in
set_option maxRecDepth 100000 in
/-- X1_changeTurning: the turning time is another -/
theorem c_changeTurning (l : Launch) (G : zG) (a0 : Nat) (a1 : Nat) (a2 : Nat) (sz : Nat → Nat) (sc : Nat → Nat) (sg : Nat → Nat) (x : Int32) (hM : mOK sg) (hR : sRel sz sc sg) : Met l yX1_changeTurning wsX1_changeTurning ({ frames := 0, cells := 0, slots := 0, locals := 0 } : Room) (zPc G [.ref a0, .int x] [(a0, .inr (1, [.ref a1, .ref a2, .int (nI (sg 0)), .int (nI (sg 1)), .int (nI (sg 7)), .int (nI (sg 8)), .int (nI (sg 9)), .int (nI (sg 2)), .int (nI (sg 3)), .int (nI (sg 4)), .int (nI (sg 5)), .int (nI (sg 6))])), (a1, .inl (G.2.1, 8, .inl (arN sz))), (a2, .inl (G.2.1, 640, .inl (arN sc)))]) (va_Qi (fun (rR : Int32) (uU : (Nat → Nat) × (Nat → Nat) × (Nat → Nat)) => ((¬ ∃ n : Nat, 0 ≤ n ∧ n ≤ 60 ∧ x = nI n) ∧ rR = (-2) ∧ uU = (sg, sz, sc)) ∨ (∃ (nX : Nat), nX ≤ 60 ∧ x = nI nX ∧ sg 1 = nX ∧ rR = (-5) ∧ uU = (sg, sz, sc)) ∨ (∃ (nX : Nat) (zZ : Nat → Nat) (cC : Nat → Nat), nX ≤ 60 ∧ x = nI nX ∧ sg 1 ≠ nX ∧ sRel zZ cC (arU sg 1 nX) ∧ mOK (arU sg 1 nX) ∧ rR = nI (sg 1) ∧ uU = (arU sg 1 nX, zZ, cC))) (fun uU tT => va_P G.1 vwCl ((fun (uU : (Nat → Nat) × (Nat → Nat) × (Nat → Nat)) => ([(a0, .inr (1, [.ref a1, .ref a2, .int (nI (uU.1 0)), .int (nI (uU.1 1)), .int (nI (uU.1 7)), .int (nI (uU.1 8)), .int (nI (uU.1 9)), .int (nI (uU.1 2)), .int (nI (uU.1 3)), .int (nI (uU.1 4)), .int (nI (uU.1 5)), .int (nI (uU.1 6))])), (a1, .inl (G.2.1, 8, .inl (arN uU.2.1))), (a2, .inl (G.2.1, 640, .inl (arN uU.2.2)))] : va_W)) uU) tT.heap) (zIn [(a0, .inr (1, [.ref a1, .ref a2, .int (nI (sg 0)), .int (nI (sg 1)), .int (nI (sg 7)), .int (nI (sg 8)), .int (nI (sg 9)), .int (nI (sg 2)), .int (nI (sg 3)), .int (nI (sg 4)), .int (nI (sg 5)), .int (nI (sg 6))])), (a1, .inl (G.2.1, 8, .inl (arN sz))), (a2, .inl (G.2.1, 640, .inl (arN sc)))])) 0 0 (zIn [(a0, .inr (1, [.ref a1, .ref a2, .int (nI (sg 0)), .int (nI (sg 1)), .int (nI (sg 7)), .int (nI (sg 8)), .int (nI (sg 9)), .int (nI (sg 2)), .int (nI (sg 3)), .int (nI (sg 4)), .int (nI (sg 5)), .int (nI (sg 6))])), (a1, .inl (G.2.1, 8, .inl (arN sz))), (a2, .inl (G.2.1, 640, .inl (arN sc)))]) := by
  refine zM (cc := cX1_changeTurning) (maxL := 3) (ret := (some .int)) (by decide) rfl (Nat.le_of_ble_eq_true rfl) ?_
  intro pP eE sS mM below meth cC hx hb hr hts hown hlk hml hnm hK hN hP hD hS ls hl
  have hl : lv_has ls 3 [(0, .ref a0), (1, .int x)] := hl
  have h1 := hM.1.2.1
  refine lv_iload_n hx hb dX1_changeTurning_0 rfl (lv_at hl 1 rfl) ?_
  refine lv_if_lt (tgt := 10) hx hb dX1_changeTurning_1 (by decide) (fun c1 => ?_) (fun c1 => ?_)
  · refine lv_bipush (v := (-2)) hx hb dX1_changeTurning_10 (by decide) ?_
    exact W.iret (v := (-2)) hx hb hr (fun tT ht hW => ⟨⟨_, (sg, sz, sc), rfl, Or.inl ⟨in_no0 (by decide) c1, rfl, rfl⟩, by show va_P G.1 vwCl _ tT.heap; rw [ht]; exact hP⟩, hS.F ht⟩) hS.2.2 dX1_changeTurning_12
  · refine lv_iload_n hx hb dX1_changeTurning_4 rfl (lv_at hl 1 rfl) ?_
    refine lv_bipush (v := nI 60) hx hb dX1_changeTurning_5 (by decide) ?_
    refine lv_icmp_le (tgt := 13) hx hb dX1_changeTurning_7 (by decide) (fun c7 => ?_) (fun c7 => ?_)
    · obtain ⟨nY, -, hn2, rfl⟩ := in_yes0 (by decide) c1 c7
      refine lv_iload_n hx hb dX1_changeTurning_13 rfl (lv_at hl 1 rfl) ?_
      refine lv_aload_n hx hb dX1_changeTurning_14 rfl (lv_at hl 0 rfl) ?_
      refine va_get (D := G.1) (ci := 1) (v := .int (nI (sg 1))) (C := RX1) (T := TX1) (N := 12) hx hb hts mic_changeTurning_1 hown hK hP 0 rfl rfl 3 (by decide) (hts _ mwc_changeTurning_0) (fun _ h9 => h9) rfl dX1_changeTurning_15 ?_
      refine zk_ine (tgt := 24) hx hb dX1_changeTurning_18 (by decide) (by omega) (by omega) (fun c18 => ?_) (fun c18 => ?_)
      · refine lv_aload_n hx hb dX1_changeTurning_24 rfl (lv_at hl 0 rfl) ?_
        refine va_get (D := G.1) (ci := 1) (v := .int (nI (sg 1))) (C := RX1) (T := TX1) (N := 12) hx hb hts mic_changeTurning_1 hown hK hP 0 rfl rfl 3 (by decide) (hts _ mwc_changeTurning_0) (fun _ h9 => h9) rfl dX1_changeTurning_25 ?_
        refine lv_istore_n (lv' := [(2, .int (nI (sg 1))), (0, .ref a0), (1, .int (nI nY))]) hx hb dX1_changeTurning_28 rfl hl (by decide) rfl (fun ls hl => ?_)
        refine lv_aload_n hx hb dX1_changeTurning_29 rfl (lv_at hl 1 rfl) ?_
        refine lv_iload_n hx hb dX1_changeTurning_30 rfl (lv_at hl 2 rfl) ?_
        refine zk_put (D := G.1) (ci := 1) (v := .int (nI nY)) (ty := .int) (C := RX1) (T := TX1) (N := 12) (ws2 := [(a0, .inr (1, [.ref a1, .ref a2, .int (nI (sg 0)), .int (nI nY), .int (nI (sg 7)), .int (nI (sg 8)), .int (nI (sg 9)), .int (nI (sg 2)), .int (nI (sg 3)), .int (nI (sg 4)), .int (nI (sg 5)), .int (nI (sg 6))])), (a1, .inl (G.2.1, 8, .inl (arN sz))), (a2, .inl (G.2.1, 640, .inl (arN sc)))]) hx hb hts mic_changeTurning_1 tyX1 tyX1_ok nmX1 hown hK hP hD hS 0 rfl rfl 3 (by decide) (hts _ mwc_changeTurning_0) (fun _ h9 => h9) rfl (by decide +kernel) rfl rfl (Nat.le_of_ble_eq_true rfl) rfl dX1_changeTurning_31 (fun H locs hP hD hS => ?_)
        refine lv_iload_n hx hb dX1_changeTurning_34 rfl (lv_at hl 0 rfl) ?_
        exact W.iret (v := nI (sg 1)) hx hb hr (fun tT ht hW => ⟨⟨_, (arU sg 1 nY, sz, sc), rfl, Or.inr (Or.inr ⟨nY, _, _, hn2, rfl, by omega, rel_sTu hR, mOK_sTu hM hn2, rfl, rfl⟩), by show va_P G.1 vwCl _ tT.heap; rw [ht]; exact hP⟩, hS.F ht⟩) hS.2.2 dX1_changeTurning_35
      · refine lv_bipush (v := (-5)) hx hb dX1_changeTurning_21 (by decide) ?_
        exact W.iret (v := (-5)) hx hb hr (fun tT ht hW => ⟨⟨_, (sg, sz, sc), rfl, Or.inr (Or.inl ⟨nY, hn2, rfl, by omega, rfl, rfl⟩), by show va_P G.1 vwCl _ tT.heap; rw [ht]; exact hP⟩, hS.F ht⟩) hS.2.2 dX1_changeTurning_23
    · refine lv_bipush (v := (-2)) hx hb dX1_changeTurning_10 (by decide) ?_
      exact W.iret (v := (-2)) hx hb hr (fun tT ht hW => ⟨⟨_, (sg, sz, sc), rfl, Or.inl ⟨in_no3 (by decide) (by decide) c7, rfl, rfl⟩, by show va_P G.1 vwCl _ tT.heap; rw [ht]; exact hP⟩, hS.F ht⟩) hS.2.2 dX1_changeTurning_12
set_option maxRecDepth 100000 in
theorem mwc_copyFrom_0 : Cond.fieldLink RX1 9 "ExhibitTexts$State" "sizes" "[I" ∈ wsX1_copyFrom := by decide +kernel
set_option maxRecDepth 100000 in
theorem mic_copyFrom_1 : ∀ w ∈ u_ws RX1 TX1 12, w ∈ wsX1_copyFrom := by decide +kernel
set_option maxRecDepth 100000 in
theorem mwc_copyFrom_2 : Cond.methodLink RX1 22 arraycopyName ∈ wsX1_copyFrom := by decide +kernel
set_option maxRecDepth 100000 in
theorem mwc_copyFrom_3 : Cond.native arraycopyName ∈ wsX1_copyFrom := by decide +kernel
set_option maxRecDepth 100000 in
theorem mwc_copyFrom_4 : Cond.static arraycopyName ∈ wsX1_copyFrom := by decide +kernel
set_option maxRecDepth 100000 in
theorem mwc_copyFrom_5 : Cond.initialized "java/lang/System" ∈ wsX1_copyFrom := by decide +kernel
set_option maxRecDepth 100000 in
theorem mwc_copyFrom_6 : Cond.fieldLink RX1 15 "ExhibitTexts$State" "cells" "[I" ∈ wsX1_copyFrom := by decide +kernel
set_option maxRecDepth 100000 in
theorem mwc_copyFrom_7 : Cond.fieldLink RX1 28 "ExhibitTexts$State" "standsAt" "I" ∈ wsX1_copyFrom := by decide +kernel
set_option maxRecDepth 100000 in
theorem mwc_copyFrom_8 : Cond.fieldLink RX1 18 "ExhibitTexts$State" "turning" "I" ∈ wsX1_copyFrom := by decide +kernel
set_option maxRecDepth 100000 in
theorem mwc_copyFrom_9 : Cond.fieldLink RX1 31 "ExhibitTexts$State" "visitors" "I" ∈ wsX1_copyFrom := by decide +kernel
set_option maxRecDepth 100000 in
theorem mwc_copyFrom_10 : Cond.fieldLink RX1 34 "ExhibitTexts$State" "textsRead" "I" ∈ wsX1_copyFrom := by decide +kernel
set_option maxRecDepth 100000 in
theorem mwc_copyFrom_11 : Cond.fieldLink RX1 37 "ExhibitTexts$State" "captionsRead" "I" ∈ wsX1_copyFrom := by decide +kernel
set_option maxRecDepth 100000 in
theorem mwc_copyFrom_12 : Cond.fieldLink RX1 40 "ExhibitTexts$State" "hasVisitor" "Z" ∈ wsX1_copyFrom := by decide +kernel
set_option maxRecDepth 100000 in
theorem mwc_copyFrom_13 : Cond.fieldLink RX1 44 "ExhibitTexts$State" "age" "I" ∈ wsX1_copyFrom := by decide +kernel
set_option maxRecDepth 100000 in
theorem mwc_copyFrom_14 : Cond.fieldLink RX1 47 "ExhibitTexts$State" "pace" "I" ∈ wsX1_copyFrom := by decide +kernel
set_option maxRecDepth 100000 in
theorem mwc_copyFrom_15 : Cond.fieldLink RX1 50 "ExhibitTexts$State" "seconds" "I" ∈ wsX1_copyFrom := by decide +kernel
set_option maxRecDepth 100000 in
theorem mwc_copyFrom_16 : Cond.fieldLink RX1 53 "ExhibitTexts$State" "learned" "I" ∈ wsX1_copyFrom := by decide +kernel
set_option maxHeartbeats 4000000 in
set_option maxRecDepth 100000 in
/-- X1_copyFrom: a state becomes as another -/
theorem c_copyFrom (l : Launch) (G : zG) (a0 : Nat) (a1 : Nat) (a2 : Nat) (sz : Nat → Nat) (sc : Nat → Nat) (sg : Nat → Nat) (o0 : Nat) (o1 : Nat) (o2 : Nat) (tz : Nat → Nat) (tc : Nat → Nat) (tg : Nat → Nat) (hM : mOK tg) (hR : sRel tz tc tg) : Met l yX1_copyFrom wsX1_copyFrom ({ frames := 1, cells := 0, slots := 0, locals := 40 } : Room) (zPc G [.ref a0, .ref o0] [(a0, .inr (1, [.ref a1, .ref a2, .int (nI (sg 0)), .int (nI (sg 1)), .int (nI (sg 7)), .int (nI (sg 8)), .int (nI (sg 9)), .int (nI (sg 2)), .int (nI (sg 3)), .int (nI (sg 4)), .int (nI (sg 5)), .int (nI (sg 6))])), (a1, .inl (G.2.1, 8, .inl (arN sz))), (a2, .inl (G.2.1, 640, .inl (arN sc))), (o0, .inr (1, [.ref o1, .ref o2, .int (nI (tg 0)), .int (nI (tg 1)), .int (nI (tg 7)), .int (nI (tg 8)), .int (nI (tg 9)), .int (nI (tg 2)), .int (nI (tg 3)), .int (nI (tg 4)), .int (nI (tg 5)), .int (nI (tg 6))])), (o1, .inl (G.2.1, 8, .inl (arN tz))), (o2, .inl (G.2.1, 640, .inl (arN tc)))]) (va_Qv (fun (uU : (Nat → Nat) × (Nat → Nat) × (Nat → Nat)) => ∃ (zZ : Nat → Nat) (cC : Nat → Nat), sRel zZ cC tg ∧ uU = (tg, zZ, cC)) (fun uU tT => va_P G.1 vwCl ((fun (uU : (Nat → Nat) × (Nat → Nat) × (Nat → Nat)) => ([(a0, .inr (1, [.ref a1, .ref a2, .int (nI (uU.1 0)), .int (nI (uU.1 1)), .int (nI (uU.1 7)), .int (nI (uU.1 8)), .int (nI (uU.1 9)), .int (nI (uU.1 2)), .int (nI (uU.1 3)), .int (nI (uU.1 4)), .int (nI (uU.1 5)), .int (nI (uU.1 6))])), (a1, .inl (G.2.1, 8, .inl (arN uU.2.1))), (a2, .inl (G.2.1, 640, .inl (arN uU.2.2))), (o0, .inr (1, [.ref o1, .ref o2, .int (nI (tg 0)), .int (nI (tg 1)), .int (nI (tg 7)), .int (nI (tg 8)), .int (nI (tg 9)), .int (nI (tg 2)), .int (nI (tg 3)), .int (nI (tg 4)), .int (nI (tg 5)), .int (nI (tg 6))])), (o1, .inl (G.2.1, 8, .inl (arN tz))), (o2, .inl (G.2.1, 640, .inl (arN tc)))] : va_W)) uU) tT.heap) (zIn [(a0, .inr (1, [.ref a1, .ref a2, .int (nI (sg 0)), .int (nI (sg 1)), .int (nI (sg 7)), .int (nI (sg 8)), .int (nI (sg 9)), .int (nI (sg 2)), .int (nI (sg 3)), .int (nI (sg 4)), .int (nI (sg 5)), .int (nI (sg 6))])), (a1, .inl (G.2.1, 8, .inl (arN sz))), (a2, .inl (G.2.1, 640, .inl (arN sc))), (o0, .inr (1, [.ref o1, .ref o2, .int (nI (tg 0)), .int (nI (tg 1)), .int (nI (tg 7)), .int (nI (tg 8)), .int (nI (tg 9)), .int (nI (tg 2)), .int (nI (tg 3)), .int (nI (tg 4)), .int (nI (tg 5)), .int (nI (tg 6))])), (o1, .inl (G.2.1, 8, .inl (arN tz))), (o2, .inl (G.2.1, 640, .inl (arN tc)))])) 0 0 (zIn [(a0, .inr (1, [.ref a1, .ref a2, .int (nI (sg 0)), .int (nI (sg 1)), .int (nI (sg 7)), .int (nI (sg 8)), .int (nI (sg 9)), .int (nI (sg 2)), .int (nI (sg 3)), .int (nI (sg 4)), .int (nI (sg 5)), .int (nI (sg 6))])), (a1, .inl (G.2.1, 8, .inl (arN sz))), (a2, .inl (G.2.1, 640, .inl (arN sc))), (o0, .inr (1, [.ref o1, .ref o2, .int (nI (tg 0)), .int (nI (tg 1)), .int (nI (tg 7)), .int (nI (tg 8)), .int (nI (tg 9)), .int (nI (tg 2)), .int (nI (tg 3)), .int (nI (tg 4)), .int (nI (tg 5)), .int (nI (tg 6))])), (o1, .inl (G.2.1, 8, .inl (arN tz))), (o2, .inl (G.2.1, 640, .inl (arN tc)))]) := by
  refine zM (cc := cX1_copyFrom) (maxL := 2) (ret := none) (by decide) rfl (Nat.le_of_ble_eq_true rfl) ?_
  intro pP eE sS mM below meth cC hx hb hr hts hown hlk hml hnm hK hN hP hD hS ls hl
  have hl : lv_has ls 2 [(0, .ref a0), (1, .ref o0)] := hl
  refine lv_aload_n hx hb dX1_copyFrom_0 rfl (lv_at hl 1 rfl) ?_
  refine va_get (D := G.1) (ci := 1) (v := .ref o1) (C := RX1) (T := TX1) (N := 12) hx hb hts mic_copyFrom_1 hown hK hP 3 rfl rfl 0 (by decide) (hts _ mwc_copyFrom_0) (fun _ h9 => h9) rfl dX1_copyFrom_1 ?_
  refine lv_iconst (v := nI 0) hx hb dX1_copyFrom_4 (by decide) ?_
  refine lv_aload_n hx hb dX1_copyFrom_5 rfl (lv_at hl 0 rfl) ?_
  refine va_get (D := G.1) (ci := 1) (v := .ref a1) (C := RX1) (T := TX1) (N := 12) hx hb hts mic_copyFrom_1 hown hK hP 0 rfl rfl 0 (by decide) (hts _ mwc_copyFrom_0) (fun _ h9 => h9) rfl dX1_copyFrom_6 ?_
  refine lv_iconst (v := nI 0) hx hb dX1_copyFrom_9 (by decide) ?_
  refine lv_bipush (v := nI 8) hx hb dX1_copyFrom_10 (by decide) ?_
  refine zk_acopy (f := tz) (g := sz) (sp := 0) (dp := 0) (k := 8) (ws2 := [(a0, .inr (1, [.ref a1, .ref a2, .int (nI (sg 0)), .int (nI (sg 1)), .int (nI (sg 7)), .int (nI (sg 8)), .int (nI (sg 9)), .int (nI (sg 2)), .int (nI (sg 3)), .int (nI (sg 4)), .int (nI (sg 5)), .int (nI (sg 6))])), (a1, .inl (G.2.1, 8, .inl (arN (cpF sz tz 0 0 8)))), (a2, .inl (G.2.1, 640, .inl (arN sc))), (o0, .inr (1, [.ref o1, .ref o2, .int (nI (tg 0)), .int (nI (tg 1)), .int (nI (tg 7)), .int (nI (tg 8)), .int (nI (tg 9)), .int (nI (tg 2)), .int (nI (tg 3)), .int (nI (tg 4)), .int (nI (tg 5)), .int (nI (tg 6))])), (o1, .inl (G.2.1, 8, .inl (arN tz))), (o2, .inl (G.2.1, 640, .inl (arN tc)))]) hx hb (hml.trans hl.1.symm) hown (hts _ mwc_copyFrom_2) (hts _ mwc_copyFrom_3) (hts _ mwc_copyFrom_4) (hts _ mwc_copyFrom_5) hK hP hD hS 4 1 0 rfl rfl rfl (Nat.le_of_ble_eq_true rfl) (Nat.le_of_ble_eq_true rfl) (by omega) (by omega) rfl (Nat.le_of_ble_eq_true rfl) (Nat.le_of_ble_eq_true rfl) dX1_copyFrom_12 (fun H locs hP hD hS => ?_)
  refine lv_aload_n hx hb dX1_copyFrom_15 rfl (lv_at hl 1 rfl) ?_
  refine va_get (D := G.1) (ci := 1) (v := .ref o2) (C := RX1) (T := TX1) (N := 12) hx hb hts mic_copyFrom_1 hown hK hP 3 rfl rfl 1 (by decide) (hts _ mwc_copyFrom_6) (fun _ h9 => h9) rfl dX1_copyFrom_16 ?_
  refine lv_iconst (v := nI 0) hx hb dX1_copyFrom_19 (by decide) ?_
  refine lv_aload_n hx hb dX1_copyFrom_20 rfl (lv_at hl 0 rfl) ?_
  refine va_get (D := G.1) (ci := 1) (v := .ref a2) (C := RX1) (T := TX1) (N := 12) hx hb hts mic_copyFrom_1 hown hK hP 0 rfl rfl 1 (by decide) (hts _ mwc_copyFrom_6) (fun _ h9 => h9) rfl dX1_copyFrom_21 ?_
  refine lv_iconst (v := nI 0) hx hb dX1_copyFrom_24 (by decide) ?_
  refine lv_sipush (v := nI 640) hx hb dX1_copyFrom_25 (by decide) ?_
  refine zk_acopy (f := tc) (g := sc) (sp := 0) (dp := 0) (k := 640) (ws2 := [(a0, .inr (1, [.ref a1, .ref a2, .int (nI (sg 0)), .int (nI (sg 1)), .int (nI (sg 7)), .int (nI (sg 8)), .int (nI (sg 9)), .int (nI (sg 2)), .int (nI (sg 3)), .int (nI (sg 4)), .int (nI (sg 5)), .int (nI (sg 6))])), (a1, .inl (G.2.1, 8, .inl (arN (cpF sz tz 0 0 8)))), (a2, .inl (G.2.1, 640, .inl (arN (cpF sc tc 0 0 640)))), (o0, .inr (1, [.ref o1, .ref o2, .int (nI (tg 0)), .int (nI (tg 1)), .int (nI (tg 7)), .int (nI (tg 8)), .int (nI (tg 9)), .int (nI (tg 2)), .int (nI (tg 3)), .int (nI (tg 4)), .int (nI (tg 5)), .int (nI (tg 6))])), (o1, .inl (G.2.1, 8, .inl (arN tz))), (o2, .inl (G.2.1, 640, .inl (arN tc)))]) hx hb (hml.trans hl.1.symm) hown (hts _ mwc_copyFrom_2) (hts _ mwc_copyFrom_3) (hts _ mwc_copyFrom_4) (hts _ mwc_copyFrom_5) hK hP hD hS 5 2 0 rfl rfl rfl (Nat.le_of_ble_eq_true rfl) (Nat.le_of_ble_eq_true rfl) (by omega) (by omega) rfl (Nat.le_of_ble_eq_true rfl) (Nat.le_of_ble_eq_true rfl) dX1_copyFrom_28 (fun H locs hP hD hS => ?_)
  refine lv_aload_n hx hb dX1_copyFrom_31 rfl (lv_at hl 0 rfl) ?_
  refine lv_aload_n hx hb dX1_copyFrom_32 rfl (lv_at hl 1 rfl) ?_
  refine va_get (D := G.1) (ci := 1) (v := .int (nI (tg 0))) (C := RX1) (T := TX1) (N := 12) hx hb hts mic_copyFrom_1 hown hK hP 3 rfl rfl 2 (by decide) (hts _ mwc_copyFrom_7) (fun _ h9 => h9) rfl dX1_copyFrom_33 ?_
  refine zk_put (D := G.1) (ci := 1) (v := .int (nI (tg 0))) (ty := .int) (C := RX1) (T := TX1) (N := 12) (ws2 := [(a0, .inr (1, [.ref a1, .ref a2, .int (nI (tg 0)), .int (nI (sg 1)), .int (nI (sg 7)), .int (nI (sg 8)), .int (nI (sg 9)), .int (nI (sg 2)), .int (nI (sg 3)), .int (nI (sg 4)), .int (nI (sg 5)), .int (nI (sg 6))])), (a1, .inl (G.2.1, 8, .inl (arN (cpF sz tz 0 0 8)))), (a2, .inl (G.2.1, 640, .inl (arN (cpF sc tc 0 0 640)))), (o0, .inr (1, [.ref o1, .ref o2, .int (nI (tg 0)), .int (nI (tg 1)), .int (nI (tg 7)), .int (nI (tg 8)), .int (nI (tg 9)), .int (nI (tg 2)), .int (nI (tg 3)), .int (nI (tg 4)), .int (nI (tg 5)), .int (nI (tg 6))])), (o1, .inl (G.2.1, 8, .inl (arN tz))), (o2, .inl (G.2.1, 640, .inl (arN tc)))]) hx hb hts mic_copyFrom_1 tyX1 tyX1_ok nmX1 hown hK hP hD hS 0 rfl rfl 2 (by decide) (hts _ mwc_copyFrom_7) (fun _ h9 => h9) rfl (by decide +kernel) rfl rfl (Nat.le_of_ble_eq_true rfl) rfl dX1_copyFrom_36 (fun H locs hP hD hS => ?_)
  refine lv_aload_n hx hb dX1_copyFrom_39 rfl (lv_at hl 0 rfl) ?_
  refine lv_aload_n hx hb dX1_copyFrom_40 rfl (lv_at hl 1 rfl) ?_
  refine va_get (D := G.1) (ci := 1) (v := .int (nI (tg 1))) (C := RX1) (T := TX1) (N := 12) hx hb hts mic_copyFrom_1 hown hK hP 3 rfl rfl 3 (by decide) (hts _ mwc_copyFrom_8) (fun _ h9 => h9) rfl dX1_copyFrom_41 ?_
  refine zk_put (D := G.1) (ci := 1) (v := .int (nI (tg 1))) (ty := .int) (C := RX1) (T := TX1) (N := 12) (ws2 := [(a0, .inr (1, [.ref a1, .ref a2, .int (nI (tg 0)), .int (nI (tg 1)), .int (nI (sg 7)), .int (nI (sg 8)), .int (nI (sg 9)), .int (nI (sg 2)), .int (nI (sg 3)), .int (nI (sg 4)), .int (nI (sg 5)), .int (nI (sg 6))])), (a1, .inl (G.2.1, 8, .inl (arN (cpF sz tz 0 0 8)))), (a2, .inl (G.2.1, 640, .inl (arN (cpF sc tc 0 0 640)))), (o0, .inr (1, [.ref o1, .ref o2, .int (nI (tg 0)), .int (nI (tg 1)), .int (nI (tg 7)), .int (nI (tg 8)), .int (nI (tg 9)), .int (nI (tg 2)), .int (nI (tg 3)), .int (nI (tg 4)), .int (nI (tg 5)), .int (nI (tg 6))])), (o1, .inl (G.2.1, 8, .inl (arN tz))), (o2, .inl (G.2.1, 640, .inl (arN tc)))]) hx hb hts mic_copyFrom_1 tyX1 tyX1_ok nmX1 hown hK hP hD hS 0 rfl rfl 3 (by decide) (hts _ mwc_copyFrom_8) (fun _ h9 => h9) rfl (by decide +kernel) rfl rfl (Nat.le_of_ble_eq_true rfl) rfl dX1_copyFrom_44 (fun H locs hP hD hS => ?_)
  refine lv_aload_n hx hb dX1_copyFrom_47 rfl (lv_at hl 0 rfl) ?_
  refine lv_aload_n hx hb dX1_copyFrom_48 rfl (lv_at hl 1 rfl) ?_
  refine va_get (D := G.1) (ci := 1) (v := .int (nI (tg 7))) (C := RX1) (T := TX1) (N := 12) hx hb hts mic_copyFrom_1 hown hK hP 3 rfl rfl 4 (by decide) (hts _ mwc_copyFrom_9) (fun _ h9 => h9) rfl dX1_copyFrom_49 ?_
  refine zk_put (D := G.1) (ci := 1) (v := .int (nI (tg 7))) (ty := .int) (C := RX1) (T := TX1) (N := 12) (ws2 := [(a0, .inr (1, [.ref a1, .ref a2, .int (nI (tg 0)), .int (nI (tg 1)), .int (nI (tg 7)), .int (nI (sg 8)), .int (nI (sg 9)), .int (nI (sg 2)), .int (nI (sg 3)), .int (nI (sg 4)), .int (nI (sg 5)), .int (nI (sg 6))])), (a1, .inl (G.2.1, 8, .inl (arN (cpF sz tz 0 0 8)))), (a2, .inl (G.2.1, 640, .inl (arN (cpF sc tc 0 0 640)))), (o0, .inr (1, [.ref o1, .ref o2, .int (nI (tg 0)), .int (nI (tg 1)), .int (nI (tg 7)), .int (nI (tg 8)), .int (nI (tg 9)), .int (nI (tg 2)), .int (nI (tg 3)), .int (nI (tg 4)), .int (nI (tg 5)), .int (nI (tg 6))])), (o1, .inl (G.2.1, 8, .inl (arN tz))), (o2, .inl (G.2.1, 640, .inl (arN tc)))]) hx hb hts mic_copyFrom_1 tyX1 tyX1_ok nmX1 hown hK hP hD hS 0 rfl rfl 4 (by decide) (hts _ mwc_copyFrom_9) (fun _ h9 => h9) rfl (by decide +kernel) rfl rfl (Nat.le_of_ble_eq_true rfl) rfl dX1_copyFrom_52 (fun H locs hP hD hS => ?_)
  refine lv_aload_n hx hb dX1_copyFrom_55 rfl (lv_at hl 0 rfl) ?_
  refine lv_aload_n hx hb dX1_copyFrom_56 rfl (lv_at hl 1 rfl) ?_
  refine va_get (D := G.1) (ci := 1) (v := .int (nI (tg 8))) (C := RX1) (T := TX1) (N := 12) hx hb hts mic_copyFrom_1 hown hK hP 3 rfl rfl 5 (by decide) (hts _ mwc_copyFrom_10) (fun _ h9 => h9) rfl dX1_copyFrom_57 ?_
  refine zk_put (D := G.1) (ci := 1) (v := .int (nI (tg 8))) (ty := .int) (C := RX1) (T := TX1) (N := 12) (ws2 := [(a0, .inr (1, [.ref a1, .ref a2, .int (nI (tg 0)), .int (nI (tg 1)), .int (nI (tg 7)), .int (nI (tg 8)), .int (nI (sg 9)), .int (nI (sg 2)), .int (nI (sg 3)), .int (nI (sg 4)), .int (nI (sg 5)), .int (nI (sg 6))])), (a1, .inl (G.2.1, 8, .inl (arN (cpF sz tz 0 0 8)))), (a2, .inl (G.2.1, 640, .inl (arN (cpF sc tc 0 0 640)))), (o0, .inr (1, [.ref o1, .ref o2, .int (nI (tg 0)), .int (nI (tg 1)), .int (nI (tg 7)), .int (nI (tg 8)), .int (nI (tg 9)), .int (nI (tg 2)), .int (nI (tg 3)), .int (nI (tg 4)), .int (nI (tg 5)), .int (nI (tg 6))])), (o1, .inl (G.2.1, 8, .inl (arN tz))), (o2, .inl (G.2.1, 640, .inl (arN tc)))]) hx hb hts mic_copyFrom_1 tyX1 tyX1_ok nmX1 hown hK hP hD hS 0 rfl rfl 5 (by decide) (hts _ mwc_copyFrom_10) (fun _ h9 => h9) rfl (by decide +kernel) rfl rfl (Nat.le_of_ble_eq_true rfl) rfl dX1_copyFrom_60 (fun H locs hP hD hS => ?_)
  refine lv_aload_n hx hb dX1_copyFrom_63 rfl (lv_at hl 0 rfl) ?_
  refine lv_aload_n hx hb dX1_copyFrom_64 rfl (lv_at hl 1 rfl) ?_
  refine va_get (D := G.1) (ci := 1) (v := .int (nI (tg 9))) (C := RX1) (T := TX1) (N := 12) hx hb hts mic_copyFrom_1 hown hK hP 3 rfl rfl 6 (by decide) (hts _ mwc_copyFrom_11) (fun _ h9 => h9) rfl dX1_copyFrom_65 ?_
  refine zk_put (D := G.1) (ci := 1) (v := .int (nI (tg 9))) (ty := .int) (C := RX1) (T := TX1) (N := 12) (ws2 := [(a0, .inr (1, [.ref a1, .ref a2, .int (nI (tg 0)), .int (nI (tg 1)), .int (nI (tg 7)), .int (nI (tg 8)), .int (nI (tg 9)), .int (nI (sg 2)), .int (nI (sg 3)), .int (nI (sg 4)), .int (nI (sg 5)), .int (nI (sg 6))])), (a1, .inl (G.2.1, 8, .inl (arN (cpF sz tz 0 0 8)))), (a2, .inl (G.2.1, 640, .inl (arN (cpF sc tc 0 0 640)))), (o0, .inr (1, [.ref o1, .ref o2, .int (nI (tg 0)), .int (nI (tg 1)), .int (nI (tg 7)), .int (nI (tg 8)), .int (nI (tg 9)), .int (nI (tg 2)), .int (nI (tg 3)), .int (nI (tg 4)), .int (nI (tg 5)), .int (nI (tg 6))])), (o1, .inl (G.2.1, 8, .inl (arN tz))), (o2, .inl (G.2.1, 640, .inl (arN tc)))]) hx hb hts mic_copyFrom_1 tyX1 tyX1_ok nmX1 hown hK hP hD hS 0 rfl rfl 6 (by decide) (hts _ mwc_copyFrom_11) (fun _ h9 => h9) rfl (by decide +kernel) rfl rfl (Nat.le_of_ble_eq_true rfl) rfl dX1_copyFrom_68 (fun H locs hP hD hS => ?_)
  refine lv_aload_n hx hb dX1_copyFrom_71 rfl (lv_at hl 0 rfl) ?_
  refine lv_aload_n hx hb dX1_copyFrom_72 rfl (lv_at hl 1 rfl) ?_
  refine va_get (D := G.1) (ci := 1) (v := .int (nI (tg 2))) (C := RX1) (T := TX1) (N := 12) hx hb hts mic_copyFrom_1 hown hK hP 3 rfl rfl 7 (by decide) (hts _ mwc_copyFrom_12) (fun _ h9 => h9) rfl dX1_copyFrom_73 ?_
  refine zk_put (D := G.1) (ci := 1) (v := .int (nI (tg 2))) (ty := .boolean) (C := RX1) (T := TX1) (N := 12) (ws2 := [(a0, .inr (1, [.ref a1, .ref a2, .int (nI (tg 0)), .int (nI (tg 1)), .int (nI (tg 7)), .int (nI (tg 8)), .int (nI (tg 9)), .int (nI (tg 2)), .int (nI (sg 3)), .int (nI (sg 4)), .int (nI (sg 5)), .int (nI (sg 6))])), (a1, .inl (G.2.1, 8, .inl (arN (cpF sz tz 0 0 8)))), (a2, .inl (G.2.1, 640, .inl (arN (cpF sc tc 0 0 640)))), (o0, .inr (1, [.ref o1, .ref o2, .int (nI (tg 0)), .int (nI (tg 1)), .int (nI (tg 7)), .int (nI (tg 8)), .int (nI (tg 9)), .int (nI (tg 2)), .int (nI (tg 3)), .int (nI (tg 4)), .int (nI (tg 5)), .int (nI (tg 6))])), (o1, .inl (G.2.1, 8, .inl (arN tz))), (o2, .inl (G.2.1, 640, .inl (arN tc)))]) hx hb hts mic_copyFrom_1 tyX1 tyX1_ok nmX1 hown hK hP hD hS 0 rfl rfl 7 (by decide) (hts _ mwc_copyFrom_12) (fun _ h9 => h9) rfl (by decide +kernel) (bool_put hM.1.2.2.1).1 (bool_put hM.1.2.2.1).2 (Nat.le_of_ble_eq_true rfl) rfl dX1_copyFrom_76 (fun H locs hP hD hS => ?_)
  refine lv_aload_n hx hb dX1_copyFrom_79 rfl (lv_at hl 0 rfl) ?_
  refine lv_aload_n hx hb dX1_copyFrom_80 rfl (lv_at hl 1 rfl) ?_
  refine va_get (D := G.1) (ci := 1) (v := .int (nI (tg 3))) (C := RX1) (T := TX1) (N := 12) hx hb hts mic_copyFrom_1 hown hK hP 3 rfl rfl 8 (by decide) (hts _ mwc_copyFrom_13) (fun _ h9 => h9) rfl dX1_copyFrom_81 ?_
  refine zk_put (D := G.1) (ci := 1) (v := .int (nI (tg 3))) (ty := .int) (C := RX1) (T := TX1) (N := 12) (ws2 := [(a0, .inr (1, [.ref a1, .ref a2, .int (nI (tg 0)), .int (nI (tg 1)), .int (nI (tg 7)), .int (nI (tg 8)), .int (nI (tg 9)), .int (nI (tg 2)), .int (nI (tg 3)), .int (nI (sg 4)), .int (nI (sg 5)), .int (nI (sg 6))])), (a1, .inl (G.2.1, 8, .inl (arN (cpF sz tz 0 0 8)))), (a2, .inl (G.2.1, 640, .inl (arN (cpF sc tc 0 0 640)))), (o0, .inr (1, [.ref o1, .ref o2, .int (nI (tg 0)), .int (nI (tg 1)), .int (nI (tg 7)), .int (nI (tg 8)), .int (nI (tg 9)), .int (nI (tg 2)), .int (nI (tg 3)), .int (nI (tg 4)), .int (nI (tg 5)), .int (nI (tg 6))])), (o1, .inl (G.2.1, 8, .inl (arN tz))), (o2, .inl (G.2.1, 640, .inl (arN tc)))]) hx hb hts mic_copyFrom_1 tyX1 tyX1_ok nmX1 hown hK hP hD hS 0 rfl rfl 8 (by decide) (hts _ mwc_copyFrom_13) (fun _ h9 => h9) rfl (by decide +kernel) rfl rfl (Nat.le_of_ble_eq_true rfl) rfl dX1_copyFrom_84 (fun H locs hP hD hS => ?_)
  refine lv_aload_n hx hb dX1_copyFrom_87 rfl (lv_at hl 0 rfl) ?_
  refine lv_aload_n hx hb dX1_copyFrom_88 rfl (lv_at hl 1 rfl) ?_
  refine va_get (D := G.1) (ci := 1) (v := .int (nI (tg 4))) (C := RX1) (T := TX1) (N := 12) hx hb hts mic_copyFrom_1 hown hK hP 3 rfl rfl 9 (by decide) (hts _ mwc_copyFrom_14) (fun _ h9 => h9) rfl dX1_copyFrom_89 ?_
  refine zk_put (D := G.1) (ci := 1) (v := .int (nI (tg 4))) (ty := .int) (C := RX1) (T := TX1) (N := 12) (ws2 := [(a0, .inr (1, [.ref a1, .ref a2, .int (nI (tg 0)), .int (nI (tg 1)), .int (nI (tg 7)), .int (nI (tg 8)), .int (nI (tg 9)), .int (nI (tg 2)), .int (nI (tg 3)), .int (nI (tg 4)), .int (nI (sg 5)), .int (nI (sg 6))])), (a1, .inl (G.2.1, 8, .inl (arN (cpF sz tz 0 0 8)))), (a2, .inl (G.2.1, 640, .inl (arN (cpF sc tc 0 0 640)))), (o0, .inr (1, [.ref o1, .ref o2, .int (nI (tg 0)), .int (nI (tg 1)), .int (nI (tg 7)), .int (nI (tg 8)), .int (nI (tg 9)), .int (nI (tg 2)), .int (nI (tg 3)), .int (nI (tg 4)), .int (nI (tg 5)), .int (nI (tg 6))])), (o1, .inl (G.2.1, 8, .inl (arN tz))), (o2, .inl (G.2.1, 640, .inl (arN tc)))]) hx hb hts mic_copyFrom_1 tyX1 tyX1_ok nmX1 hown hK hP hD hS 0 rfl rfl 9 (by decide) (hts _ mwc_copyFrom_14) (fun _ h9 => h9) rfl (by decide +kernel) rfl rfl (Nat.le_of_ble_eq_true rfl) rfl dX1_copyFrom_92 (fun H locs hP hD hS => ?_)
  refine lv_aload_n hx hb dX1_copyFrom_95 rfl (lv_at hl 0 rfl) ?_
  refine lv_aload_n hx hb dX1_copyFrom_96 rfl (lv_at hl 1 rfl) ?_
  refine va_get (D := G.1) (ci := 1) (v := .int (nI (tg 5))) (C := RX1) (T := TX1) (N := 12) hx hb hts mic_copyFrom_1 hown hK hP 3 rfl rfl 10 (by decide) (hts _ mwc_copyFrom_15) (fun _ h9 => h9) rfl dX1_copyFrom_97 ?_
  refine zk_put (D := G.1) (ci := 1) (v := .int (nI (tg 5))) (ty := .int) (C := RX1) (T := TX1) (N := 12) (ws2 := [(a0, .inr (1, [.ref a1, .ref a2, .int (nI (tg 0)), .int (nI (tg 1)), .int (nI (tg 7)), .int (nI (tg 8)), .int (nI (tg 9)), .int (nI (tg 2)), .int (nI (tg 3)), .int (nI (tg 4)), .int (nI (tg 5)), .int (nI (sg 6))])), (a1, .inl (G.2.1, 8, .inl (arN (cpF sz tz 0 0 8)))), (a2, .inl (G.2.1, 640, .inl (arN (cpF sc tc 0 0 640)))), (o0, .inr (1, [.ref o1, .ref o2, .int (nI (tg 0)), .int (nI (tg 1)), .int (nI (tg 7)), .int (nI (tg 8)), .int (nI (tg 9)), .int (nI (tg 2)), .int (nI (tg 3)), .int (nI (tg 4)), .int (nI (tg 5)), .int (nI (tg 6))])), (o1, .inl (G.2.1, 8, .inl (arN tz))), (o2, .inl (G.2.1, 640, .inl (arN tc)))]) hx hb hts mic_copyFrom_1 tyX1 tyX1_ok nmX1 hown hK hP hD hS 0 rfl rfl 10 (by decide) (hts _ mwc_copyFrom_15) (fun _ h9 => h9) rfl (by decide +kernel) rfl rfl (Nat.le_of_ble_eq_true rfl) rfl dX1_copyFrom_100 (fun H locs hP hD hS => ?_)
  refine lv_aload_n hx hb dX1_copyFrom_103 rfl (lv_at hl 0 rfl) ?_
  refine lv_aload_n hx hb dX1_copyFrom_104 rfl (lv_at hl 1 rfl) ?_
  refine va_get (D := G.1) (ci := 1) (v := .int (nI (tg 6))) (C := RX1) (T := TX1) (N := 12) hx hb hts mic_copyFrom_1 hown hK hP 3 rfl rfl 11 (by decide) (hts _ mwc_copyFrom_16) (fun _ h9 => h9) rfl dX1_copyFrom_105 ?_
  refine zk_put (D := G.1) (ci := 1) (v := .int (nI (tg 6))) (ty := .int) (C := RX1) (T := TX1) (N := 12) (ws2 := [(a0, .inr (1, [.ref a1, .ref a2, .int (nI (tg 0)), .int (nI (tg 1)), .int (nI (tg 7)), .int (nI (tg 8)), .int (nI (tg 9)), .int (nI (tg 2)), .int (nI (tg 3)), .int (nI (tg 4)), .int (nI (tg 5)), .int (nI (tg 6))])), (a1, .inl (G.2.1, 8, .inl (arN (cpF sz tz 0 0 8)))), (a2, .inl (G.2.1, 640, .inl (arN (cpF sc tc 0 0 640)))), (o0, .inr (1, [.ref o1, .ref o2, .int (nI (tg 0)), .int (nI (tg 1)), .int (nI (tg 7)), .int (nI (tg 8)), .int (nI (tg 9)), .int (nI (tg 2)), .int (nI (tg 3)), .int (nI (tg 4)), .int (nI (tg 5)), .int (nI (tg 6))])), (o1, .inl (G.2.1, 8, .inl (arN tz))), (o2, .inl (G.2.1, 640, .inl (arN tc)))]) hx hb hts mic_copyFrom_1 tyX1 tyX1_ok nmX1 hown hK hP hD hS 0 rfl rfl 11 (by decide) (hts _ mwc_copyFrom_16) (fun _ h9 => h9) rfl (by decide +kernel) rfl rfl (Nat.le_of_ble_eq_true rfl) rfl dX1_copyFrom_108 (fun H locs hP hD hS => ?_)
  exact W.vret hx hb hr (fun tT ht hW => ⟨⟨(tg, cpF sz tz 0 0 8, cpF sc tc 0 0 640), rfl, ⟨_, _, sRel_cpy hM hR, rfl⟩, by show va_P G.1 vwCl _ tT.heap; rw [ht]; exact hP⟩, hS.F ht⟩) hS.2.2 dX1_copyFrom_111
