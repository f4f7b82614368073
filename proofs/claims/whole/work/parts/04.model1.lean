set_option maxHeartbeats 4000000 in
set_option maxRecDepth 100000 in
/-- X3_in: whether a value lies between two numbers -/
theorem c_in_c (l : Launch) (x : Int32) (lo : Nat) (hi : Nat) (hlo : lo < 1000000) (hhi : hi < 1000000) : Met l yX3_in wsX3_in ({ frames := 0, cells := 0, slots := 0, locals := 0 } : Room) (fun vV _ => vV = ([.int x, .int (nI lo), .int (nI hi)] : List Value).toArray) (vp_Si (fun (rR : Int32) => (∃ (nX : Nat), lo ≤ nX ∧ nX ≤ hi ∧ x = nI nX ∧ rR = nI 1) ∨ ((¬ ∃ n : Nat, lo ≤ n ∧ n ≤ hi ∧ x = nI n) ∧ rR = nI 0))) 0 0 (fun _ => False) := by
  refine zS (cc := cX3_in) (maxL := 3) (ret := (some .boolean)) (by decide) rfl (Nat.le_of_ble_eq_true rfl) ?_
  intro pP eE sS mM below meth cC hx hb hr hts hown hlk hml ls hl
  have hl : lv_has ls 3 [(0, .int x), (1, .int (nI lo)), (2, .int (nI hi))] := hl
  refine lv_iload_n hx hb dX3_in_0 rfl (lv_at hl 0 rfl) ?_
  refine lv_iload_n hx hb dX3_in_1 rfl (lv_at hl 1 rfl) ?_
  refine lv_icmp_lt (tgt := 14) hx hb dX3_in_2 (by decide) (fun c2 => ?_) (fun c2 => ?_)
  · refine lv_iconst (v := nI 0) hx hb dX3_in_14 (by decide) ?_
    exact W.zret (ty := .boolean) (v := nI 0) hx hb hr (rfl) (fun tT ht hW => ⟨_, rfl, Or.inr ⟨in_no1 hlo hhi c2, rfl⟩, ht⟩) (fun _ h => absurd h List.not_mem_nil) dX3_in_15
  · refine lv_iload_n hx hb dX3_in_5 rfl (lv_at hl 0 rfl) ?_
    refine lv_iload_n hx hb dX3_in_6 rfl (lv_at hl 2 rfl) ?_
    refine lv_icmp_gt (tgt := 14) hx hb dX3_in_7 (by decide) (fun c7 => ?_) (fun c7 => ?_)
    · refine lv_iconst (v := nI 0) hx hb dX3_in_14 (by decide) ?_
      exact W.zret (ty := .boolean) (v := nI 0) hx hb hr (rfl) (fun tT ht hW => ⟨_, rfl, Or.inr ⟨in_no2 hlo hhi c7, rfl⟩, ht⟩) (fun _ h => absurd h List.not_mem_nil) dX3_in_15
    · refine lv_iconst (v := nI 1) hx hb dX3_in_10 (by decide) ?_
      refine lv_goto (tgt := 15) hx hb dX3_in_11 (by decide) ?_
      have hz := in_yes hlo hhi c2 c7
      obtain ⟨nX, h1, h2, h3⟩ := hz
      exact W.zret (ty := .boolean) (v := nI 1) hx hb hr (rfl) (fun tT ht hW => ⟨_, rfl, Or.inl ⟨nX, h1, h2, h3, rfl⟩, ht⟩) (fun _ h => absurd h List.not_mem_nil) dX3_in_15
set_option maxHeartbeats 4000000 in
set_option maxRecDepth 100000 in
/-- X3_in: the same of a number -/
theorem c_in_n (l : Launch) (x : Nat) (lo : Nat) (hi : Nat) (hx1 : x < 1000000) (hlo : lo < 1000000) (hhi : hi < 1000000) : Met l yX3_in wsX3_in ({ frames := 0, cells := 0, slots := 0, locals := 0 } : Room) (fun vV _ => vV = ([.int (nI x), .int (nI lo), .int (nI hi)] : List Value).toArray) (vp_Si (fun (rR : Int32) => (lo ≤ x ∧ x ≤ hi ∧ rR = nI 1) ∨ (¬ (lo ≤ x ∧ x ≤ hi) ∧ rR = nI 0))) 0 0 (fun _ => False) := by
  refine zS (cc := cX3_in) (maxL := 3) (ret := (some .boolean)) (by decide) rfl (Nat.le_of_ble_eq_true rfl) ?_
  intro pP eE sS mM below meth cC hx hb hr hts hown hlk hml ls hl
  have hl : lv_has ls 3 [(0, .int (nI x)), (1, .int (nI lo)), (2, .int (nI hi))] := hl
  refine lv_iload_n hx hb dX3_in_0 rfl (lv_at hl 0 rfl) ?_
  refine lv_iload_n hx hb dX3_in_1 rfl (lv_at hl 1 rfl) ?_
  refine zk_ilt (tgt := 14) hx hb dX3_in_2 (by decide) (by omega) (by omega) (fun c2 => ?_) (fun c2 => ?_)
  · refine lv_iconst (v := nI 0) hx hb dX3_in_14 (by decide) ?_
    exact W.zret (ty := .boolean) (v := nI 0) hx hb hr (rfl) (fun tT ht hW => ⟨_, rfl, Or.inr ⟨(by omega), rfl⟩, ht⟩) (fun _ h => absurd h List.not_mem_nil) dX3_in_15
  · refine lv_iload_n hx hb dX3_in_5 rfl (lv_at hl 0 rfl) ?_
    refine lv_iload_n hx hb dX3_in_6 rfl (lv_at hl 2 rfl) ?_
    refine zk_igt (tgt := 14) hx hb dX3_in_7 (by decide) (by omega) (by omega) (fun c7 => ?_) (fun c7 => ?_)
    · refine lv_iconst (v := nI 0) hx hb dX3_in_14 (by decide) ?_
      exact W.zret (ty := .boolean) (v := nI 0) hx hb hr (rfl) (fun tT ht hW => ⟨_, rfl, Or.inr ⟨(by omega), rfl⟩, ht⟩) (fun _ h => absurd h List.not_mem_nil) dX3_in_15
    · refine lv_iconst (v := nI 1) hx hb dX3_in_10 (by decide) ?_
      refine lv_goto (tgt := 15) hx hb dX3_in_11 (by decide) ?_
      exact W.zret (ty := .boolean) (v := nI 1) hx hb hr (rfl) (fun tT ht hW => ⟨_, rfl, Or.inl ⟨(by omega), (by omega), rfl⟩, ht⟩) (fun _ h => absurd h List.not_mem_nil) dX3_in_15
set_option maxHeartbeats 4000000 in
set_option maxRecDepth 100000 in
/-- X3_in: whether a value is below a number -/
theorem c_in_t (l : Launch) (x : Int32) (n : Nat) (hn : n < 1000000) : Met l yX3_in wsX3_in ({ frames := 0, cells := 0, slots := 0, locals := 0 } : Room) (fun vV _ => vV = ([.int x, .int (nI 0), .int (nI n - nI 1)] : List Value).toArray) (vp_Si (fun (rR : Int32) => (∃ (kX : Nat), kX < n ∧ x = nI kX ∧ rR = nI 1) ∨ ((¬ ∃ k : Nat, k < n ∧ x = nI k) ∧ rR = nI 0))) 0 0 (fun _ => False) := by
  refine zS (cc := cX3_in) (maxL := 3) (ret := (some .boolean)) (by decide) rfl (Nat.le_of_ble_eq_true rfl) ?_
  intro pP eE sS mM below meth cC hx hb hr hts hown hlk hml ls hl
  have hl : lv_has ls 3 [(0, .int x), (1, .int (nI 0)), (2, .int (nI n - nI 1))] := hl
  refine lv_iload_n hx hb dX3_in_0 rfl (lv_at hl 0 rfl) ?_
  refine lv_iload_n hx hb dX3_in_1 rfl (lv_at hl 1 rfl) ?_
  refine lv_icmp_lt (tgt := 14) hx hb dX3_in_2 (by decide) (fun c2 => ?_) (fun c2 => ?_)
  · refine lv_iconst (v := nI 0) hx hb dX3_in_14 (by decide) ?_
    exact W.zret (ty := .boolean) (v := nI 0) hx hb hr (rfl) (fun tT ht hW => ⟨_, rfl, Or.inr ⟨int_no1 hn c2, rfl⟩, ht⟩) (fun _ h => absurd h List.not_mem_nil) dX3_in_15
  · refine lv_iload_n hx hb dX3_in_5 rfl (lv_at hl 0 rfl) ?_
    refine lv_iload_n hx hb dX3_in_6 rfl (lv_at hl 2 rfl) ?_
    refine lv_icmp_gt (tgt := 14) hx hb dX3_in_7 (by decide) (fun c7 => ?_) (fun c7 => ?_)
    · refine lv_iconst (v := nI 0) hx hb dX3_in_14 (by decide) ?_
      exact W.zret (ty := .boolean) (v := nI 0) hx hb hr (rfl) (fun tT ht hW => ⟨_, rfl, Or.inr ⟨int_no2 hn c7, rfl⟩, ht⟩) (fun _ h => absurd h List.not_mem_nil) dX3_in_15
    · refine lv_iconst (v := nI 1) hx hb dX3_in_10 (by decide) ?_
      refine lv_goto (tgt := 15) hx hb dX3_in_11 (by decide) ?_
      have hz := int_yes hn c2 c7
      obtain ⟨kX, h1, h2⟩ := hz
      exact W.zret (ty := .boolean) (v := nI 1) hx hb hr (rfl) (fun tT ht hW => ⟨_, rfl, Or.inl ⟨kX, h1, h2, rfl⟩, ht⟩) (fun _ h => absurd h List.not_mem_nil) dX3_in_15
set_option maxHeartbeats 4000000 in
set_option maxRecDepth 100000 in
/-- X3_manyAt:  -/
theorem c_manyAt (l : Launch) (e : Nat) : Met l yX3_manyAt wsX3_manyAt ({ frames := 0, cells := 0, slots := 0, locals := 0 } : Room) (fun vV _ => vV = ([.int (nI e)] : List Value).toArray) (vp_Si (fun (rR : Int32) => rR = nI (10 + 76 * e))) 0 0 (fun _ => False) := by
  refine zS (cc := cX3_manyAt) (maxL := 1) (ret := (some .int)) (by decide) rfl (Nat.le_of_ble_eq_true rfl) ?_
  intro pP eE sS mM below meth cC hx hb hr hts hown hlk hml ls hl
  have hl : lv_has ls 1 [(0, .int (nI e))] := hl
  refine lv_bipush (v := nI 10) hx hb dX3_manyAt_0 (by decide) ?_
  refine lv_bipush (v := nI 76) hx hb dX3_manyAt_2 (by decide) ?_
  refine lv_iload_n hx hb dX3_manyAt_4 rfl (lv_at hl 0 rfl) ?_
  refine zk_mul hx hb dX3_manyAt_5 ?_
  refine zk_add hx hb dX3_manyAt_6 ?_
  exact W.iret (v := nI (10 + (76 * e))) hx hb hr (fun tT ht hW => ⟨_, rfl, rfl, ht⟩) (fun _ h => absurd h List.not_mem_nil) dX3_manyAt_7
set_option maxHeartbeats 4000000 in
set_option maxRecDepth 100000 in
/-- X3_of:  -/
theorem c_of (l : Launch) (e : Nat) (t : Nat) (w : Nat) : Met l yX3_of wsX3_of ({ frames := 1, cells := 0, slots := 0, locals := 20 } : Room) (fun vV _ => vV = ([.int (nI e), .int (nI t), .int (nI w)] : List Value).toArray) (vp_Si (fun (rR : Int32) => rR = nI (11 + 76 * e + 15 * t + w))) 0 0 (fun _ => False) := by
  refine zS (cc := cX3_of) (maxL := 3) (ret := (some .int)) (by decide) rfl (Nat.le_of_ble_eq_true rfl) ?_
  intro pP eE sS mM below meth cC hx hb hr hts hown hlk hml ls hl
  have hl : lv_has ls 3 [(0, .int (nI e)), (1, .int (nI t)), (2, .int (nI w))] := hl
  refine lv_iload_n hx hb dX3_of_0 rfl (lv_at hl 0 rfl) ?_
  refine zc_S (As := [.int (nI e)]) (rest := []) ⟨hx, hb, hml, hown, hts⟩ (c_manyAt l e ) (va_cwS 1 hts gX3_of_X3_manyAt rfl rfl rfl (by decide +kernel) ⟨Nat.le_of_ble_eq_true rfl, Nat.le_of_ble_eq_true rfl⟩) rfl hl.1 rfl (Nat.le_of_ble_eq_true rfl) dX3_of_1 ⟨Nat.zero_le _, Nat.zero_le _⟩ (fun r1 h1 => ?_)
  subst h1
  refine lv_iconst (v := nI 1) hx hb dX3_of_4 (by decide) ?_
  refine zk_add hx hb dX3_of_5 ?_
  refine lv_bipush (v := nI 15) hx hb dX3_of_6 (by decide) ?_
  refine lv_iload_n hx hb dX3_of_8 rfl (lv_at hl 1 rfl) ?_
  refine zk_mul hx hb dX3_of_9 ?_
  refine zk_add hx hb dX3_of_10 ?_
  refine lv_iload_n hx hb dX3_of_11 rfl (lv_at hl 2 rfl) ?_
  refine zk_add hx hb dX3_of_12 ?_
  exact W.iret (v := nI ((((10 + 76 * e) + 1) + (15 * t)) + w)) hx hb hr (fun tT ht hW => ⟨_, rfl, congrArg nI (by omega), ht⟩) (fun _ h => absurd h List.not_mem_nil) dX3_of_13
set_option maxHeartbeats 4000000 in
set_option maxRecDepth 100000 in
/-- X3_ofCaption:  -/
theorem c_ofCaption (l : Launch) (e : Nat) (t : Nat) (cp : Nat) (w : Nat) : Met l yX3_ofCaption wsX3_ofCaption ({ frames := 2, cells := 0, slots := 0, locals := 42 } : Room) (fun vV _ => vV = ([.int (nI e), .int (nI t), .int (nI cp), .int (nI w)] : List Value).toArray) (vp_Si (fun (rR : Int32) => rR = nI (11 + 76 * e + 15 * t + (6 + 3 * cp + w)))) 0 0 (fun _ => False) := by
  refine zS (cc := cX3_ofCaption) (maxL := 4) (ret := (some .int)) (by decide) rfl (Nat.le_of_ble_eq_true rfl) ?_
  intro pP eE sS mM below meth cC hx hb hr hts hown hlk hml ls hl
  have hl : lv_has ls 4 [(0, .int (nI e)), (1, .int (nI t)), (2, .int (nI cp)), (3, .int (nI w))] := hl
  refine lv_iload_n hx hb dX3_ofCaption_0 rfl (lv_at hl 0 rfl) ?_
  refine lv_iload_n hx hb dX3_ofCaption_1 rfl (lv_at hl 1 rfl) ?_
  refine lv_bipush (v := nI 6) hx hb dX3_ofCaption_2 (by decide) ?_
  refine lv_iconst (v := nI 3) hx hb dX3_ofCaption_4 (by decide) ?_
  refine lv_iload_n hx hb dX3_ofCaption_5 rfl (lv_at hl 2 rfl) ?_
  refine zk_mul hx hb dX3_ofCaption_6 ?_
  refine zk_add hx hb dX3_ofCaption_7 ?_
  refine lv_iload_n hx hb dX3_ofCaption_8 rfl (lv_at hl 3 rfl) ?_
  refine zk_add hx hb dX3_ofCaption_9 ?_
  refine zc_S (As := [.int (nI e), .int (nI t), .int (nI ((6 + (3 * cp)) + w))]) (rest := []) ⟨hx, hb, hml, hown, hts⟩ (c_of l e t ((6 + (3 * cp)) + w) ) (va_cwS 3 hts gX3_ofCaption_X3_of rfl rfl rfl (by decide +kernel) ⟨Nat.le_of_ble_eq_true rfl, Nat.le_of_ble_eq_true rfl⟩) rfl hl.1 rfl (Nat.le_of_ble_eq_true rfl) dX3_ofCaption_10 ⟨Nat.zero_le _, Nat.zero_le _⟩ (fun r10 h10 => ?_)
  subst h10
  exact W.iret (v := nI (11 + 76 * e + 15 * t + ((6 + (3 * cp)) + w))) hx hb hr (fun tT ht hW => ⟨_, rfl, rfl, ht⟩) (fun _ h => absurd h List.not_mem_nil) dX3_ofCaption_13
set_option maxHeartbeats 4000000 in
set_option maxRecDepth 100000 in
/-- X3_isExhibit:  -/
theorem c_isExhibit (l : Launch) (x : Int32) : Met l yX3_isExhibit wsX3_isExhibit ({ frames := 1, cells := 0, slots := 0, locals := 22 } : Room) (fun vV _ => vV = ([.int x] : List Value).toArray) (vp_Si (fun (rR : Int32) => (∃ (eX : Nat), eX < 8 ∧ x = nI eX ∧ rR = nI 1) ∨ ((¬ ∃ e : Nat, e < 8 ∧ x = nI e) ∧ rR = nI 0))) 0 0 (fun _ => False) := by
  refine zS (cc := cX3_isExhibit) (maxL := 1) (ret := (some .boolean)) (by decide) rfl (Nat.le_of_ble_eq_true rfl) ?_
  intro pP eE sS mM below meth cC hx hb hr hts hown hlk hml ls hl
  have hl : lv_has ls 1 [(0, .int x)] := hl
  refine lv_iload_n hx hb dX3_isExhibit_0 rfl (lv_at hl 0 rfl) ?_
  refine lv_iconst (v := nI 0) hx hb dX3_isExhibit_1 (by decide) ?_
  refine lv_bipush (v := nI 7) hx hb dX3_isExhibit_2 (by decide) ?_
  refine zc_S (As := [.int x, .int (nI 0), .int (nI 7)]) (rest := []) ⟨hx, hb, hml, hown, hts⟩ (c_in_c l x 0 7 (by decide) (by decide)) (va_cwS 3 hts gX3_isExhibit_X3_in rfl rfl rfl (by decide +kernel) ⟨Nat.le_of_ble_eq_true rfl, Nat.le_of_ble_eq_true rfl⟩) rfl hl.1 rfl (Nat.le_of_ble_eq_true rfl) dX3_isExhibit_4 ⟨Nat.zero_le _, Nat.zero_le _⟩ (fun r4 h4 => ?_)
  rcases h4 with ⟨nX_4, h4_0, h4_1, rfl, rfl⟩ | ⟨h4_0, rfl⟩
  · exact W.zret (ty := .boolean) (v := nI 1) hx hb hr (rfl) (fun tT ht hW => ⟨_, rfl, Or.inl ⟨nX_4, by omega, rfl, rfl⟩, ht⟩) (fun _ h => absurd h List.not_mem_nil) dX3_isExhibit_7
  · exact W.zret (ty := .boolean) (v := nI 0) hx hb hr (rfl) (fun tT ht hW => ⟨_, rfl, Or.inr ⟨fun ⟨e, q1, q2⟩ => h4_0 ⟨e, Nat.zero_le _, by omega, q2⟩, rfl⟩, ht⟩) (fun _ h => absurd h List.not_mem_nil) dX3_isExhibit_7
set_option maxRecDepth 100000 in
theorem mwc_isText_0 : Cond.fieldLink RX3 7 "ExhibitTextsModel" "s" "[I" ∈ wsX3_isText := by decide +kernel
set_option maxRecDepth 100000 in
theorem mic_isText_3 : ∀ w ∈ u_ws RX3 TX3 14, w ∈ wsX3_isText := by decide +kernel
set_option maxHeartbeats 4000000 in
set_option maxRecDepth 100000 in
/-- X3_isText: whether there is such a text -/
theorem c_isText (l : Launch) (G : zG) (b0 : Nat) (b1 : Nat) (b2 : Nat) (b3 : Nat) (b4 : Nat) (b5 : Nat) (b6 : Nat) (kn : Nat) (ik : Nat) (ty : Nat) (ra : Int32) (rb : Int32) (rd : Nat) (iw : Nat) (fl : Int32) (sg : Nat → Nat) (x : Int32) (y : Int32) (hM : mOK sg) : Met l yX3_isText wsX3_isText ({ frames := 2, cells := 0, slots := 0, locals := 42 } : Room) (zPc G [.ref b0, .int x, .int y] [(b0, .inr (3, [.ref b1, .ref b2, .ref b3, .int (nI kn), .ref b4, .int (nI ik), .ref b5, .int (nI ty), .int ra, .int rb, .int (nI rd), .int (nI iw), .ref b6, .int fl])), (b1, .inl (G.2.1, 618, .inl (arN sg)))]) (vp_Si (fun (rR : Int32) => (∃ (eX : Nat) (tX : Nat), eX < 8 ∧ tX < sg (10 + 76 * eX) ∧ x = nI eX ∧ y = nI tX ∧ rR = nI 1) ∨ (¬ pTn (fun e => sg (10 + 76 * e)) x y ∧ rR = nI 0))) 0 0 (fun _ => False) := by
  refine zR (cc := cX3_isText) (maxL := 3) (ret := (some .boolean)) (by decide) rfl (Nat.le_of_ble_eq_true rfl) ?_
  intro pP eE sS mM below meth cC hx hb hr hts hown hlk hml hK hN hP hD ls hl
  have hl : lv_has ls 3 [(0, .ref b0), (1, .int x), (2, .int y)] := hl
  refine lv_iload_n hx hb dX3_isText_0 rfl (lv_at hl 1 rfl) ?_
  refine zc_S (As := [.int x]) (rest := []) ⟨hx, hb, hml, hown, hts⟩ (c_isExhibit l x ) (va_cwS 1 hts gX3_isText_X3_isExhibit rfl rfl rfl (by decide +kernel) ⟨Nat.le_of_ble_eq_true rfl, Nat.le_of_ble_eq_true rfl⟩) rfl hl.1 rfl (Nat.le_of_ble_eq_true rfl) dX3_isText_1 ⟨Nat.zero_le _, Nat.zero_le _⟩ (fun r1 h1 => ?_)
  rcases h1 with ⟨eX_1, h1_0, rfl, rfl⟩ | ⟨h1_0, rfl⟩
  · refine lv_if_eq (tgt := 30) hx hb dX3_isText_4 (by decide) (fun q => absurd q (by decide)) (fun _ => ?_)
    refine lv_iload_n hx hb dX3_isText_7 rfl (lv_at hl 2 rfl) ?_
    refine lv_iconst (v := nI 0) hx hb dX3_isText_8 (by decide) ?_
    refine lv_aload_n hx hb dX3_isText_9 rfl (lv_at hl 0 rfl) ?_
    refine va_get (D := G.1) (ci := 3) (v := .ref b1) (C := RX3) (T := TX3) (N := 14) hx hb hts mic_isText_3 hown hK hP 0 rfl rfl 0 (by decide) (hts _ mwc_isText_0) (fun _ h9 => h9) rfl dX3_isText_10 ?_
    refine lv_iload_n hx hb dX3_isText_13 rfl (lv_at hl 1 rfl) ?_
    refine zc_S (As := [.int (nI eX_1)]) (rest := [.ref b1, .int (nI 0), .int y]) ⟨hx, hb, hml, hown, hts⟩ (c_manyAt l eX_1 ) (va_cwS 1 hts gX3_isText_X3_manyAt rfl rfl rfl (by decide +kernel) ⟨Nat.le_of_ble_eq_true rfl, Nat.le_of_ble_eq_true rfl⟩) rfl hl.1 rfl (Nat.le_of_ble_eq_true rfl) dX3_isText_14 ⟨Nat.zero_le _, Nat.zero_le _⟩ (fun r14 h14 => ?_)
    subst h14
    refine zk_ald (f := sg) (k := 10 + 76 * eX_1) hx hb hK hP 1 0 rfl rfl (Nat.le_of_ble_eq_true rfl) (by omega) dX3_isText_17 ?_
    refine lv_iconst (v := nI 1) hx hb dX3_isText_18 (by decide) ?_
    refine lv_isub hx hb dX3_isText_19 ?_
    have hz := hM.2.1 eX_1 h1_0
    refine zc_S (As := [.int y, .int (nI 0), .int ((nI (sg (10 + 76 * eX_1))) - (nI 1))]) (rest := []) ⟨hx, hb, hml, hown, hts⟩ (c_in_t l y (sg (10 + 76 * eX_1)) (by omega)) (va_cwS 3 hts gX3_isText_X3_in rfl rfl rfl (by decide +kernel) ⟨Nat.le_of_ble_eq_true rfl, Nat.le_of_ble_eq_true rfl⟩) rfl hl.1 rfl (Nat.le_of_ble_eq_true rfl) dX3_isText_20 ⟨Nat.zero_le _, Nat.zero_le _⟩ (fun r20 h20 => ?_)
    rcases h20 with ⟨kX_20, h20_0, rfl, rfl⟩ | ⟨h20_0, rfl⟩
    · refine lv_if_eq (tgt := 30) hx hb dX3_isText_23 (by decide) (fun q => absurd q (by decide)) (fun _ => ?_)
      refine lv_iconst (v := nI 1) hx hb dX3_isText_26 (by decide) ?_
      refine lv_goto (tgt := 31) hx hb dX3_isText_27 (by decide) ?_
      exact W.zret (ty := .boolean) (v := nI 1) hx hb hr (rfl) (fun tT ht hW => ⟨_, rfl, Or.inl ⟨eX_1, kX_20, h1_0, h20_0, rfl, rfl, rfl⟩, ht⟩) (fun _ h => absurd h List.not_mem_nil) dX3_isText_31
    · refine lv_if_eq (tgt := 30) hx hb dX3_isText_23 (by decide) (fun _ => ?_) (fun q => absurd (by decide) q)
      refine lv_iconst (v := nI 0) hx hb dX3_isText_30 (by decide) ?_
      exact W.zret (ty := .boolean) (v := nI 0) hx hb hr (rfl) (fun tT ht hW => ⟨_, rfl, Or.inr ⟨pTn_no h1_0 h20_0, rfl⟩, ht⟩) (fun _ h => absurd h List.not_mem_nil) dX3_isText_31
  · refine lv_if_eq (tgt := 30) hx hb dX3_isText_4 (by decide) (fun _ => ?_) (fun q => absurd (by decide) q)
    refine lv_iconst (v := nI 0) hx hb dX3_isText_30 (by decide) ?_
    exact W.zret (ty := .boolean) (v := nI 0) hx hb hr (rfl) (fun tT ht hW => ⟨_, rfl, Or.inr ⟨fun ⟨e, t, q1, q2, q3, q4⟩ => h1_0 ⟨e, q1, q3⟩, rfl⟩, ht⟩) (fun _ h => absurd h List.not_mem_nil) dX3_isText_31
set_option maxRecDepth 100000 in
theorem mwc_isCaption_k_0 : Cond.fieldLink RX3 7 "ExhibitTextsModel" "s" "[I" ∈ wsX3_isCaption := by decide +kernel
set_option maxRecDepth 100000 in
theorem mic_isCaption_k_3 : ∀ w ∈ u_ws RX3 TX3 14, w ∈ wsX3_isCaption := by decide +kernel
set_option maxHeartbeats 4000000 in
set_option maxRecDepth 100000 in
/-- X3_isCaption: whether a text that is known has such a caption -/
theorem c_isCaption_k (l : Launch) (G : zG) (b0 : Nat) (b1 : Nat) (b2 : Nat) (b3 : Nat) (b4 : Nat) (b5 : Nat) (b6 : Nat) (kn : Nat) (ik : Nat) (ty : Nat) (ra : Int32) (rb : Int32) (rd : Nat) (iw : Nat) (fl : Int32) (sg : Nat → Nat) (e : Nat) (t : Nat) (y : Int32) (hM : mOK sg) (he : e < 8) (ht : t < sg (10 + 76 * e)) : Met l yX3_isCaption wsX3_isCaption ({ frames := 3, cells := 0, slots := 0, locals := 64 } : Room) (zPc G [.ref b0, .int (nI e), .int (nI t), .int y] [(b0, .inr (3, [.ref b1, .ref b2, .ref b3, .int (nI kn), .ref b4, .int (nI ik), .ref b5, .int (nI ty), .int ra, .int rb, .int (nI rd), .int (nI iw), .ref b6, .int fl])), (b1, .inl (G.2.1, 618, .inl (arN sg)))]) (vp_Si (fun (rR : Int32) => (∃ (kX : Nat), kX < sg (11 + 76 * e + 15 * t + 5) ∧ y = nI kX ∧ rR = nI 1) ∨ ((¬ ∃ k : Nat, k < sg (11 + 76 * e + 15 * t + 5) ∧ y = nI k) ∧ rR = nI 0))) 0 0 (fun _ => False) := by
  refine zR (cc := cX3_isCaption) (maxL := 4) (ret := (some .boolean)) (by decide) rfl (Nat.le_of_ble_eq_true rfl) ?_
  intro pP eE sS mM below meth cC hx hb hr hts hown hlk hml hK hN hP hD ls hl
  have hl : lv_has ls 4 [(0, .ref b0), (1, .int (nI e)), (2, .int (nI t)), (3, .int y)] := hl
  have hz := hM.2.1 e he
  have hT := hM.2.2 e t he ht
  have hc3 := hT.2.2.2.2.1
  refine lv_aload_n hx hb dX3_isCaption_0 rfl (lv_at hl 0 rfl) ?_
  refine lv_iload_n hx hb dX3_isCaption_1 rfl (lv_at hl 1 rfl) ?_
  refine lv_iload_n hx hb dX3_isCaption_2 rfl (lv_at hl 2 rfl) ?_
  refine zc_R (As := [.int (nI e), .int (nI t)]) (rest := []) ⟨hx, hb, hml, hown, hts⟩ (c_isText l G b0 b1 b2 b3 b4 b5 b6 kn ik ty ra rb rd iw fl sg (nI e) (nI t) (by omega)) (cwV 2 hts gX3_isCaption_X3_isText rfl rfl rfl (by decide +kernel) ⟨Nat.le_of_ble_eq_true rfl, Nat.le_of_ble_eq_true rfl⟩) hK hN hP hD [0, 1] rfl (by decide) (ci := 3) rfl rfl rfl hl.1 rfl (Nat.le_of_ble_eq_true rfl) dX3_isCaption_3 ⟨Nat.zero_le _, Nat.zero_le _⟩ (fun r3 h3 => ?_)
  rcases h3 with ⟨eX_3, tX_3, h3_0, h3_1, h3_2, h3_3, rfl⟩ | ⟨h3_0, rfl⟩
  · have h8 := nI_inj (by omega) (by omega) h3_2; have h9 := nI_inj (by omega) (by have := hM.2.1 _ h3_0; omega) h3_3; subst h8; subst h9
    refine lv_if_eq (tgt := 34) hx hb dX3_isCaption_6 (by decide) (fun q => absurd q (by decide)) (fun _ => ?_)
    refine lv_iload_n hx hb dX3_isCaption_9 rfl (lv_at hl 3 rfl) ?_
    refine lv_iconst (v := nI 0) hx hb dX3_isCaption_10 (by decide) ?_
    refine lv_aload_n hx hb dX3_isCaption_11 rfl (lv_at hl 0 rfl) ?_
    refine va_get (D := G.1) (ci := 3) (v := .ref b1) (C := RX3) (T := TX3) (N := 14) hx hb hts mic_isCaption_k_3 hown hK hP 0 rfl rfl 0 (by decide) (hts _ mwc_isCaption_k_0) (fun _ h9 => h9) rfl dX3_isCaption_12 ?_
    refine lv_iload_n hx hb dX3_isCaption_15 rfl (lv_at hl 1 rfl) ?_
    refine lv_iload_n hx hb dX3_isCaption_16 rfl (lv_at hl 2 rfl) ?_
    refine lv_iconst (v := nI 5) hx hb dX3_isCaption_17 (by decide) ?_
    refine zc_S (As := [.int (nI e), .int (nI t), .int (nI 5)]) (rest := [.ref b1, .int (nI 0), .int y]) ⟨hx, hb, hml, hown, hts⟩ (c_of l e t 5 ) (va_cwS 3 hts gX3_isCaption_X3_of rfl rfl rfl (by decide +kernel) ⟨Nat.le_of_ble_eq_true rfl, Nat.le_of_ble_eq_true rfl⟩) rfl hl.1 rfl (Nat.le_of_ble_eq_true rfl) dX3_isCaption_18 ⟨Nat.zero_le _, Nat.zero_le _⟩ (fun r18 h18 => ?_)
    subst h18
    refine zk_ald (f := sg) (k := 11 + 76 * e + 15 * t + 5) hx hb hK hP 1 0 rfl rfl (Nat.le_of_ble_eq_true rfl) (by omega) dX3_isCaption_21 ?_
    refine lv_iconst (v := nI 1) hx hb dX3_isCaption_22 (by decide) ?_
    refine lv_isub hx hb dX3_isCaption_23 ?_
    refine zc_S (As := [.int y, .int (nI 0), .int ((nI (sg (11 + 76 * e + 15 * t + 5))) - (nI 1))]) (rest := []) ⟨hx, hb, hml, hown, hts⟩ (c_in_t l y (sg (11 + 76 * e + 15 * t + 5)) (by omega)) (va_cwS 3 hts gX3_isCaption_X3_in rfl rfl rfl (by decide +kernel) ⟨Nat.le_of_ble_eq_true rfl, Nat.le_of_ble_eq_true rfl⟩) rfl hl.1 rfl (Nat.le_of_ble_eq_true rfl) dX3_isCaption_24 ⟨Nat.zero_le _, Nat.zero_le _⟩ (fun r24 h24 => ?_)
    rcases h24 with ⟨kX_24, h24_0, rfl, rfl⟩ | ⟨h24_0, rfl⟩
    · refine lv_if_eq (tgt := 34) hx hb dX3_isCaption_27 (by decide) (fun q => absurd q (by decide)) (fun _ => ?_)
      refine lv_iconst (v := nI 1) hx hb dX3_isCaption_30 (by decide) ?_
      refine lv_goto (tgt := 35) hx hb dX3_isCaption_31 (by decide) ?_
      exact W.zret (ty := .boolean) (v := nI 1) hx hb hr (rfl) (fun tT ht hW => ⟨_, rfl, Or.inl ⟨kX_24, h24_0, rfl, rfl⟩, ht⟩) (fun _ h => absurd h List.not_mem_nil) dX3_isCaption_35
    · refine lv_if_eq (tgt := 34) hx hb dX3_isCaption_27 (by decide) (fun _ => ?_) (fun q => absurd (by decide) q)
      refine lv_iconst (v := nI 0) hx hb dX3_isCaption_34 (by decide) ?_
      exact W.zret (ty := .boolean) (v := nI 0) hx hb hr (rfl) (fun tT ht hW => ⟨_, rfl, Or.inr ⟨h24_0, rfl⟩, ht⟩) (fun _ h => absurd h List.not_mem_nil) dX3_isCaption_35
  · exact absurd ⟨e, t, he, ht, rfl, rfl⟩ h3_0
set_option maxRecDepth 100000 in
theorem mwc_isCaption_0 : Cond.fieldLink RX3 7 "ExhibitTextsModel" "s" "[I" ∈ wsX3_isCaption := by decide +kernel
set_option maxRecDepth 100000 in
theorem mic_isCaption_3 : ∀ w ∈ u_ws RX3 TX3 14, w ∈ wsX3_isCaption := by decide +kernel
set_option maxHeartbeats 4000000 in
set_option maxRecDepth 100000 in
/-- X3_isCaption: whether there is such a caption -/
theorem c_isCaption (l : Launch) (G : zG) (b0 : Nat) (b1 : Nat) (b2 : Nat) (b3 : Nat) (b4 : Nat) (b5 : Nat) (b6 : Nat) (kn : Nat) (ik : Nat) (ty : Nat) (ra : Int32) (rb : Int32) (rd : Nat) (iw : Nat) (fl : Int32) (sg : Nat → Nat) (x : Int32) (y : Int32) (z : Int32) (hM : mOK sg) : Met l yX3_isCaption wsX3_isCaption ({ frames := 3, cells := 0, slots := 0, locals := 64 } : Room) (zPc G [.ref b0, .int x, .int y, .int z] [(b0, .inr (3, [.ref b1, .ref b2, .ref b3, .int (nI kn), .ref b4, .int (nI ik), .ref b5, .int (nI ty), .int ra, .int rb, .int (nI rd), .int (nI iw), .ref b6, .int fl])), (b1, .inl (G.2.1, 618, .inl (arN sg)))]) (vp_Si (fun (rR : Int32) => (∃ (eX : Nat) (tX : Nat) (kX : Nat), eX < 8 ∧ tX < sg (10 + 76 * eX) ∧ kX < sg (11 + 76 * eX + 15 * tX + 5) ∧ x = nI eX ∧ y = nI tX ∧ z = nI kX ∧ rR = nI 1) ∨ (¬ pCp (fun e => sg (10 + 76 * e)) (fun e t => sg (11 + 76 * e + 15 * t + 5)) x y z ∧ rR = nI 0))) 0 0 (fun _ => False) := by
  refine zR (cc := cX3_isCaption) (maxL := 4) (ret := (some .boolean)) (by decide) rfl (Nat.le_of_ble_eq_true rfl) ?_
  intro pP eE sS mM below meth cC hx hb hr hts hown hlk hml hK hN hP hD ls hl
  have hl : lv_has ls 4 [(0, .ref b0), (1, .int x), (2, .int y), (3, .int z)] := hl
  refine lv_aload_n hx hb dX3_isCaption_0 rfl (lv_at hl 0 rfl) ?_
  refine lv_iload_n hx hb dX3_isCaption_1 rfl (lv_at hl 1 rfl) ?_
  refine lv_iload_n hx hb dX3_isCaption_2 rfl (lv_at hl 2 rfl) ?_
  refine zc_R (As := [.int x, .int y]) (rest := []) ⟨hx, hb, hml, hown, hts⟩ (c_isText l G b0 b1 b2 b3 b4 b5 b6 kn ik ty ra rb rd iw fl sg x y (by omega)) (cwV 2 hts gX3_isCaption_X3_isText rfl rfl rfl (by decide +kernel) ⟨Nat.le_of_ble_eq_true rfl, Nat.le_of_ble_eq_true rfl⟩) hK hN hP hD [0, 1] rfl (by decide) (ci := 3) rfl rfl rfl hl.1 rfl (Nat.le_of_ble_eq_true rfl) dX3_isCaption_3 ⟨Nat.zero_le _, Nat.zero_le _⟩ (fun r3 h3 => ?_)
  rcases h3 with ⟨eX_3, tX_3, h3_0, h3_1, rfl, rfl, rfl⟩ | ⟨h3_0, rfl⟩
  · have hz := hM.2.1 eX_3 h3_0
    have hT := hM.2.2 eX_3 tX_3 h3_0 h3_1
    have hc3 := hT.2.2.2.2.1
    refine lv_if_eq (tgt := 34) hx hb dX3_isCaption_6 (by decide) (fun q => absurd q (by decide)) (fun _ => ?_)
    refine lv_iload_n hx hb dX3_isCaption_9 rfl (lv_at hl 3 rfl) ?_
    refine lv_iconst (v := nI 0) hx hb dX3_isCaption_10 (by decide) ?_
    refine lv_aload_n hx hb dX3_isCaption_11 rfl (lv_at hl 0 rfl) ?_
    refine va_get (D := G.1) (ci := 3) (v := .ref b1) (C := RX3) (T := TX3) (N := 14) hx hb hts mic_isCaption_3 hown hK hP 0 rfl rfl 0 (by decide) (hts _ mwc_isCaption_0) (fun _ h9 => h9) rfl dX3_isCaption_12 ?_
    refine lv_iload_n hx hb dX3_isCaption_15 rfl (lv_at hl 1 rfl) ?_
    refine lv_iload_n hx hb dX3_isCaption_16 rfl (lv_at hl 2 rfl) ?_
    refine lv_iconst (v := nI 5) hx hb dX3_isCaption_17 (by decide) ?_
    refine zc_S (As := [.int (nI eX_3), .int (nI tX_3), .int (nI 5)]) (rest := [.ref b1, .int (nI 0), .int z]) ⟨hx, hb, hml, hown, hts⟩ (c_of l eX_3 tX_3 5 ) (va_cwS 3 hts gX3_isCaption_X3_of rfl rfl rfl (by decide +kernel) ⟨Nat.le_of_ble_eq_true rfl, Nat.le_of_ble_eq_true rfl⟩) rfl hl.1 rfl (Nat.le_of_ble_eq_true rfl) dX3_isCaption_18 ⟨Nat.zero_le _, Nat.zero_le _⟩ (fun r18 h18 => ?_)
    subst h18
    refine zk_ald (f := sg) (k := 11 + 76 * eX_3 + 15 * tX_3 + 5) hx hb hK hP 1 0 rfl rfl (Nat.le_of_ble_eq_true rfl) (by omega) dX3_isCaption_21 ?_
    refine lv_iconst (v := nI 1) hx hb dX3_isCaption_22 (by decide) ?_
    refine lv_isub hx hb dX3_isCaption_23 ?_
    refine zc_S (As := [.int z, .int (nI 0), .int ((nI (sg (11 + 76 * eX_3 + 15 * tX_3 + 5))) - (nI 1))]) (rest := []) ⟨hx, hb, hml, hown, hts⟩ (c_in_t l z (sg (11 + 76 * eX_3 + 15 * tX_3 + 5)) (by omega)) (va_cwS 3 hts gX3_isCaption_X3_in rfl rfl rfl (by decide +kernel) ⟨Nat.le_of_ble_eq_true rfl, Nat.le_of_ble_eq_true rfl⟩) rfl hl.1 rfl (Nat.le_of_ble_eq_true rfl) dX3_isCaption_24 ⟨Nat.zero_le _, Nat.zero_le _⟩ (fun r24 h24 => ?_)
    rcases h24 with ⟨kX_24, h24_0, rfl, rfl⟩ | ⟨h24_0, rfl⟩
    · refine lv_if_eq (tgt := 34) hx hb dX3_isCaption_27 (by decide) (fun q => absurd q (by decide)) (fun _ => ?_)
      refine lv_iconst (v := nI 1) hx hb dX3_isCaption_30 (by decide) ?_
      refine lv_goto (tgt := 35) hx hb dX3_isCaption_31 (by decide) ?_
      exact W.zret (ty := .boolean) (v := nI 1) hx hb hr (rfl) (fun tT ht hW => ⟨_, rfl, Or.inl ⟨eX_3, tX_3, kX_24, h3_0, h3_1, h24_0, rfl, rfl, rfl, rfl⟩, ht⟩) (fun _ h => absurd h List.not_mem_nil) dX3_isCaption_35
    · refine lv_if_eq (tgt := 34) hx hb dX3_isCaption_27 (by decide) (fun _ => ?_) (fun q => absurd (by decide) q)
      refine lv_iconst (v := nI 0) hx hb dX3_isCaption_34 (by decide) ?_
      exact W.zret (ty := .boolean) (v := nI 0) hx hb hr (rfl) (fun tT ht hW => ⟨_, rfl, Or.inr ⟨pCp_no (h3_0) (by have := hM.2.1 _ h3_0; omega) (fun e t h1 h2 => by have := hM.2.1 e h1; omega) h24_0, rfl⟩, ht⟩) (fun _ h => absurd h List.not_mem_nil) dX3_isCaption_35
  · refine lv_if_eq (tgt := 34) hx hb dX3_isCaption_6 (by decide) (fun _ => ?_) (fun q => absurd (by decide) q)
    refine lv_iconst (v := nI 0) hx hb dX3_isCaption_34 (by decide) ?_
    exact W.zret (ty := .boolean) (v := nI 0) hx hb hr (rfl) (fun tT ht hW => ⟨_, rfl, Or.inr ⟨fun ⟨e, t, k, q1, q2, q3, q4, q5, q6⟩ => h3_0 ⟨e, t, q1, q2, q4, q5⟩, rfl⟩, ht⟩) (fun _ h => absurd h List.not_mem_nil) dX3_isCaption_35
set_option maxHeartbeats 4000000 in
set_option maxRecDepth 100000 in
/-- X3_bitsOf:  -/
theorem c_bitsOf (l : Launch) (v : Nat) (hv : v ≤ 65535) : Met l yX3_bitsOf wsX3_bitsOf ({ frames := 0, cells := 0, slots := 0, locals := 0 } : Room) (fun vV _ => vV = ([.int (nI v)] : List Value).toArray) (vp_Si (fun (rR : Int32) => rR = nI (bitsN v 16))) 0 0 (fun _ => False) := by
  refine zS (cc := cX3_bitsOf) (maxL := 3) (ret := (some .int)) (by decide) rfl (Nat.le_of_ble_eq_true rfl) ?_
  intro pP eE sS mM below meth cC hx hb hr hts hown hlk hml ls hl
  have hl : lv_has ls 3 [(0, .int (nI v))] := hl
  refine lv_iconst (v := nI 0) hx hb dX3_bitsOf_0 (by decide) ?_
  refine lv_istore_n (lv' := [(1, .int (nI 0)), (0, .int (nI v))]) hx hb dX3_bitsOf_1 rfl hl (by decide) rfl (fun ls hl => ?_)
  refine lv_iconst (v := nI 0) hx hb dX3_bitsOf_2 (by decide) ?_
  refine lv_istore_n (lv' := [(2, .int (nI 0)), (1, .int (nI 0)), (0, .int (nI v))]) hx hb dX3_bitsOf_3 rfl hl (by decide) rfl (fun ls hl => ?_)
  have lp4 : ∀ (fu4 : Nat), ∀ (kX : Nat) (ls : Array Slot), (16 - kX) < fu4 → (kX ≤ 16) → lv_has ls 3 [(0, .int (nI v)), (1, .int (nI (bitsN v kX))), (2, .int (nI kX))] → W pP l eE (headSpec wsX3_bitsOf ({ frames := 0, cells := 0, slots := 0, locals := 0 } : Room)).room sS mM ([.int (nI v)] : List Value).toArray below meth cC sS.heap [] 0 0 (MQ below (vp_Si (fun (rR : Int32) => rR = nI (bitsN v 16))) ([.int (nI v)] : List Value).toArray sS 0 0 (fun _ => False)) (F0 mM 4 ls []) := by
    intro fu4
    induction fu4 with
    | zero => intro kX ls hfu4; exact absurd hfu4 (Nat.not_lt_zero _)
    | succ fu4 ih4 =>
      intro kX ls hfu4 hk hl
      refine lv_iload_n hx hb dX3_bitsOf_4 rfl (lv_at hl 2 rfl) ?_
      refine lv_bipush (v := nI 16) hx hb dX3_bitsOf_5 (by decide) ?_
      refine zk_ige (tgt := 24) hx hb dX3_bitsOf_7 (by decide) (by omega) (by omega) (fun c7 => ?_) (fun c7 => ?_)
      · refine lv_iload_n hx hb dX3_bitsOf_24 rfl (lv_at hl 1 rfl) ?_
        exact W.iret (v := nI (bitsN v kX)) hx hb hr (fun tT ht hW => ⟨_, rfl, (by rw [show kX = 16 from by omega]), ht⟩) (fun _ h => absurd h List.not_mem_nil) dX3_bitsOf_25
      · refine lv_iload_n hx hb dX3_bitsOf_10 rfl (lv_at hl 1 rfl) ?_
        refine lv_iload_n hx hb dX3_bitsOf_11 rfl (lv_at hl 0 rfl) ?_
        refine lv_iload_n hx hb dX3_bitsOf_12 rfl (lv_at hl 2 rfl) ?_
        refine lv_ishr hx hb dX3_bitsOf_13 ?_
        refine zk_top (y := nI (v / 2 ^ kX)) (zA_shr (by omega) (by omega)) ?_
        refine lv_iconst (v := nI 1) hx hb dX3_bitsOf_14 (by decide) ?_
        refine zk_and hx hb dX3_bitsOf_15 ?_
        refine zk_top (y := nI (v / 2 ^ kX % 2)) (zA_one _) ?_
        refine zk_add hx hb dX3_bitsOf_16 ?_
        refine lv_istore_n (lv' := [(1, .int (nI ((bitsN v kX) + (v / 2 ^ kX % 2)))), (0, .int (nI v)), (2, .int (nI kX))]) hx hb dX3_bitsOf_17 rfl hl (by decide) rfl (fun ls hl => ?_)
        refine zk_inc (a := kX) (d := 1) (lv' := [(2, .int (nI (kX + 1))), (1, .int (nI ((bitsN v kX) + (v / 2 ^ kX % 2)))), (0, .int (nI v))]) hx hb dX3_bitsOf_18 hl (K := 2) rfl (by decide) (by decide) rfl (fun ls hl => ?_)
        refine lv_goto (tgt := 4) hx hb dX3_bitsOf_21 (by decide) ?_
        exact ih4 (kX + 1) _ (by omega) (by omega) (lv_sub hl [2, 1, 0] rfl)
  exact lp4 _ 0 _ (Nat.lt_succ_self _) (by omega) (lv_sub hl [2, 1, 0] rfl)
set_option maxRecDepth 100000 in
theorem mwc_readingAge_0 : Cond.fieldLink RX3 7 "ExhibitTextsModel" "s" "[I" ∈ wsX3_readingAge := by decide +kernel
set_option maxRecDepth 100000 in
theorem mic_readingAge_3 : ∀ w ∈ u_ws RX3 TX3 14, w ∈ wsX3_readingAge := by decide +kernel
set_option maxHeartbeats 4000000 in
set_option maxRecDepth 100000 in
/-- X3_readingAge:  -/
theorem c_readingAge (l : Launch) (G : zG) (b0 : Nat) (b1 : Nat) (b2 : Nat) (b3 : Nat) (b4 : Nat) (b5 : Nat) (b6 : Nat) (kn : Nat) (ik : Nat) (ty : Nat) (ra : Int32) (rb : Int32) (rd : Nat) (iw : Nat) (fl : Int32) (sg : Nat → Nat) (e : Nat) (t : Nat) (he : e < 8) (ht : t < 5) (hT : txOK sg e t) : Met l yX3_readingAge wsX3_readingAge ({ frames := 2, cells := 0, slots := 0, locals := 42 } : Room) (zPc G [.ref b0, .int (nI e), .int (nI t)] [(b0, .inr (3, [.ref b1, .ref b2, .ref b3, .int (nI kn), .ref b4, .int (nI ik), .ref b5, .int (nI ty), .int ra, .int rb, .int (nI rd), .int (nI iw), .ref b6, .int fl])), (b1, .inl (G.2.1, 618, .inl (arN sg)))]) (vp_Si (fun (rR : Int32) => rR = nI (rdg sg e t))) 0 0 (fun _ => False) := by
  refine zR (cc := cX3_readingAge) (maxL := 4) (ret := (some .int)) (by decide) rfl (Nat.le_of_ble_eq_true rfl) ?_
  intro pP eE sS mM below meth cC hx hb hr hts hown hlk hml hK hN hP hD ls hl
  have hl : lv_has ls 4 [(0, .ref b0), (1, .int (nI e)), (2, .int (nI t))] := hl
  obtain ⟨⟨ha1, ha2⟩, ⟨ha3, ha4⟩, ha5, -⟩ := hT
  refine lv_aload_n hx hb dX3_readingAge_0 rfl (lv_at hl 0 rfl) ?_
  refine va_get (D := G.1) (ci := 3) (v := .ref b1) (C := RX3) (T := TX3) (N := 14) hx hb hts mic_readingAge_3 hown hK hP 0 rfl rfl 0 (by decide) (hts _ mwc_readingAge_0) (fun _ h9 => h9) rfl dX3_readingAge_1 ?_
  refine lv_iload_n hx hb dX3_readingAge_4 rfl (lv_at hl 1 rfl) ?_
  refine lv_iload_n hx hb dX3_readingAge_5 rfl (lv_at hl 2 rfl) ?_
  refine lv_iconst (v := nI 0) hx hb dX3_readingAge_6 (by decide) ?_
  refine zc_S (As := [.int (nI e), .int (nI t), .int (nI 0)]) (rest := [.ref b1]) ⟨hx, hb, hml, hown, hts⟩ (c_of l e t 0 ) (va_cwS 3 hts gX3_readingAge_X3_of rfl rfl rfl (by decide +kernel) ⟨Nat.le_of_ble_eq_true rfl, Nat.le_of_ble_eq_true rfl⟩) rfl hl.1 rfl (Nat.le_of_ble_eq_true rfl) dX3_readingAge_7 ⟨Nat.zero_le _, Nat.zero_le _⟩ (fun r7 h7 => ?_)
  subst h7
  refine zk_ald (f := sg) (k := 11 + 76 * e + 15 * t + 0) hx hb hK hP 1 0 rfl rfl (Nat.le_of_ble_eq_true rfl) (by omega) dX3_readingAge_10 ?_
  refine lv_istore_n (lv' := [(3, .int (nI (sg (11 + 76 * e + 15 * t + 0)))), (0, .ref b0), (1, .int (nI e)), (2, .int (nI t))]) hx hb dX3_readingAge_11 rfl hl (by decide) rfl (fun ls hl => ?_)
  refine lv_iconst (v := nI 4) hx hb dX3_readingAge_12 (by decide) ?_
  refine lv_iload_n hx hb dX3_readingAge_13 rfl (lv_at hl 0 rfl) ?_
  refine lv_iconst (v := nI 2) hx hb dX3_readingAge_14 (by decide) ?_
  refine lv_aload_n hx hb dX3_readingAge_15 rfl (lv_at hl 1 rfl) ?_
  refine va_get (D := G.1) (ci := 3) (v := .ref b1) (C := RX3) (T := TX3) (N := 14) hx hb hts mic_readingAge_3 hown hK hP 0 rfl rfl 0 (by decide) (hts _ mwc_readingAge_0) (fun _ h9 => h9) rfl dX3_readingAge_16 ?_
  refine lv_iload_n hx hb dX3_readingAge_19 rfl (lv_at hl 2 rfl) ?_
  refine lv_iload_n hx hb dX3_readingAge_20 rfl (lv_at hl 3 rfl) ?_
  refine lv_iconst (v := nI 1) hx hb dX3_readingAge_21 (by decide) ?_
  refine zc_S (As := [.int (nI e), .int (nI t), .int (nI 1)]) (rest := [.ref b1, .int (nI 2), .int (nI (sg (11 + 76 * e + 15 * t + 0))), .int (nI 4)]) ⟨hx, hb, hml, hown, hts⟩ (c_of l e t 1 ) (va_cwS 3 hts gX3_readingAge_X3_of rfl rfl rfl (by decide +kernel) ⟨Nat.le_of_ble_eq_true rfl, Nat.le_of_ble_eq_true rfl⟩) rfl hl.1 rfl (Nat.le_of_ble_eq_true rfl) dX3_readingAge_22 ⟨Nat.zero_le _, Nat.zero_le _⟩ (fun r22 h22 => ?_)
  subst h22
  refine zk_ald (f := sg) (k := 11 + 76 * e + 15 * t + 1) hx hb hK hP 1 0 rfl rfl (Nat.le_of_ble_eq_true rfl) (by omega) dX3_readingAge_25 ?_
  refine zk_mul hx hb dX3_readingAge_26 ?_
  refine zk_div hx hb dX3_readingAge_27 (by omega) (by omega) (by omega) ?_
  refine zk_add hx hb dX3_readingAge_28 ?_
  refine lv_bipush (v := nI 30) hx hb dX3_readingAge_29 (by decide) ?_
  refine lv_aload_n hx hb dX3_readingAge_31 rfl (lv_at hl 1 rfl) ?_
  refine va_get (D := G.1) (ci := 3) (v := .ref b1) (C := RX3) (T := TX3) (N := 14) hx hb hts mic_readingAge_3 hown hK hP 0 rfl rfl 0 (by decide) (hts _ mwc_readingAge_0) (fun _ h9 => h9) rfl dX3_readingAge_32 ?_
  refine lv_iload_n hx hb dX3_readingAge_35 rfl (lv_at hl 2 rfl) ?_
  refine lv_iload_n hx hb dX3_readingAge_36 rfl (lv_at hl 3 rfl) ?_
  refine lv_iconst (v := nI 2) hx hb dX3_readingAge_37 (by decide) ?_
  refine zc_S (As := [.int (nI e), .int (nI t), .int (nI 2)]) (rest := [.ref b1, .int (nI 30), .int (nI (4 + ((sg (11 + 76 * e + 15 * t + 0)) / (2 * (sg (11 + 76 * e + 15 * t + 1))))))]) ⟨hx, hb, hml, hown, hts⟩ (c_of l e t 2 ) (va_cwS 3 hts gX3_readingAge_X3_of rfl rfl rfl (by decide +kernel) ⟨Nat.le_of_ble_eq_true rfl, Nat.le_of_ble_eq_true rfl⟩) rfl hl.1 rfl (Nat.le_of_ble_eq_true rfl) dX3_readingAge_38 ⟨Nat.zero_le _, Nat.zero_le _⟩ (fun r38 h38 => ?_)
  subst h38
  refine zk_ald (f := sg) (k := 11 + 76 * e + 15 * t + 2) hx hb hK hP 1 0 rfl rfl (Nat.le_of_ble_eq_true rfl) (by omega) dX3_readingAge_41 ?_
  refine zk_mul hx hb dX3_readingAge_42 ?_
  refine lv_iload_n hx hb dX3_readingAge_43 rfl (lv_at hl 0 rfl) ?_
  refine zk_div hx hb dX3_readingAge_44 (by omega) (by omega) (by omega) ?_
  refine zk_add hx hb dX3_readingAge_45 ?_
  exact W.iret (v := nI ((4 + ((sg (11 + 76 * e + 15 * t + 0)) / (2 * (sg (11 + 76 * e + 15 * t + 1))))) + ((30 * (sg (11 + 76 * e + 15 * t + 2))) / (sg (11 + 76 * e + 15 * t + 0))))) hx hb hr (fun tT ht hW => ⟨_, rfl, rfl, ht⟩) (fun _ h => absurd h List.not_mem_nil) dX3_readingAge_46
set_option maxHeartbeats 4000000 in
set_option maxRecDepth 100000 in
/-- X3_seconds:  -/
theorem c_seconds (l : Launch) (w : Nat) (pa : Nat) (hw : w ≤ 300) (hp1 : 1 ≤ pa) (hp2 : pa ≤ 400) : Met l yX3_seconds wsX3_seconds ({ frames := 0, cells := 0, slots := 0, locals := 0 } : Room) (fun vV _ => vV = ([.int (nI w), .int (nI pa)] : List Value).toArray) (vp_Si (fun (rR : Int32) => rR = nI (secs w pa))) 0 0 (fun _ => False) := by
  refine zS (cc := cX3_seconds) (maxL := 2) (ret := (some .int)) (by decide) rfl (Nat.le_of_ble_eq_true rfl) ?_
  intro pP eE sS mM below meth cC hx hb hr hts hown hlk hml ls hl
  have hl : lv_has ls 2 [(0, .int (nI w)), (1, .int (nI pa))] := hl
  refine lv_bipush (v := nI 60) hx hb dX3_seconds_0 (by decide) ?_
  refine lv_iload_n hx hb dX3_seconds_2 rfl (lv_at hl 0 rfl) ?_
  refine zk_mul hx hb dX3_seconds_3 ?_
  refine lv_iload_n hx hb dX3_seconds_4 rfl (lv_at hl 1 rfl) ?_
  refine zk_add hx hb dX3_seconds_5 ?_
  refine lv_iconst (v := nI 1) hx hb dX3_seconds_6 (by decide) ?_
  refine zk_sub hx hb dX3_seconds_7 (by omega) ?_
  refine lv_iload_n hx hb dX3_seconds_8 rfl (lv_at hl 1 rfl) ?_
  refine zk_div hx hb dX3_seconds_9 (by omega) (by omega) (by omega) ?_
  exact W.iret (v := nI ((((60 * w) + pa) - 1) / pa)) hx hb hr (fun tT ht hW => ⟨_, rfl, rfl, ht⟩) (fun _ h => absurd h List.not_mem_nil) dX3_seconds_10
