/-! low, manyAt, bits -/
abbrev lwN (v : Int32) : Nat := v.toBitVec.toNat % 2 ^ 31
theorem lwN_lt (v : Int32) : lwN v < 2147483648 := Nat.mod_lt _ (by decide)
theorem lwN_eq (v : Int32) : v &&& nI 2147483647 = nI (lwN v) := pk_and v 31 (by decide)
set_option maxRecDepth 100000 in
theorem mwc_low_0 : Cond.constant RL 7 (2147483647) ∈ wsL_low := by decide +kernel
set_option maxHeartbeats 4000000 in
set_option maxRecDepth 100000 in
/-- L_low: a value below n -/
theorem c_low (l : Launch) (v : Int32) (n : Nat) (h0 : 0 < n) (hn : n < 1000000) : Met l yL_low wsL_low ({ frames := 0, cells := 0, slots := 0, locals := 0 } : Room) (fun vV _ => vV = ([.int v, .int (nI n)] : List Value).toArray) (vp_Si (fun (rR : Int32) => ∃ (rX : Nat), rX < n ∧ rR = nI rX)) 0 0 (fun _ => False) := by
  refine zS (cc := cL_low) (maxL := 2) (ret := (some .int)) (by decide) rfl (Nat.le_of_ble_eq_true rfl) ?_
  intro pP eE sS mM below meth cC hx hb hr hts hown hlk hml ls hl
  have hl : lv_has ls 2 [(0, .int v), (1, .int (nI n))] := hl
  have hlw := lwN_lt v
  refine lv_iload_n hx hb dL_low_0 rfl (lv_at hl 0 rfl) ?_
  refine lv_ldc (v := (2147483647 : Int32)) hx hb hown (hts _ mwc_low_0) dL_low_1 ?_
  refine zk_top (y := nI 2147483647) rfl ?_
  refine lv_iand hx hb dL_low_3 ?_
  refine zk_top (y := nI (lwN v)) (lwN_eq v) ?_
  refine lv_iload_n hx hb dL_low_4 rfl (lv_at hl 1 rfl) ?_
  refine zk_rem hx hb dL_low_5 (by omega) (by omega) (by omega) ?_
  exact W.iret (v := nI ((lwN v) % n)) hx hb hr (fun tT ht hW => ⟨_, rfl, ⟨_, Nat.mod_lt _ h0, rfl⟩, ht⟩) (fun _ h => absurd h List.not_mem_nil) dL_low_6
set_option maxHeartbeats 4000000 in
set_option maxRecDepth 100000 in
/-- L_manyAt: how many texts -/
theorem c_many (l : Launch) (G : zG) (m0 : Nat) (t0 : Nat) (s0 : Nat) (hy : Nat) (p0 : Nat) (kp : Nat) (nx : Nat) (st : Nat) (re : Int32) (er : Int32) (a0 : Nat) (a1 : Nat) (a2 : Nat) (sz : Nat → Nat) (sc : Nat → Nat) (sg : Nat → Nat) (e : Nat) (hM : mOK sg) (hR : sRel sz sc sg) (he : e < 8) : Met l yL_manyAt wsL_manyAt ({ frames := 3, cells := 0, slots := 0, locals := 66 } : Room) (zPc G [.ref m0, .int (nI e)] [(m0, .inr (2, [.ref a0, .ref t0, .ref s0, .int (nI kp), .ref hy, .int (nI nx), .int (nI st), .ref p0, .int re, .int er])), (a0, .inr (1, [.ref a1, .ref a2, .int (nI (sg 0)), .int (nI (sg 1)), .int (nI (sg 7)), .int (nI (sg 8)), .int (nI (sg 9)), .int (nI (sg 2)), .int (nI (sg 3)), .int (nI (sg 4)), .int (nI (sg 5)), .int (nI (sg 6))])), (a1, .inl (G.2.1, 8, .inl (arN sz))), (a2, .inl (G.2.1, 640, .inl (arN sc)))]) (vp_Si (fun (rR : Int32) => rR = nI (sg (10 + 76 * e)))) 0 0 (fun _ => False) := by
  refine zR (cc := cL_manyAt) (maxL := 3) (ret := (some .int)) (by decide) rfl (Nat.le_of_ble_eq_true rfl) ?_
  intro pP eE sS mM below meth cC hx hb hr hts hown hlk hml hK hN hP hD ls hl
  have hl : lv_has ls 3 [(0, .ref m0), (1, .int (nI e))] := hl
  have hz5 := hM.2.1 e he
  refine lv_iconst (v := nI 0) hx hb dL_manyAt_0 (by decide) ?_
  refine lv_istore_n (lv' := [(2, .int (nI 0)), (0, .ref m0), (1, .int (nI e))]) hx hb dL_manyAt_1 rfl hl (by decide) rfl (fun ls hl => ?_)
  have lp2 : ∀ (fu2 : Nat), ∀ (nX : Nat) (ls : Array Slot), (6 - nX) < fu2 → (nX ≤ sg (10 + 76 * e)) → lv_has ls 3 [(0, .ref m0), (1, .int (nI e)), (2, .int (nI nX))] → W pP l eE (headSpec wsL_manyAt ({ frames := 3, cells := 0, slots := 0, locals := 66 } : Room)).room sS mM ([.ref m0, .int (nI e)] : List Value).toArray below meth cC sS.heap [] 0 0 (MQ below (vp_Si (fun (rR : Int32) => rR = nI (sg (10 + 76 * e)))) ([.ref m0, .int (nI e)] : List Value).toArray sS 0 0 (fun _ => False)) (F0 mM 2 ls []) := by
    intro fu2
    induction fu2 with
    | zero => intro nX ls hfu2; exact absurd hfu2 (Nat.not_lt_zero _)
    | succ fu2 ih2 =>
      intro nX ls hfu2 hn hl
      rcases Nat.lt_or_ge nX (sg (10 + 76 * e)) with hlt | hge
      · refine lv_aload_n hx hb dL_manyAt_2 rfl (lv_at hl 0 rfl) ?_
        refine lv_iload_n hx hb dL_manyAt_3 rfl (lv_at hl 1 rfl) ?_
        refine lv_iload_n hx hb dL_manyAt_4 rfl (lv_at hl 2 rfl) ?_
        refine lv_iconst (v := nI 0) hx hb dL_manyAt_5 (by decide) ?_
        refine zc_R (As := [.int (nI e), .int (nI nX), .int (nI 0)]) (rest := []) ⟨hx, hb, hml, hown, hts⟩ (c2_text l G m0 t0 s0 hy p0 kp nx st re er a0 a1 a2 sz sc sg (nI e) (nI nX) (nI 0) hM hR) (cwV 3 hts gL_manyAt_X2_text rfl rfl rfl (by decide +kernel) ⟨Nat.le_of_ble_eq_true rfl, Nat.le_of_ble_eq_true rfl⟩) hK hN hP hD [0, 1, 2, 3] rfl (by decide) (ci := 2) rfl rfl rfl hl.1 rfl (Nat.le_of_ble_eq_true rfl) dL_manyAt_6 ⟨Nat.zero_le _, Nat.zero_le _⟩ (fun r6 h6 => ?_)
        have e6 : r6 = nI (sg (11 + 76 * e + 15 * nX + 0)) := tx_0 hM he hlt (by omega) h6
        subst e6
        refine zk_zle (tgt := 18) hx hb dL_manyAt_9 (by decide) (by have hw := (hM.2.2 e nX he hlt).1; omega) (fun c9 => ?_) (fun c9 => ?_)
        · have hw := (hM.2.2 e nX he hlt).1; omega
        · refine zk_inc (a := nX) (d := 1) (lv' := [(2, .int (nI (nX + 1))), (0, .ref m0), (1, .int (nI e))]) hx hb dL_manyAt_12 hl (K := 2) rfl (by decide) (by decide) rfl (fun ls hl => ?_)
          refine lv_goto (tgt := 2) hx hb dL_manyAt_15 (by decide) ?_
          exact ih2 (nX + 1) _ (by omega) (by omega) (lv_sub hl [1, 2, 0] rfl)
      · refine lv_aload_n hx hb dL_manyAt_2 rfl (lv_at hl 0 rfl) ?_
        refine lv_iload_n hx hb dL_manyAt_3 rfl (lv_at hl 1 rfl) ?_
        refine lv_iload_n hx hb dL_manyAt_4 rfl (lv_at hl 2 rfl) ?_
        refine lv_iconst (v := nI 0) hx hb dL_manyAt_5 (by decide) ?_
        refine zc_R (As := [.int (nI e), .int (nI nX), .int (nI 0)]) (rest := []) ⟨hx, hb, hml, hown, hts⟩ (c2_text l G m0 t0 s0 hy p0 kp nx st re er a0 a1 a2 sz sc sg (nI e) (nI nX) (nI 0) hM hR) (cwV 3 hts gL_manyAt_X2_text rfl rfl rfl (by decide +kernel) ⟨Nat.le_of_ble_eq_true rfl, Nat.le_of_ble_eq_true rfl⟩) hK hN hP hD [0, 1, 2, 3] rfl (by decide) (ci := 2) rfl rfl rfl hl.1 rfl (Nat.le_of_ble_eq_true rfl) dL_manyAt_6 ⟨Nat.zero_le _, Nat.zero_le _⟩ (fun r6 h6 => ?_)
        have e6 : r6 = (-1) := tx_no hM he (by omega) (by omega) h6
        subst e6
        refine lv_if_le (tgt := 18) hx hb dL_manyAt_9 (by decide) (fun _ => ?_) (fun q => absurd (by decide) q)
        refine lv_iload_n hx hb dL_manyAt_18 rfl (lv_at hl 2 rfl) ?_
        exact W.iret (v := nI nX) hx hb hr (fun tT ht hW => ⟨_, rfl, (by rw [show nX = sg (10 + 76 * e) from by omega]), ht⟩) (fun _ h => absurd h List.not_mem_nil) dL_manyAt_19
  exact lp2 _ 0 _ (Nat.lt_succ_self _) (by omega) (lv_sub hl [1, 2, 0] rfl)
set_option maxHeartbeats 4000000 in
set_option maxRecDepth 100000 in
/-- L_bits: how many bits -/
theorem c_bits (l : Launch) (v : Nat) (hv : v ≤ 65535) : Met l yL_bits wsL_bits ({ frames := 0, cells := 0, slots := 0, locals := 0 } : Room) (fun vV _ => vV = ([.int (nI v)] : List Value).toArray) (vp_Si (fun (rR : Int32) => rR = nI (bitsN v 16))) 0 0 (fun _ => False) := by
  refine zS (cc := cL_bits) (maxL := 3) (ret := (some .int)) (by decide) rfl (Nat.le_of_ble_eq_true rfl) ?_
  intro pP eE sS mM below meth cC hx hb hr hts hown hlk hml ls hl
  have hl : lv_has ls 3 [(0, .int (nI v))] := hl
  refine lv_iconst (v := nI 0) hx hb dL_bits_0 (by decide) ?_
  refine lv_istore_n (lv' := [(1, .int (nI 0)), (0, .int (nI v))]) hx hb dL_bits_1 rfl hl (by decide) rfl (fun ls hl => ?_)
  refine lv_iconst (v := nI 0) hx hb dL_bits_2 (by decide) ?_
  refine lv_istore_n (lv' := [(2, .int (nI 0)), (1, .int (nI 0)), (0, .int (nI v))]) hx hb dL_bits_3 rfl hl (by decide) rfl (fun ls hl => ?_)
  have lp4 : ∀ (fu4 : Nat), ∀ (kX : Nat) (ls : Array Slot), (16 - kX) < fu4 → (kX ≤ 16) → lv_has ls 3 [(0, .int (nI v)), (1, .int (nI (bitsN v kX))), (2, .int (nI kX))] → W pP l eE (headSpec wsL_bits ({ frames := 0, cells := 0, slots := 0, locals := 0 } : Room)).room sS mM ([.int (nI v)] : List Value).toArray below meth cC sS.heap [] 0 0 (MQ below (vp_Si (fun (rR : Int32) => rR = nI (bitsN v 16))) ([.int (nI v)] : List Value).toArray sS 0 0 (fun _ => False)) (F0 mM 4 ls []) := by
    intro fu4
    induction fu4 with
    | zero => intro kX ls hfu4; exact absurd hfu4 (Nat.not_lt_zero _)
    | succ fu4 ih4 =>
      intro kX ls hfu4 hk hl
      refine lv_iload_n hx hb dL_bits_4 rfl (lv_at hl 2 rfl) ?_
      refine lv_bipush (v := nI 16) hx hb dL_bits_5 (by decide) ?_
      refine zk_ige (tgt := 24) hx hb dL_bits_7 (by decide) (by omega) (by omega) (fun c7 => ?_) (fun c7 => ?_)
      · refine lv_iload_n hx hb dL_bits_24 rfl (lv_at hl 1 rfl) ?_
        exact W.iret (v := nI (bitsN v kX)) hx hb hr (fun tT ht hW => ⟨_, rfl, (by rw [show kX = 16 from by omega]), ht⟩) (fun _ h => absurd h List.not_mem_nil) dL_bits_25
      · refine lv_iload_n hx hb dL_bits_10 rfl (lv_at hl 1 rfl) ?_
        refine lv_iload_n hx hb dL_bits_11 rfl (lv_at hl 0 rfl) ?_
        refine lv_iload_n hx hb dL_bits_12 rfl (lv_at hl 2 rfl) ?_
        refine lv_ishr hx hb dL_bits_13 ?_
        refine zk_top (y := nI (v / 2 ^ kX)) (zA_shr (by omega) (by omega)) ?_
        refine lv_iconst (v := nI 1) hx hb dL_bits_14 (by decide) ?_
        refine zk_and hx hb dL_bits_15 ?_
        refine zk_top (y := nI (v / 2 ^ kX % 2)) (zA_one _) ?_
        refine zk_add hx hb dL_bits_16 ?_
        refine lv_istore_n (lv' := [(1, .int (nI ((bitsN v kX) + (v / 2 ^ kX % 2)))), (0, .int (nI v)), (2, .int (nI kX))]) hx hb dL_bits_17 rfl hl (by decide) rfl (fun ls hl => ?_)
        refine zk_inc (a := kX) (d := 1) (lv' := [(2, .int (nI (kX + 1))), (1, .int (nI ((bitsN v kX) + (v / 2 ^ kX % 2)))), (0, .int (nI v))]) hx hb dL_bits_18 hl (K := 2) rfl (by decide) (by decide) rfl (fun ls hl => ?_)
        refine lv_goto (tgt := 4) hx hb dL_bits_21 (by decide) ?_
        exact ih4 (kX + 1) _ (by omega) (by omega) (lv_sub hl [2, 1, 0] rfl)
  exact lp4 _ 0 _ (Nat.lt_succ_self _) (by omega) (lv_sub hl [2, 1, 0] rfl)
