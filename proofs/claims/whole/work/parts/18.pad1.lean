set_option maxRecDepth 100000 in
theorem mwc_append_0 : Cond.fieldLink RX0 15 "ExhibitTexts$Pad" "length" "I" ∈ wsX0_append := by decide +kernel
set_option maxRecDepth 100000 in
theorem mic_append_0 : ∀ w ∈ u_ws RX0 TX0 10, w ∈ wsX0_append := by decide +kernel
set_option maxRecDepth 100000 in
theorem mwc_append_2 : Cond.fieldLink RX0 9 "ExhibitTexts$Pad" "characters" "[C" ∈ wsX0_append := by decide +kernel
set_option maxHeartbeats 4000000 in
set_option maxRecDepth 100000 in
/-- X0_append: a character is typed -/
theorem c_append (l : Launch) (G : zG) (p0 : Nat) (p1 : Nat) (pn : Nat) (pp : Nat) (ic : Nat) (ex : Int32) (tx : Int32) (wo : Int32) (se : Int32) (lo : Int32) (fa : Int32) (pd : Nat → Nat) (ch : Nat) (hpn : pn ≤ 60) (hch : ch < 65536) : Met l yX0_append wsX0_append ({ frames := 0, cells := 0, slots := 0, locals := 0 } : Room) (zPc G [.ref p0, .int (nI ch)] [(p0, .inr (0, [.ref p1, .int (nI pn), .int (nI pp), .int (nI ic), .int ex, .int tx, .int wo, .int se, .int lo, .int fa])), (p1, .inl (G.2.2.1, 60, .inl (arN pd)))]) (va_Qi (fun (rR : Int32) (uU : Nat × (Nat → Nat)) => (pn = 60 ∧ rR = (-3) ∧ uU = (pn, pd)) ∨ (pn < 60 ∧ rR = nI (pn + 1) ∧ uU = (pn + 1, arU pd pn ch))) (fun uU tT => va_P G.1 vwCl ((fun (uU : Nat × (Nat → Nat)) => ([(p0, .inr (0, [.ref p1, .int (nI uU.1), .int (nI pp), .int (nI ic), .int ex, .int tx, .int wo, .int se, .int lo, .int fa])), (p1, .inl (G.2.2.1, 60, .inl (arN uU.2)))] : va_W)) uU) tT.heap) (zIn [(p0, .inr (0, [.ref p1, .int (nI pn), .int (nI pp), .int (nI ic), .int ex, .int tx, .int wo, .int se, .int lo, .int fa])), (p1, .inl (G.2.2.1, 60, .inl (arN pd)))])) 0 0 (zIn [(p0, .inr (0, [.ref p1, .int (nI pn), .int (nI pp), .int (nI ic), .int ex, .int tx, .int wo, .int se, .int lo, .int fa])), (p1, .inl (G.2.2.1, 60, .inl (arN pd)))]) := by
  refine zM (cc := cX0_append) (maxL := 2) (ret := (some .int)) (by decide) rfl (Nat.le_of_ble_eq_true rfl) ?_
  intro pP eE sS mM below meth cC hx hb hr hts hown hlk hml hnm hK hN hP hD hS ls hl
  have hl : lv_has ls 2 [(0, .ref p0), (1, .int (nI ch))] := hl
  refine lv_aload_n hx hb dX0_append_0 rfl (lv_at hl 0 rfl) ?_
  refine va_get (D := G.1) (ci := 0) (v := .int (nI pn)) (C := RX0) (T := TX0) (N := 10) hx hb hts mic_append_0 hown hK hP 0 rfl rfl 1 (by decide) (hts _ mwc_append_0) (fun _ h9 => h9) rfl dX0_append_1 ?_
  refine lv_bipush (v := nI 60) hx hb dX0_append_4 (by decide) ?_
  refine zk_ilt (tgt := 12) hx hb dX0_append_6 (by decide) (by omega) (by omega) (fun c6 => ?_) (fun c6 => ?_)
  · refine lv_aload_n hx hb dX0_append_12 rfl (lv_at hl 0 rfl) ?_
    refine va_get (D := G.1) (ci := 0) (v := .ref p1) (C := RX0) (T := TX0) (N := 10) hx hb hts mic_append_0 hown hK hP 0 rfl rfl 0 (by decide) (hts _ mwc_append_2) (fun _ h9 => h9) rfl dX0_append_13 ?_
    refine lv_aload_n hx hb dX0_append_16 rfl (lv_at hl 0 rfl) ?_
    refine va_get (D := G.1) (ci := 0) (v := .int (nI pn)) (C := RX0) (T := TX0) (N := 10) hx hb hts mic_append_0 hown hK hP 0 rfl rfl 1 (by decide) (hts _ mwc_append_0) (fun _ h9 => h9) rfl dX0_append_17 ?_
    refine lv_iload_n hx hb dX0_append_20 rfl (lv_at hl 1 rfl) ?_
    refine zk_cast (f := pd) (k := pn) (v := ch) (ws2 := [(p0, .inr (0, [.ref p1, .int (nI pn), .int (nI pp), .int (nI ic), .int ex, .int tx, .int wo, .int se, .int lo, .int fa])), (p1, .inl (G.2.2.1, 60, .inl (arN (arU pd pn ch))))]) hx hb hK hP hD hS 1 1 rfl rfl (Nat.le_of_ble_eq_true rfl) (by omega) (by omega) rfl dX0_append_21 (fun H locs hP hD hS => ?_)
    refine lv_aload_n hx hb dX0_append_22 rfl (lv_at hl 0 rfl) ?_
    refine lv_dup hx hb dX0_append_23 rfl ?_
    refine va_get (D := G.1) (ci := 0) (v := .int (nI pn)) (C := RX0) (T := TX0) (N := 10) hx hb hts mic_append_0 hown hK hP 0 rfl rfl 1 (by decide) (hts _ mwc_append_0) (fun _ h9 => h9) rfl dX0_append_24 ?_
    refine lv_iconst (v := nI 1) hx hb dX0_append_27 (by decide) ?_
    refine zk_add hx hb dX0_append_28 ?_
    refine zk_put (D := G.1) (ci := 0) (v := .int (nI (pn + 1))) (ty := .int) (C := RX0) (T := TX0) (N := 10) (ws2 := [(p0, .inr (0, [.ref p1, .int (nI (pn + 1)), .int (nI pp), .int (nI ic), .int ex, .int tx, .int wo, .int se, .int lo, .int fa])), (p1, .inl (G.2.2.1, 60, .inl (arN (arU pd pn ch))))]) hx hb hts mic_append_0 tyX0 tyX0_ok nmX0 hown hK hP hD hS 0 rfl rfl 1 (by decide) (hts _ mwc_append_0) (fun _ h9 => h9) rfl (by decide +kernel) rfl rfl (Nat.le_of_ble_eq_true rfl) rfl dX0_append_29 (fun H locs hP hD hS => ?_)
    refine lv_aload_n hx hb dX0_append_32 rfl (lv_at hl 0 rfl) ?_
    refine va_get (D := G.1) (ci := 0) (v := .int (nI (pn + 1))) (C := RX0) (T := TX0) (N := 10) hx hb hts mic_append_0 hown hK hP 0 rfl rfl 1 (by decide) (hts _ mwc_append_0) (fun _ h9 => h9) rfl dX0_append_33 ?_
    exact W.iret (v := nI (pn + 1)) hx hb hr (fun tT ht hW => ⟨⟨_, (pn + 1, arU pd pn ch), rfl, Or.inr ⟨by omega, rfl, rfl⟩, by show va_P G.1 vwCl _ tT.heap; rw [ht]; exact hP⟩, hS.F ht⟩) hS.2.2 dX0_append_36
  · refine lv_bipush (v := (-3)) hx hb dX0_append_9 (by decide) ?_
    exact W.iret (v := (-3)) hx hb hr (fun tT ht hW => ⟨⟨_, (pn, pd), rfl, Or.inl ⟨by omega, rfl, rfl⟩, by show va_P G.1 vwCl _ tT.heap; rw [ht]; exact hP⟩, hS.F ht⟩) hS.2.2 dX0_append_11
set_option maxRecDepth 100000 in
theorem mwc_nextSign_0 : Cond.fieldLink RX0 19 "ExhibitTexts$Pad" "place" "I" ∈ wsX0_nextSign := by decide +kernel
set_option maxRecDepth 100000 in
theorem mic_nextSign_0 : ∀ w ∈ u_ws RX0 TX0 10, w ∈ wsX0_nextSign := by decide +kernel
set_option maxRecDepth 100000 in
theorem mwc_nextSign_2 : Cond.fieldLink RX0 15 "ExhibitTexts$Pad" "length" "I" ∈ wsX0_nextSign := by decide +kernel
set_option maxRecDepth 100000 in
theorem mwc_nextSign_3 : Cond.fieldLink RX0 9 "ExhibitTexts$Pad" "characters" "[C" ∈ wsX0_nextSign := by decide +kernel
set_option maxHeartbeats 4000000 in
set_option maxRecDepth 100000 in
/-- X0_nextSign: the sign at the place -/
theorem c_nextSign (l : Launch) (G : zG) (p0 : Nat) (p1 : Nat) (pn : Nat) (pp : Nat) (ic : Nat) (ex : Int32) (tx : Int32) (wo : Int32) (se : Int32) (lo : Int32) (fa : Int32) (pd : Nat → Nat) (hpn : pn ≤ 60) (hpp : pp ≤ pn) (hpd : ∀ j, pd j < 65536) : Met l yX0_nextSign wsX0_nextSign ({ frames := 0, cells := 0, slots := 0, locals := 0 } : Room) (zPc G [.ref p0] [(p0, .inr (0, [.ref p1, .int (nI pn), .int (nI pp), .int (nI ic), .int ex, .int tx, .int wo, .int se, .int lo, .int fa])), (p1, .inl (G.2.2.1, 60, .inl (arN pd)))]) (vp_Si (fun (rR : Int32) => (pn ≤ pp ∧ rR = (-1)) ∨ (pp < pn ∧ rR = nI (pd pp)))) 0 0 (fun _ => False) := by
  refine zR (cc := cX0_nextSign) (maxL := 1) (ret := (some .int)) (by decide) rfl (Nat.le_of_ble_eq_true rfl) ?_
  intro pP eE sS mM below meth cC hx hb hr hts hown hlk hml hK hN hP hD ls hl
  have hl : lv_has ls 1 [(0, .ref p0)] := hl
  refine lv_aload_n hx hb dX0_nextSign_0 rfl (lv_at hl 0 rfl) ?_
  refine va_get (D := G.1) (ci := 0) (v := .int (nI pp)) (C := RX0) (T := TX0) (N := 10) hx hb hts mic_nextSign_0 hown hK hP 0 rfl rfl 2 (by decide) (hts _ mwc_nextSign_0) (fun _ h9 => h9) rfl dX0_nextSign_1 ?_
  refine zk_zlt (tgt := 27) hx hb dX0_nextSign_4 (by decide) (by omega) ?_
  refine lv_aload_n hx hb dX0_nextSign_7 rfl (lv_at hl 0 rfl) ?_
  refine va_get (D := G.1) (ci := 0) (v := .int (nI pp)) (C := RX0) (T := TX0) (N := 10) hx hb hts mic_nextSign_0 hown hK hP 0 rfl rfl 2 (by decide) (hts _ mwc_nextSign_0) (fun _ h9 => h9) rfl dX0_nextSign_8 ?_
  refine lv_aload_n hx hb dX0_nextSign_11 rfl (lv_at hl 0 rfl) ?_
  refine va_get (D := G.1) (ci := 0) (v := .int (nI pn)) (C := RX0) (T := TX0) (N := 10) hx hb hts mic_nextSign_0 hown hK hP 0 rfl rfl 1 (by decide) (hts _ mwc_nextSign_2) (fun _ h9 => h9) rfl dX0_nextSign_12 ?_
  refine zk_ige (tgt := 27) hx hb dX0_nextSign_15 (by decide) (by omega) (by omega) (fun c15 => ?_) (fun c15 => ?_)
  · refine lv_iconst (v := (-1)) hx hb dX0_nextSign_27 (by decide) ?_
    exact W.iret (v := (-1)) hx hb hr (fun tT ht hW => ⟨_, rfl, Or.inl ⟨by omega, rfl⟩, ht⟩) (fun _ h => absurd h List.not_mem_nil) dX0_nextSign_28
  · refine lv_aload_n hx hb dX0_nextSign_18 rfl (lv_at hl 0 rfl) ?_
    refine va_get (D := G.1) (ci := 0) (v := .int (nI pp)) (C := RX0) (T := TX0) (N := 10) hx hb hts mic_nextSign_0 hown hK hP 0 rfl rfl 2 (by decide) (hts _ mwc_nextSign_0) (fun _ h9 => h9) rfl dX0_nextSign_19 ?_
    refine lv_bipush (v := nI 60) hx hb dX0_nextSign_22 (by decide) ?_
    refine zk_ilt (tgt := 29) hx hb dX0_nextSign_24 (by decide) (by omega) (by omega) (fun c24 => ?_) (fun c24 => ?_)
    · refine lv_aload_n hx hb dX0_nextSign_29 rfl (lv_at hl 0 rfl) ?_
      refine va_get (D := G.1) (ci := 0) (v := .ref p1) (C := RX0) (T := TX0) (N := 10) hx hb hts mic_nextSign_0 hown hK hP 0 rfl rfl 0 (by decide) (hts _ mwc_nextSign_3) (fun _ h9 => h9) rfl dX0_nextSign_30 ?_
      refine lv_aload_n hx hb dX0_nextSign_33 rfl (lv_at hl 0 rfl) ?_
      refine va_get (D := G.1) (ci := 0) (v := .int (nI pp)) (C := RX0) (T := TX0) (N := 10) hx hb hts mic_nextSign_0 hown hK hP 0 rfl rfl 2 (by decide) (hts _ mwc_nextSign_0) (fun _ h9 => h9) rfl dX0_nextSign_34 ?_
      refine zk_cald (f := pd) (k := pp) hx hb hK hP 1 1 rfl rfl (Nat.le_of_ble_eq_true rfl) (by omega) dX0_nextSign_37 ?_
      exact W.iret (v := nI (pd pp)) hx hb hr (fun tT ht hW => ⟨_, rfl, Or.inr ⟨by omega, rfl⟩, ht⟩) (fun _ h => absurd h List.not_mem_nil) dX0_nextSign_38
    · omega
set_option maxHeartbeats 4000000 in
set_option maxRecDepth 100000 in
/-- X0_nextDigit: the digit at the place -/
theorem c_nextDigit (l : Launch) (G : zG) (p0 : Nat) (p1 : Nat) (pn : Nat) (pp : Nat) (ic : Nat) (ex : Int32) (tx : Int32) (wo : Int32) (se : Int32) (lo : Int32) (fa : Int32) (pd : Nat → Nat) (hpn : pn ≤ 60) (hpp : pp ≤ pn) (hpd : ∀ j, pd j < 65536) : Met l yX0_nextDigit wsX0_nextDigit ({ frames := 1, cells := 0, slots := 0, locals := 20 } : Room) (zPc G [.ref p0] [(p0, .inr (0, [.ref p1, .int (nI pn), .int (nI pp), .int (nI ic), .int ex, .int tx, .int wo, .int se, .int lo, .int fa])), (p1, .inl (G.2.2.1, 60, .inl (arN pd)))]) (vp_Si (fun (rR : Int32) => (sgQ pd pn 48 57 pp ∧ rR = nI (pd pp - 48)) ∨ (¬ sgQ pd pn 48 57 pp ∧ rR = (-1)))) 0 0 (fun _ => False) := by
  refine zR (cc := cX0_nextDigit) (maxL := 2) (ret := (some .int)) (by decide) rfl (Nat.le_of_ble_eq_true rfl) ?_
  intro pP eE sS mM below meth cC hx hb hr hts hown hlk hml hK hN hP hD ls hl
  have hl : lv_has ls 2 [(0, .ref p0)] := hl
  have hq := hpd pp
  refine lv_aload_n hx hb dX0_nextDigit_0 rfl (lv_at hl 0 rfl) ?_
  refine zc_R (As := []) (rest := []) ⟨hx, hb, hml, hown, hts⟩ (c_nextSign l G p0 p1 pn pp ic ex tx wo se lo fa pd (by omega) (by omega) (by omega)) (cwV 0 hts gX0_nextDigit_X0_nextSign rfl rfl rfl (by decide +kernel) ⟨Nat.le_of_ble_eq_true rfl, Nat.le_of_ble_eq_true rfl⟩) hK hN hP hD [0, 1] rfl (by decide) (ci := 0) rfl rfl rfl hl.1 rfl (Nat.le_of_ble_eq_true rfl) dX0_nextDigit_1 ⟨Nat.zero_le _, Nat.zero_le _⟩ (fun r1 h1 => ?_)
  rcases h1 with ⟨h1_0, rfl⟩ | ⟨h1_0, rfl⟩
  · refine lv_istore_n (lv' := [(1, .int (-1)), (0, .ref p0)]) hx hb dX0_nextDigit_4 rfl hl (by decide) rfl (fun ls hl => ?_)
    refine lv_iload_n hx hb dX0_nextDigit_5 rfl (lv_at hl 0 rfl) ?_
    refine lv_bipush (v := nI 48) hx hb dX0_nextDigit_6 (by decide) ?_
    refine lv_icmp_lt (tgt := 24) hx hb dX0_nextDigit_8 (by decide) (fun _ => ?_) (fun q => absurd (by decide) q)
    refine lv_iconst (v := (-1)) hx hb dX0_nextDigit_24 (by decide) ?_
    exact W.iret (v := (-1)) hx hb hr (fun tT ht hW => ⟨_, rfl, Or.inr ⟨fun q => absurd q.1 (by omega), rfl⟩, ht⟩) (fun _ h => absurd h List.not_mem_nil) dX0_nextDigit_25
  · refine lv_istore_n (lv' := [(1, .int (nI (pd pp))), (0, .ref p0)]) hx hb dX0_nextDigit_4 rfl hl (by decide) rfl (fun ls hl => ?_)
    refine lv_iload_n hx hb dX0_nextDigit_5 rfl (lv_at hl 0 rfl) ?_
    refine lv_bipush (v := nI 48) hx hb dX0_nextDigit_6 (by decide) ?_
    refine zk_ilt (tgt := 24) hx hb dX0_nextDigit_8 (by decide) (by omega) (by omega) (fun c8 => ?_) (fun c8 => ?_)
    · refine lv_iconst (v := (-1)) hx hb dX0_nextDigit_24 (by decide) ?_
      exact W.iret (v := (-1)) hx hb hr (fun tT ht hW => ⟨_, rfl, Or.inr ⟨fun q => absurd q.2.1 (by omega), rfl⟩, ht⟩) (fun _ h => absurd h List.not_mem_nil) dX0_nextDigit_25
    · refine lv_iload_n hx hb dX0_nextDigit_11 rfl (lv_at hl 0 rfl) ?_
      refine lv_bipush (v := nI 57) hx hb dX0_nextDigit_12 (by decide) ?_
      refine zk_igt (tgt := 24) hx hb dX0_nextDigit_14 (by decide) (by omega) (by omega) (fun c14 => ?_) (fun c14 => ?_)
      · refine lv_iconst (v := (-1)) hx hb dX0_nextDigit_24 (by decide) ?_
        exact W.iret (v := (-1)) hx hb hr (fun tT ht hW => ⟨_, rfl, Or.inr ⟨fun q => absurd q.2.2 (by omega), rfl⟩, ht⟩) (fun _ h => absurd h List.not_mem_nil) dX0_nextDigit_25
      · refine lv_iload_n hx hb dX0_nextDigit_17 rfl (lv_at hl 0 rfl) ?_
        refine lv_bipush (v := nI 48) hx hb dX0_nextDigit_18 (by decide) ?_
        refine zk_sub hx hb dX0_nextDigit_20 (by omega) ?_
        refine lv_goto (tgt := 25) hx hb dX0_nextDigit_21 (by decide) ?_
        exact W.iret (v := nI ((pd pp) - 48)) hx hb hr (fun tT ht hW => ⟨_, rfl, Or.inl ⟨⟨h1_0, by omega, by omega⟩, rfl⟩, ht⟩) (fun _ h => absurd h List.not_mem_nil) dX0_nextDigit_25
set_option maxRecDepth 100000 in
theorem mwc_takeSign_0 : Cond.fieldLink RX0 19 "ExhibitTexts$Pad" "place" "I" ∈ wsX0_takeSign := by decide +kernel
set_option maxRecDepth 100000 in
theorem mic_takeSign_0 : ∀ w ∈ u_ws RX0 TX0 10, w ∈ wsX0_takeSign := by decide +kernel
set_option maxHeartbeats 4000000 in
set_option maxRecDepth 100000 in
/-- X0_takeSign: a sign is taken -/
theorem c_takeSign (l : Launch) (G : zG) (p0 : Nat) (p1 : Nat) (pn : Nat) (pp : Nat) (ic : Nat) (ex : Int32) (tx : Int32) (wo : Int32) (se : Int32) (lo : Int32) (fa : Int32) (pd : Nat → Nat) (ch : Nat) (hpn : pn ≤ 60) (hpp : pp ≤ pn) (hpd : ∀ j, pd j < 65536) (hch : ch < 65536) : Met l yX0_takeSign wsX0_takeSign ({ frames := 1, cells := 0, slots := 0, locals := 20 } : Room) (zPc G [.ref p0, .int (nI ch)] [(p0, .inr (0, [.ref p1, .int (nI pn), .int (nI pp), .int (nI ic), .int ex, .int tx, .int wo, .int se, .int lo, .int fa])), (p1, .inl (G.2.2.1, 60, .inl (arN pd)))]) (va_Qi (fun (rR : Int32) (uU : Nat) => (¬ sgQ pd pn ch ch pp ∧ rR = nI 0 ∧ uU = pp) ∨ (sgQ pd pn ch ch pp ∧ rR = nI 1 ∧ uU = pp + 1)) (fun uU tT => va_P G.1 vwCl ((fun (uU : Nat) => ([(p0, .inr (0, [.ref p1, .int (nI pn), .int (nI uU), .int (nI ic), .int ex, .int tx, .int wo, .int se, .int lo, .int fa])), (p1, .inl (G.2.2.1, 60, .inl (arN pd)))] : va_W)) uU) tT.heap) (zIn [(p0, .inr (0, [.ref p1, .int (nI pn), .int (nI pp), .int (nI ic), .int ex, .int tx, .int wo, .int se, .int lo, .int fa])), (p1, .inl (G.2.2.1, 60, .inl (arN pd)))])) 0 0 (zIn [(p0, .inr (0, [.ref p1, .int (nI pn), .int (nI pp), .int (nI ic), .int ex, .int tx, .int wo, .int se, .int lo, .int fa])), (p1, .inl (G.2.2.1, 60, .inl (arN pd)))]) := by
  refine zM (cc := cX0_takeSign) (maxL := 2) (ret := (some .boolean)) (by decide) rfl (Nat.le_of_ble_eq_true rfl) ?_
  intro pP eE sS mM below meth cC hx hb hr hts hown hlk hml hnm hK hN hP hD hS ls hl
  have hl : lv_has ls 2 [(0, .ref p0), (1, .int (nI ch))] := hl
  have hq := hpd pp
  refine lv_aload_n hx hb dX0_takeSign_0 rfl (lv_at hl 0 rfl) ?_
  refine zc_R (As := []) (rest := []) ⟨hx, hb, hml, hown, hts⟩ (c_nextSign l G p0 p1 pn pp ic ex tx wo se lo fa pd (by omega) (by omega) (by omega)) (cwV 0 hts gX0_takeSign_X0_nextSign rfl rfl rfl (by decide +kernel) ⟨Nat.le_of_ble_eq_true rfl, Nat.le_of_ble_eq_true rfl⟩) hK hN hP hD [0, 1] rfl (by decide) (ci := 0) rfl rfl rfl hl.1 rfl (Nat.le_of_ble_eq_true rfl) dX0_takeSign_1 ⟨Nat.zero_le _, Nat.zero_le _⟩ (fun r1 h1 => ?_)
  rcases h1 with ⟨h1_0, rfl⟩ | ⟨h1_0, rfl⟩
  · refine lv_iload_n hx hb dX0_takeSign_4 rfl (lv_at hl 1 rfl) ?_
    refine lv_icmp_eq (tgt := 10) hx hb dX0_takeSign_5 (by decide) (fun q => absurd q (m1_ne (by omega))) (fun _ => ?_)
    refine lv_iconst (v := nI 0) hx hb dX0_takeSign_8 (by decide) ?_
    exact W.zret (ty := .boolean) (v := nI 0) hx hb hr (rfl) (fun tT ht hW => ⟨⟨_, pp, rfl, Or.inl ⟨fun q => absurd q.1 (by omega), rfl, rfl⟩, by show va_P G.1 vwCl _ tT.heap; rw [ht]; exact hP⟩, hS.F ht⟩) hS.2.2 dX0_takeSign_9
  · refine lv_iload_n hx hb dX0_takeSign_4 rfl (lv_at hl 1 rfl) ?_
    refine zk_ieq (tgt := 10) hx hb dX0_takeSign_5 (by decide) (by omega) (by omega) (fun c5 => ?_) (fun c5 => ?_)
    · refine lv_aload_n hx hb dX0_takeSign_10 rfl (lv_at hl 0 rfl) ?_
      refine lv_dup hx hb dX0_takeSign_11 rfl ?_
      refine va_get (D := G.1) (ci := 0) (v := .int (nI pp)) (C := RX0) (T := TX0) (N := 10) hx hb hts mic_takeSign_0 hown hK hP 0 rfl rfl 2 (by decide) (hts _ mwc_takeSign_0) (fun _ h9 => h9) rfl dX0_takeSign_12 ?_
      refine lv_iconst (v := nI 1) hx hb dX0_takeSign_15 (by decide) ?_
      refine zk_add hx hb dX0_takeSign_16 ?_
      refine zk_put (D := G.1) (ci := 0) (v := .int (nI (pp + 1))) (ty := .int) (C := RX0) (T := TX0) (N := 10) (ws2 := [(p0, .inr (0, [.ref p1, .int (nI pn), .int (nI (pp + 1)), .int (nI ic), .int ex, .int tx, .int wo, .int se, .int lo, .int fa])), (p1, .inl (G.2.2.1, 60, .inl (arN pd)))]) hx hb hts mic_takeSign_0 tyX0 tyX0_ok nmX0 hown hK hP hD hS 0 rfl rfl 2 (by decide) (hts _ mwc_takeSign_0) (fun _ h9 => h9) rfl (by decide +kernel) rfl rfl (Nat.le_of_ble_eq_true rfl) rfl dX0_takeSign_17 (fun H locs hP hD hS => ?_)
      refine lv_iconst (v := nI 1) hx hb dX0_takeSign_20 (by decide) ?_
      exact W.zret (ty := .boolean) (v := nI 1) hx hb hr (rfl) (fun tT ht hW => ⟨⟨_, pp + 1, rfl, Or.inr ⟨⟨h1_0, by omega, by omega⟩, rfl, rfl⟩, by show va_P G.1 vwCl _ tT.heap; rw [ht]; exact hP⟩, hS.F ht⟩) hS.2.2 dX0_takeSign_21
    · refine lv_iconst (v := nI 0) hx hb dX0_takeSign_8 (by decide) ?_
      exact W.zret (ty := .boolean) (v := nI 0) hx hb hr (rfl) (fun tT ht hW => ⟨⟨_, pp, rfl, Or.inl ⟨fun q => absurd q.2 (by omega), rfl, rfl⟩, by show va_P G.1 vwCl _ tT.heap; rw [ht]; exact hP⟩, hS.F ht⟩) hS.2.2 dX0_takeSign_9
set_option maxRecDepth 100000 in
theorem mwc_takeNumber_0 : Cond.fieldLink RX0 19 "ExhibitTexts$Pad" "place" "I" ∈ wsX0_takeNumber := by decide +kernel
set_option maxRecDepth 100000 in
theorem mic_takeNumber_0 : ∀ w ∈ u_ws RX0 TX0 10, w ∈ wsX0_takeNumber := by decide +kernel
set_option maxHeartbeats 4000000 in
set_option maxRecDepth 100000 in
/-- X0_takeNumber: a number is taken -/
theorem c_takeNumber (l : Launch) (G : zG) (p0 : Nat) (p1 : Nat) (pn : Nat) (pp : Nat) (ic : Nat) (ex : Int32) (tx : Int32) (wo : Int32) (se : Int32) (fa : Int32) (pd : Nat → Nat) (lg : Int32) (lo : Nat) (hi : Nat) (hpn : pn ≤ 60) (hpp : pp ≤ pn) (hpd : ∀ j, pd j < 65536) (hlo : lo ≤ 9) (hhi : hi ≤ 999) : Met l yX0_takeNumber wsX0_takeNumber ({ frames := 2, cells := 0, slots := 0, locals := 41 } : Room) (zPc G [.ref p0, .int (nI lo), .int (nI hi)] [(p0, .inr (0, [.ref p1, .int (nI pn), .int (nI pp), .int (nI ic), .int ex, .int tx, .int wo, .int se, .int lg, .int fa])), (p1, .inl (G.2.2.1, 60, .inl (arN pd)))]) (va_Qi (fun (rR : Int32) (uU : Nat) => (¬ (pp < pn ∧ 48 + lo ≤ pd pp ∧ pd pp ≤ 57 ∧ pd pp ≤ 48 + hi) ∧ rR = (-1) ∧ uU = pp) ∨ (pp < pn ∧ 48 + lo ≤ pd pp ∧ pd pp ≤ 57 ∧ pd pp ≤ 48 + hi ∧ rR = nI ((dgP pd pn hi (pd pp - 48) (pp + 1)).1) ∧ uU = (dgP pd pn hi (pd pp - 48) (pp + 1)).2)) (fun uU tT => va_P G.1 vwCl ((fun (uU : Nat) => ([(p0, .inr (0, [.ref p1, .int (nI pn), .int (nI uU), .int (nI ic), .int ex, .int tx, .int wo, .int se, .int lg, .int fa])), (p1, .inl (G.2.2.1, 60, .inl (arN pd)))] : va_W)) uU) tT.heap) (zIn [(p0, .inr (0, [.ref p1, .int (nI pn), .int (nI pp), .int (nI ic), .int ex, .int tx, .int wo, .int se, .int lg, .int fa])), (p1, .inl (G.2.2.1, 60, .inl (arN pd)))])) 0 0 (zIn [(p0, .inr (0, [.ref p1, .int (nI pn), .int (nI pp), .int (nI ic), .int ex, .int tx, .int wo, .int se, .int lg, .int fa])), (p1, .inl (G.2.2.1, 60, .inl (arN pd)))]) := by
  refine zM (cc := cX0_takeNumber) (maxL := 6) (ret := (some .int)) (by decide) rfl (Nat.le_of_ble_eq_true rfl) ?_
  intro pP eE sS mM below meth cC hx hb hr hts hown hlk hml hnm hK hN hP hD hS ls hl
  have hl : lv_has ls 6 [(0, .ref p0), (1, .int (nI lo)), (2, .int (nI hi))] := hl
  have hq := hpd pp
  refine lv_aload_n hx hb dX0_takeNumber_0 rfl (lv_at hl 0 rfl) ?_
  refine zc_R (As := []) (rest := []) ⟨hx, hb, hml, hown, hts⟩ (c_nextDigit l G p0 p1 pn pp ic ex tx wo se lg fa pd (by omega) (by omega) (by omega)) (cwV 0 hts gX0_takeNumber_X0_nextDigit rfl rfl rfl (by decide +kernel) ⟨Nat.le_of_ble_eq_true rfl, Nat.le_of_ble_eq_true rfl⟩) hK hN hP hD [0, 1] rfl (by decide) (ci := 0) rfl rfl rfl hl.1 rfl (Nat.le_of_ble_eq_true rfl) dX0_takeNumber_1 ⟨Nat.zero_le _, Nat.zero_le _⟩ (fun r1 h1 => ?_)
  rcases h1 with ⟨h1_0, rfl⟩ | ⟨h1_0, rfl⟩
  · refine lv_istore_n (lv' := [(3, .int (nI (pd pp - 48))), (0, .ref p0), (1, .int (nI lo)), (2, .int (nI hi))]) hx hb dX0_takeNumber_4 rfl hl (by decide) rfl (fun ls hl => ?_)
    refine lv_iload_n hx hb dX0_takeNumber_5 rfl (lv_at hl 0 rfl) ?_
    refine lv_iload_n hx hb dX0_takeNumber_6 rfl (lv_at hl 2 rfl) ?_
    refine zk_ilt (tgt := 15) hx hb dX0_takeNumber_7 (by decide) (by omega) (by omega) (fun c7 => ?_) (fun c7 => ?_)
    · refine lv_iconst (v := (-1)) hx hb dX0_takeNumber_15 (by decide) ?_
      exact W.iret (v := (-1)) hx hb hr (fun tT ht hW => ⟨⟨_, pp, rfl, Or.inl ⟨fun q => absurd q.2.1 (by have := h1_0.2; omega), rfl, rfl⟩, by show va_P G.1 vwCl _ tT.heap; rw [ht]; exact hP⟩, hS.F ht⟩) hS.2.2 dX0_takeNumber_16
    · refine lv_iload_n hx hb dX0_takeNumber_10 rfl (lv_at hl 0 rfl) ?_
      refine lv_iload_n hx hb dX0_takeNumber_11 rfl (lv_at hl 3 rfl) ?_
      refine zk_ile (tgt := 17) hx hb dX0_takeNumber_12 (by decide) (by omega) (by omega) (fun c12 => ?_) (fun c12 => ?_)
      · refine lv_aload_n hx hb dX0_takeNumber_17 rfl (lv_at hl 1 rfl) ?_
        refine lv_dup hx hb dX0_takeNumber_18 rfl ?_
        refine va_get (D := G.1) (ci := 0) (v := .int (nI pp)) (C := RX0) (T := TX0) (N := 10) hx hb hts mic_takeNumber_0 hown hK hP 0 rfl rfl 2 (by decide) (hts _ mwc_takeNumber_0) (fun _ h9 => h9) rfl dX0_takeNumber_19 ?_
        refine lv_iconst (v := nI 1) hx hb dX0_takeNumber_22 (by decide) ?_
        refine zk_add hx hb dX0_takeNumber_23 ?_
        refine zk_put (D := G.1) (ci := 0) (v := .int (nI (pp + 1))) (ty := .int) (C := RX0) (T := TX0) (N := 10) (ws2 := [(p0, .inr (0, [.ref p1, .int (nI pn), .int (nI (pp + 1)), .int (nI ic), .int ex, .int tx, .int wo, .int se, .int lg, .int fa])), (p1, .inl (G.2.2.1, 60, .inl (arN pd)))]) hx hb hts mic_takeNumber_0 tyX0 tyX0_ok nmX0 hown hK hP hD hS 0 rfl rfl 2 (by decide) (hts _ mwc_takeNumber_0) (fun _ h9 => h9) rfl (by decide +kernel) rfl rfl (Nat.le_of_ble_eq_true rfl) rfl dX0_takeNumber_24 (fun H locs hP hD hS => ?_)
        refine lv_iconst (v := nI 1) hx hb dX0_takeNumber_27 (by decide) ?_
        refine lv_istore (lv' := [(4, .int (nI 1)), (3, .int (nI (pd pp - 48))), (0, .ref p0), (1, .int (nI lo)), (2, .int (nI hi))]) hx hb dX0_takeNumber_28 hl (by decide) rfl (fun ls hl => ?_)
        have lp30 : ∀ (fu30 : Nat), ∀ (kX : Nat) (vX : Nat) (pX : Nat) (H : Heap) (locs : List Loc) (ls : Array Slot), (60 - kX) < fu30 → (1 ≤ kX) → (kX ≤ 60) → (kX ≤ pX) → (pX ≤ pn) → (vX ≤ hi) → (dgP pd pn hi vX pX = dgP pd pn hi (pd pp - 48) (pp + 1)) → va_P G.1 vwCl [(p0, .inr (0, [.ref p1, .int (nI pn), .int (nI pX), .int (nI ic), .int ex, .int tx, .int wo, .int se, .int lg, .int fa])), (p1, .inl (G.2.2.1, 60, .inl (arN pd)))] H → va_D (zIn [(p0, .inr (0, [.ref p1, .int (nI pn), .int (nI pp), .int (nI ic), .int ex, .int tx, .int wo, .int se, .int lg, .int fa])), (p1, .inl (G.2.2.1, 60, .inl (arN pd)))]) [(p0, .inr (0, [.ref p1, .int (nI pn), .int (nI pX), .int (nI ic), .int ex, .int tx, .int wo, .int se, .int lg, .int fa])), (p1, .inl (G.2.2.1, 60, .inl (arN pd)))] → va_S (zIn [(p0, .inr (0, [.ref p1, .int (nI pn), .int (nI pp), .int (nI ic), .int ex, .int tx, .int wo, .int se, .int lg, .int fa])), (p1, .inl (G.2.2.1, 60, .inl (arN pd)))]) sS.heap H locs → lv_has ls 6 [(0, .ref p0), (1, .int (nI lo)), (2, .int (nI hi)), (3, .int (nI vX)), (4, .int (nI kX))] → W pP l eE (headSpec wsX0_takeNumber ({ frames := 2, cells := 0, slots := 0, locals := 41 } : Room)).room sS mM ([.ref p0, .int (nI lo), .int (nI hi)] : List Value).toArray below meth cC H locs 0 0 (MQ below (va_Qi (fun (rR : Int32) (uU : Nat) => (¬ (pp < pn ∧ 48 + lo ≤ pd pp ∧ pd pp ≤ 57 ∧ pd pp ≤ 48 + hi) ∧ rR = (-1) ∧ uU = pp) ∨ (pp < pn ∧ 48 + lo ≤ pd pp ∧ pd pp ≤ 57 ∧ pd pp ≤ 48 + hi ∧ rR = nI ((dgP pd pn hi (pd pp - 48) (pp + 1)).1) ∧ uU = (dgP pd pn hi (pd pp - 48) (pp + 1)).2)) (fun uU tT => va_P G.1 vwCl ((fun (uU : Nat) => ([(p0, .inr (0, [.ref p1, .int (nI pn), .int (nI uU), .int (nI ic), .int ex, .int tx, .int wo, .int se, .int lg, .int fa])), (p1, .inl (G.2.2.1, 60, .inl (arN pd)))] : va_W)) uU) tT.heap) (zIn [(p0, .inr (0, [.ref p1, .int (nI pn), .int (nI pp), .int (nI ic), .int ex, .int tx, .int wo, .int se, .int lg, .int fa])), (p1, .inl (G.2.2.1, 60, .inl (arN pd)))])) ([.ref p0, .int (nI lo), .int (nI hi)] : List Value).toArray sS 0 0 (zIn [(p0, .inr (0, [.ref p1, .int (nI pn), .int (nI pp), .int (nI ic), .int ex, .int tx, .int wo, .int se, .int lg, .int fa])), (p1, .inl (G.2.2.1, 60, .inl (arN pd)))])) (F0 mM 30 ls []) := by
          intro fu30
          induction fu30 with
          | zero => intro kX vX pX H locs ls hfu30; exact absurd hfu30 (Nat.not_lt_zero _)
          | succ fu30 ih30 =>
            intro kX vX pX H locs ls hfu30 hk hk6 hkp hpx hvx hdq hP hD hS hl
            have hq2 := hpd pX
            refine lv_iload hx hb dX0_takeNumber_30 (lv_at hl 4 rfl) ?_
            refine lv_bipush (v := nI 60) hx hb dX0_takeNumber_32 (by decide) ?_
            refine zk_ige (tgt := 90) hx hb dX0_takeNumber_34 (by decide) (by omega) (by omega) (fun c34 => ?_) (fun c34 => ?_)
            · refine lv_iload_n hx hb dX0_takeNumber_90 rfl (lv_at hl 3 rfl) ?_
              exact W.iret (v := nI vX) hx hb hr (fun tT ht hW => ⟨⟨_, pX, rfl, Or.inr ⟨h1_0.1, by have := h1_0.2; omega, h1_0.2.2, by have := h1_0.2; omega, (congrArg nI (congrArg Prod.fst ((dgP_n (fun q => absurd q.2.1.1 (by omega))).symm.trans hdq))), (congrArg Prod.snd ((dgP_n (fun q => absurd q.2.1.1 (by omega))).symm.trans hdq))⟩, by show va_P G.1 vwCl _ tT.heap; rw [ht]; exact hP⟩, hS.F ht⟩) hS.2.2 dX0_takeNumber_91
            · refine lv_iload_n hx hb dX0_takeNumber_37 rfl (lv_at hl 3 rfl) ?_
              refine zk_zle (tgt := 90) hx hb dX0_takeNumber_38 (by decide) (by omega) (fun c38 => ?_) (fun c38 => ?_)
              · refine lv_iload_n hx hb dX0_takeNumber_90 rfl (lv_at hl 3 rfl) ?_
                exact W.iret (v := nI vX) hx hb hr (fun tT ht hW => ⟨⟨_, pX, rfl, Or.inr ⟨h1_0.1, by have := h1_0.2; omega, h1_0.2.2, by have := h1_0.2; omega, (congrArg nI (congrArg Prod.fst ((dgP_n (fun q => absurd q.1 (by omega))).symm.trans hdq))), (congrArg Prod.snd ((dgP_n (fun q => absurd q.1 (by omega))).symm.trans hdq))⟩, by show va_P G.1 vwCl _ tT.heap; rw [ht]; exact hP⟩, hS.F ht⟩) hS.2.2 dX0_takeNumber_91
              · refine lv_aload_n hx hb dX0_takeNumber_41 rfl (lv_at hl 0 rfl) ?_
                refine zc_R (As := []) (rest := []) ⟨hx, hb, hml, hown, hts⟩ (c_nextDigit l G p0 p1 pn pX ic ex tx wo se lg fa pd (by omega) (by omega) (by omega)) (cwV 0 hts gX0_takeNumber_X0_nextDigit rfl rfl rfl (by decide +kernel) ⟨Nat.le_of_ble_eq_true rfl, Nat.le_of_ble_eq_true rfl⟩) hK hN hP hD [0, 1] rfl (by decide) (ci := 0) rfl rfl rfl hl.1 rfl (Nat.le_of_ble_eq_true rfl) dX0_takeNumber_42 ⟨Nat.zero_le _, Nat.zero_le _⟩ (fun r42 h42 => ?_)
                rcases h42 with ⟨h42_0, rfl⟩ | ⟨h42_0, rfl⟩
                · refine lv_istore (lv' := [(5, .int (nI (pd pX - 48))), (0, .ref p0), (1, .int (nI lo)), (2, .int (nI hi)), (3, .int (nI vX)), (4, .int (nI kX))]) hx hb dX0_takeNumber_45 hl (by decide) rfl (fun ls hl => ?_)
                  refine lv_iload hx hb dX0_takeNumber_47 (lv_at hl 0 rfl) ?_
                  refine zk_zlt (tgt := 90) hx hb dX0_takeNumber_49 (by decide) (by omega) ?_
                  refine lv_iload_n hx hb dX0_takeNumber_52 rfl (lv_at hl 4 rfl) ?_
                  refine lv_bipush (v := nI 10) hx hb dX0_takeNumber_53 (by decide) ?_
                  refine zk_mul hx hb dX0_takeNumber_55 ?_
                  refine lv_iload hx hb dX0_takeNumber_56 (lv_at hl 0 rfl) ?_
                  refine zk_add hx hb dX0_takeNumber_58 ?_
                  refine lv_iload_n hx hb dX0_takeNumber_59 rfl (lv_at hl 3 rfl) ?_
                  refine zk_ile (tgt := 66) hx hb dX0_takeNumber_60 (by decide) (by omega) (by omega) (fun c60 => ?_) (fun c60 => ?_)
                  · refine lv_iload_n hx hb dX0_takeNumber_66 rfl (lv_at hl 4 rfl) ?_
                    refine lv_bipush (v := nI 10) hx hb dX0_takeNumber_67 (by decide) ?_
                    refine zk_mul hx hb dX0_takeNumber_69 ?_
                    refine lv_iload hx hb dX0_takeNumber_70 (lv_at hl 0 rfl) ?_
                    refine zk_add hx hb dX0_takeNumber_72 ?_
                    refine lv_istore_n (lv' := [(3, .int (nI ((vX * 10) + (pd pX - 48)))), (5, .int (nI (pd pX - 48))), (0, .ref p0), (1, .int (nI lo)), (2, .int (nI hi)), (4, .int (nI kX))]) hx hb dX0_takeNumber_73 rfl hl (by decide) rfl (fun ls hl => ?_)
                    refine lv_aload_n hx hb dX0_takeNumber_74 rfl (lv_at hl 2 rfl) ?_
                    refine lv_dup hx hb dX0_takeNumber_75 rfl ?_
                    refine va_get (D := G.1) (ci := 0) (v := .int (nI pX)) (C := RX0) (T := TX0) (N := 10) hx hb hts mic_takeNumber_0 hown hK hP 0 rfl rfl 2 (by decide) (hts _ mwc_takeNumber_0) (fun _ h9 => h9) rfl dX0_takeNumber_76 ?_
                    refine lv_iconst (v := nI 1) hx hb dX0_takeNumber_79 (by decide) ?_
                    refine zk_add hx hb dX0_takeNumber_80 ?_
                    refine zk_put (D := G.1) (ci := 0) (v := .int (nI (pX + 1))) (ty := .int) (C := RX0) (T := TX0) (N := 10) (ws2 := [(p0, .inr (0, [.ref p1, .int (nI pn), .int (nI (pX + 1)), .int (nI ic), .int ex, .int tx, .int wo, .int se, .int lg, .int fa])), (p1, .inl (G.2.2.1, 60, .inl (arN pd)))]) hx hb hts mic_takeNumber_0 tyX0 tyX0_ok nmX0 hown hK hP hD hS 0 rfl rfl 2 (by decide) (hts _ mwc_takeNumber_0) (fun _ h9 => h9) rfl (by decide +kernel) rfl rfl (Nat.le_of_ble_eq_true rfl) rfl dX0_takeNumber_81 (fun H locs hP hD hS => ?_)
                    refine zk_inc (a := kX) (d := 1) (lv' := [(4, .int (nI (kX + 1))), (3, .int (nI ((vX * 10) + (pd pX - 48)))), (5, .int (nI (pd pX - 48))), (0, .ref p0), (1, .int (nI lo)), (2, .int (nI hi))]) hx hb dX0_takeNumber_84 hl (K := 5) rfl (by decide) (by decide) rfl (fun ls hl => ?_)
                    refine lv_goto (tgt := 30) hx hb dX0_takeNumber_87 (by decide) ?_
                    exact ih30 (kX + 1) ((vX * 10) + (pd pX - 48)) (pX + 1) _ _ _ (by omega) (by omega) (by omega) (by omega) (by have := h42_0.1; omega) (by have := h42_0.2; omega) (by have h9 := h42_0.2; rw [show vX * 10 + (pd pX - 48) = 10 * vX + pd pX - 48 from by omega, ← dgP_y ⟨by omega, h42_0, by omega⟩]; exact hdq) hP hD hS (lv_sub hl [3, 4, 5, 1, 0] rfl)
                  · refine lv_goto (tgt := 90) hx hb dX0_takeNumber_63 (by decide) ?_
                    refine lv_iload_n hx hb dX0_takeNumber_90 rfl (lv_at hl 4 rfl) ?_
                    exact W.iret (v := nI vX) hx hb hr (fun tT ht hW => ⟨⟨_, pX, rfl, Or.inr ⟨h1_0.1, by have := h1_0.2; omega, h1_0.2.2, by have := h1_0.2; omega, (congrArg nI (congrArg Prod.fst ((dgP_n (fun q => absurd q.2.2 (by have := h42_0.2; omega))).symm.trans hdq))), (congrArg Prod.snd ((dgP_n (fun q => absurd q.2.2 (by have := h42_0.2; omega))).symm.trans hdq))⟩, by show va_P G.1 vwCl _ tT.heap; rw [ht]; exact hP⟩, hS.F ht⟩) hS.2.2 dX0_takeNumber_91
                · refine lv_istore (lv' := [(5, .int (-1)), (0, .ref p0), (1, .int (nI lo)), (2, .int (nI hi)), (3, .int (nI vX)), (4, .int (nI kX))]) hx hb dX0_takeNumber_45 hl (by decide) rfl (fun ls hl => ?_)
                  refine lv_iload hx hb dX0_takeNumber_47 (lv_at hl 0 rfl) ?_
                  refine lv_if_lt (tgt := 90) hx hb dX0_takeNumber_49 (by decide) (fun _ => ?_) (fun q => absurd (by decide) q)
                  refine lv_iload_n hx hb dX0_takeNumber_90 rfl (lv_at hl 4 rfl) ?_
                  exact W.iret (v := nI vX) hx hb hr (fun tT ht hW => ⟨⟨_, pX, rfl, Or.inr ⟨h1_0.1, by have := h1_0.2; omega, h1_0.2.2, by have := h1_0.2; omega, (congrArg nI (congrArg Prod.fst ((dgP_n (fun q => h42_0 q.2.1)).symm.trans hdq))), (congrArg Prod.snd ((dgP_n (fun q => h42_0 q.2.1)).symm.trans hdq))⟩, by show va_P G.1 vwCl _ tT.heap; rw [ht]; exact hP⟩, hS.F ht⟩) hS.2.2 dX0_takeNumber_91
        exact lp30 _ 1 (pd pp - 48) (pp + 1) _ _ _ (Nat.lt_succ_self _) (by omega) (by omega) (by omega) (by have := h1_0.1; omega) (by omega) rfl hP hD hS (lv_sub hl [2, 3, 4, 1, 0] rfl)
      · refine lv_iconst (v := (-1)) hx hb dX0_takeNumber_15 (by decide) ?_
        exact W.iret (v := (-1)) hx hb hr (fun tT ht hW => ⟨⟨_, pp, rfl, Or.inl ⟨fun q => absurd q.2.2.2 (by have := h1_0.2; omega), rfl, rfl⟩, by show va_P G.1 vwCl _ tT.heap; rw [ht]; exact hP⟩, hS.F ht⟩) hS.2.2 dX0_takeNumber_16
  · refine lv_istore_n (lv' := [(3, .int (-1)), (0, .ref p0), (1, .int (nI lo)), (2, .int (nI hi))]) hx hb dX0_takeNumber_4 rfl hl (by decide) rfl (fun ls hl => ?_)
    refine lv_iload_n hx hb dX0_takeNumber_5 rfl (lv_at hl 0 rfl) ?_
    refine lv_iload_n hx hb dX0_takeNumber_6 rfl (lv_at hl 2 rfl) ?_
    refine lv_icmp_lt (tgt := 15) hx hb dX0_takeNumber_7 (by decide) (fun _ => ?_) (fun q => absurd (m1_lt (by omega)) q)
    refine lv_iconst (v := (-1)) hx hb dX0_takeNumber_15 (by decide) ?_
    exact W.iret (v := (-1)) hx hb hr (fun tT ht hW => ⟨⟨_, pp, rfl, Or.inl ⟨fun q => h1_0 ⟨q.1, by omega, q.2.2.1⟩, rfl, rfl⟩, by show va_P G.1 vwCl _ tT.heap; rw [ht]; exact hP⟩, hS.F ht⟩) hS.2.2 dX0_takeNumber_16
set_option maxRecDepth 100000 in
theorem mwc_takeFacts_0 : Cond.fieldLink RX0 19 "ExhibitTexts$Pad" "place" "I" ∈ wsX0_takeFacts := by decide +kernel
set_option maxRecDepth 100000 in
theorem mic_takeFacts_0 : ∀ w ∈ u_ws RX0 TX0 10, w ∈ wsX0_takeFacts := by decide +kernel
set_option maxHeartbeats 4000000 in
set_option maxRecDepth 100000 in
/-- X0_takeFacts: letters are taken -/
theorem c_takeFacts (l : Launch) (G : zG) (p0 : Nat) (p1 : Nat) (pn : Nat) (pp : Nat) (ic : Nat) (ex : Int32) (tx : Int32) (wo : Int32) (se : Int32) (lo : Int32) (fa : Int32) (pd : Nat → Nat) (hpn : pn ≤ 60) (hpp : pp ≤ pn) (hpd : ∀ j, pd j < 65536) : Met l yX0_takeFacts wsX0_takeFacts ({ frames := 1, cells := 0, slots := 0, locals := 20 } : Room) (zPc G [.ref p0] [(p0, .inr (0, [.ref p1, .int (nI pn), .int (nI pp), .int (nI ic), .int ex, .int tx, .int wo, .int se, .int lo, .int fa])), (p1, .inl (G.2.2.1, 60, .inl (arN pd)))]) (va_Qi (fun (rR : Int32) (uU : Nat) => rR = nI ((ltP pd pn 0 97 pp).1) ∧ uU = (ltP pd pn 0 97 pp).2) (fun uU tT => va_P G.1 vwCl ((fun (uU : Nat) => ([(p0, .inr (0, [.ref p1, .int (nI pn), .int (nI uU), .int (nI ic), .int ex, .int tx, .int wo, .int se, .int lo, .int fa])), (p1, .inl (G.2.2.1, 60, .inl (arN pd)))] : va_W)) uU) tT.heap) (zIn [(p0, .inr (0, [.ref p1, .int (nI pn), .int (nI pp), .int (nI ic), .int ex, .int tx, .int wo, .int se, .int lo, .int fa])), (p1, .inl (G.2.2.1, 60, .inl (arN pd)))])) 0 0 (zIn [(p0, .inr (0, [.ref p1, .int (nI pn), .int (nI pp), .int (nI ic), .int ex, .int tx, .int wo, .int se, .int lo, .int fa])), (p1, .inl (G.2.2.1, 60, .inl (arN pd)))]) := by
  refine zM (cc := cX0_takeFacts) (maxL := 3) (ret := (some .int)) (by decide) rfl (Nat.le_of_ble_eq_true rfl) ?_
  intro pP eE sS mM below meth cC hx hb hr hts hown hlk hml hnm hK hN hP hD hS ls hl
  have hl : lv_has ls 3 [(0, .ref p0)] := hl
  refine lv_iconst (v := nI 0) hx hb dX0_takeFacts_0 (by decide) ?_
  refine lv_istore_n (lv' := [(1, .int (nI 0)), (0, .ref p0)]) hx hb dX0_takeFacts_1 rfl hl (by decide) rfl (fun ls hl => ?_)
  refine lv_iconst (v := nI 0) hx hb dX0_takeFacts_2 (by decide) ?_
  refine lv_istore_n (lv' := [(2, .int (nI 0)), (1, .int (nI 0)), (0, .ref p0)]) hx hb dX0_takeFacts_3 rfl hl (by decide) rfl (fun ls hl => ?_)
  have lp4 : ∀ (fu4 : Nat), ∀ (kX : Nat) (aX : Nat) (pX : Nat) (H : Heap) (locs : List Loc) (ls : Array Slot), (16 - kX) < fu4 → (kX ≤ 16) → (pX ≤ pn) → (ltP pd pn aX (97 + kX) pX = ltP pd pn 0 97 pp) → va_P G.1 vwCl [(p0, .inr (0, [.ref p1, .int (nI pn), .int (nI pX), .int (nI ic), .int ex, .int tx, .int wo, .int se, .int lo, .int fa])), (p1, .inl (G.2.2.1, 60, .inl (arN pd)))] H → va_D (zIn [(p0, .inr (0, [.ref p1, .int (nI pn), .int (nI pp), .int (nI ic), .int ex, .int tx, .int wo, .int se, .int lo, .int fa])), (p1, .inl (G.2.2.1, 60, .inl (arN pd)))]) [(p0, .inr (0, [.ref p1, .int (nI pn), .int (nI pX), .int (nI ic), .int ex, .int tx, .int wo, .int se, .int lo, .int fa])), (p1, .inl (G.2.2.1, 60, .inl (arN pd)))] → va_S (zIn [(p0, .inr (0, [.ref p1, .int (nI pn), .int (nI pp), .int (nI ic), .int ex, .int tx, .int wo, .int se, .int lo, .int fa])), (p1, .inl (G.2.2.1, 60, .inl (arN pd)))]) sS.heap H locs → lv_has ls 3 [(0, .ref p0), (1, .int (nI aX)), (2, .int (nI kX))] → W pP l eE (headSpec wsX0_takeFacts ({ frames := 1, cells := 0, slots := 0, locals := 20 } : Room)).room sS mM ([.ref p0] : List Value).toArray below meth cC H locs 0 0 (MQ below (va_Qi (fun (rR : Int32) (uU : Nat) => rR = nI ((ltP pd pn 0 97 pp).1) ∧ uU = (ltP pd pn 0 97 pp).2) (fun uU tT => va_P G.1 vwCl ((fun (uU : Nat) => ([(p0, .inr (0, [.ref p1, .int (nI pn), .int (nI uU), .int (nI ic), .int ex, .int tx, .int wo, .int se, .int lo, .int fa])), (p1, .inl (G.2.2.1, 60, .inl (arN pd)))] : va_W)) uU) tT.heap) (zIn [(p0, .inr (0, [.ref p1, .int (nI pn), .int (nI pp), .int (nI ic), .int ex, .int tx, .int wo, .int se, .int lo, .int fa])), (p1, .inl (G.2.2.1, 60, .inl (arN pd)))])) ([.ref p0] : List Value).toArray sS 0 0 (zIn [(p0, .inr (0, [.ref p1, .int (nI pn), .int (nI pp), .int (nI ic), .int ex, .int tx, .int wo, .int se, .int lo, .int fa])), (p1, .inl (G.2.2.1, 60, .inl (arN pd)))])) (F0 mM 4 ls []) := by
    intro fu4
    induction fu4 with
    | zero => intro kX aX pX H locs ls hfu4; exact absurd hfu4 (Nat.not_lt_zero _)
    | succ fu4 ih4 =>
      intro kX aX pX H locs ls hfu4 hk hpx hlq hP hD hS hl
      have hq2 := hpd pX
      refine lv_iload_n hx hb dX0_takeFacts_4 rfl (lv_at hl 2 rfl) ?_
      refine lv_bipush (v := nI 16) hx hb dX0_takeFacts_5 (by decide) ?_
      refine zk_ige (tgt := 43) hx hb dX0_takeFacts_7 (by decide) (by omega) (by omega) (fun c7 => ?_) (fun c7 => ?_)
      · refine lv_iload_n hx hb dX0_takeFacts_43 rfl (lv_at hl 1 rfl) ?_
        exact W.iret (v := nI aX) hx hb hr (fun tT ht hW => ⟨⟨_, pX, rfl, ⟨(congrArg nI (congrArg Prod.fst ((ltP_n (fun q => absurd q.2 (by omega))).symm.trans hlq))), (congrArg Prod.snd ((ltP_n (fun q => absurd q.2 (by omega))).symm.trans hlq))⟩, by show va_P G.1 vwCl _ tT.heap; rw [ht]; exact hP⟩, hS.F ht⟩) hS.2.2 dX0_takeFacts_44
      · refine lv_aload_n hx hb dX0_takeFacts_10 rfl (lv_at hl 0 rfl) ?_
        refine zc_R (As := []) (rest := []) ⟨hx, hb, hml, hown, hts⟩ (c_nextSign l G p0 p1 pn pX ic ex tx wo se lo fa pd (by omega) (by omega) (by omega)) (cwV 0 hts gX0_takeFacts_X0_nextSign rfl rfl rfl (by decide +kernel) ⟨Nat.le_of_ble_eq_true rfl, Nat.le_of_ble_eq_true rfl⟩) hK hN hP hD [0, 1] rfl (by decide) (ci := 0) rfl rfl rfl hl.1 rfl (Nat.le_of_ble_eq_true rfl) dX0_takeFacts_11 ⟨Nat.zero_le _, Nat.zero_le _⟩ (fun r11 h11 => ?_)
        rcases h11 with ⟨h11_0, rfl⟩ | ⟨h11_0, rfl⟩
        · refine lv_bipush (v := nI 97) hx hb dX0_takeFacts_14 (by decide) ?_
          refine lv_iload_n hx hb dX0_takeFacts_16 rfl (lv_at hl 2 rfl) ?_
          refine zk_add hx hb dX0_takeFacts_17 ?_
          refine lv_icmp_ne (tgt := 37) hx hb dX0_takeFacts_18 (by decide) (fun _ => ?_) (fun q => absurd q (m1_ne (by omega)))
          refine zk_inc (a := kX) (d := 1) (lv' := [(2, .int (nI (kX + 1))), (0, .ref p0), (1, .int (nI aX))]) hx hb dX0_takeFacts_37 hl (K := 2) rfl (by decide) (by decide) rfl (fun ls hl => ?_)
          refine lv_goto (tgt := 4) hx hb dX0_takeFacts_40 (by decide) ?_
          exact ih4 (kX + 1) aX pX _ _ _ (by omega) (by omega) (by omega) ((ltP_n (fun q => absurd q.1 (by omega))).trans ((ltP_n (fun q => absurd q.1 (by omega))).symm.trans hlq)) hP hD hS (lv_sub hl [1, 2, 0] rfl)
        · refine lv_bipush (v := nI 97) hx hb dX0_takeFacts_14 (by decide) ?_
          refine lv_iload_n hx hb dX0_takeFacts_16 rfl (lv_at hl 2 rfl) ?_
          refine zk_add hx hb dX0_takeFacts_17 ?_
          refine zk_ine (tgt := 37) hx hb dX0_takeFacts_18 (by decide) (by omega) (by omega) (fun c18 => ?_) (fun c18 => ?_)
          · refine zk_inc (a := kX) (d := 1) (lv' := [(2, .int (nI (kX + 1))), (0, .ref p0), (1, .int (nI aX))]) hx hb dX0_takeFacts_37 hl (K := 2) rfl (by decide) (by decide) rfl (fun ls hl => ?_)
            refine lv_goto (tgt := 4) hx hb dX0_takeFacts_40 (by decide) ?_
            exact ih4 (kX + 1) aX pX _ _ _ (by omega) (by omega) (by omega) ((ltP_skip c18).symm.trans hlq) hP hD hS (lv_sub hl [1, 2, 0] rfl)
          · refine lv_iload_n hx hb dX0_takeFacts_21 rfl (lv_at hl 1 rfl) ?_
            refine lv_iconst (v := nI 1) hx hb dX0_takeFacts_22 (by decide) ?_
            refine lv_iload_n hx hb dX0_takeFacts_23 rfl (lv_at hl 2 rfl) ?_
            refine lv_ishl hx hb dX0_takeFacts_24 ?_
            refine zk_top (y := nI (2 ^ kX)) (shl1 _ (by omega)) ?_
            refine zk_or hx hb dX0_takeFacts_25 ?_
            refine lv_istore_n (lv' := [(1, .int (nI (aX ||| (2 ^ kX)))), (0, .ref p0), (2, .int (nI kX))]) hx hb dX0_takeFacts_26 rfl hl (by decide) rfl (fun ls hl => ?_)
            refine lv_aload_n hx hb dX0_takeFacts_27 rfl (lv_at hl 1 rfl) ?_
            refine lv_dup hx hb dX0_takeFacts_28 rfl ?_
            refine va_get (D := G.1) (ci := 0) (v := .int (nI pX)) (C := RX0) (T := TX0) (N := 10) hx hb hts mic_takeFacts_0 hown hK hP 0 rfl rfl 2 (by decide) (hts _ mwc_takeFacts_0) (fun _ h9 => h9) rfl dX0_takeFacts_29 ?_
            refine lv_iconst (v := nI 1) hx hb dX0_takeFacts_32 (by decide) ?_
            refine zk_add hx hb dX0_takeFacts_33 ?_
            refine zk_put (D := G.1) (ci := 0) (v := .int (nI (pX + 1))) (ty := .int) (C := RX0) (T := TX0) (N := 10) (ws2 := [(p0, .inr (0, [.ref p1, .int (nI pn), .int (nI (pX + 1)), .int (nI ic), .int ex, .int tx, .int wo, .int se, .int lo, .int fa])), (p1, .inl (G.2.2.1, 60, .inl (arN pd)))]) hx hb hts mic_takeFacts_0 tyX0 tyX0_ok nmX0 hown hK hP hD hS 0 rfl rfl 2 (by decide) (hts _ mwc_takeFacts_0) (fun _ h9 => h9) rfl (by decide +kernel) rfl rfl (Nat.le_of_ble_eq_true rfl) rfl dX0_takeFacts_34 (fun H locs hP hD hS => ?_)
            refine zk_inc (a := kX) (d := 1) (lv' := [(2, .int (nI (kX + 1))), (1, .int (nI (aX ||| (2 ^ kX)))), (0, .ref p0)]) hx hb dX0_takeFacts_37 hl (K := 2) rfl (by decide) (by decide) rfl (fun ls hl => ?_)
            refine lv_goto (tgt := 4) hx hb dX0_takeFacts_40 (by decide) ?_
            exact ih4 (kX + 1) (aX ||| (2 ^ kX)) (pX + 1) _ _ _ (by omega) (by omega) (by omega) ((ltP_hit c18 h11_0 (by omega)).symm.trans hlq) hP hD hS (lv_sub hl [2, 1, 0] rfl)
  exact lp4 _ 0 0 pp _ _ _ (Nat.lt_succ_self _) (by omega) (by omega) rfl hP hD hS (lv_sub hl [2, 1, 0] rfl)
