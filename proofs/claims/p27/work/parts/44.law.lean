/-! the law's loops, its entry -/
theorem lw_arr {A : Array Value} {s : State} {ty : FieldType} (h : (Cond.arrayClass ty).before A s = true) : ∃ cA : ClassId, ArrOfT s cA ty ∧ s.vm.findClass ("[" ++ ty.toString) = some cA := by
  obtain ⟨cA, kA, comp, h1, h2, h3⟩ := Cond.arrayClass_spec h
  exact ⟨cA, fun n z => ⟨fun k h => (by cases h), kA, h2, comp, h3⟩, h1⟩
theorem lw_arrQ {s : State} {C : String} (h : va_AO C s) : ∃ cA : ClassId, ArrOfT s cA (.object C) ∧ va_RA s cA (.object C) := by
  obtain ⟨comp, c, k, h1, h2, h3, h4, h5⟩ := Cond.arrayOver_spec h
  exact ⟨c, fun N z => ⟨(fun k h => by cases h), k, h3, comp, h4⟩, k, comp, h3, h4, h1, h5⟩
theorem lw_nf {b : Addr} {s : State} (hts0 : ∀ w ∈ lw_tbl, w.before #[Value.ref b] s = true) : zNF s := ⟨va_Nw.of (A := #[Value.ref b]) rfl (hts0 (.methodLinkNest "ExhibitTexts" 11 yX1_init "ExhibitTexts") (List.mem_append_right _ (List.mem_of_getElem? (i := 17) (by decide +kernel)))), va_Nw.of (A := #[Value.ref b]) rfl (hts0 (.methodLinkNest "ExhibitTexts" 28 yX0_init "ExhibitTexts") (List.mem_append_right _ (List.mem_of_getElem? (i := 73) (by decide +kernel)))), va_Nw.of (A := #[Value.ref b]) rfl (hts0 (.methodLinkNest "ExhibitTexts$State" 56 yX2_isExhibit "ExhibitTexts") (List.mem_append_right _ (List.mem_of_getElem? (i := 148) (by decide +kernel)))), va_Nw.of (A := #[Value.ref b]) rfl (hts0 (.methodLinkNest "ExhibitTexts$State" 60 yX2_isText "ExhibitTexts") (List.mem_append_right _ (List.mem_of_getElem? (i := 151) (by decide +kernel)))), va_Nw.of (A := #[Value.ref b]) rfl (hts0 (.methodLinkNest "ExhibitTexts$State" 73 yX2_isAge "ExhibitTexts") (List.mem_append_right _ (List.mem_of_getElem? (i := 259) (by decide +kernel))))⟩
theorem ini_0 {j : Nat} (h : j ≠ 1) : arU (fun _ => 0) 1 5 j = 0 := arU_n h
theorem ini_OK : mOK (arU (fun _ => 0) 1 5) :=
  ⟨⟨by decide, by decide, by decide, fun h => absurd h (by decide), by decide, by decide⟩, fun e he => by rw [ini_0 (by omega)]; exact Nat.zero_le _, fun e t he ht => by rw [ini_0 (by omega)] at ht; exact absurd ht (Nat.not_lt_zero _)⟩
theorem ini_R : sRel (fun _ => 0) (fun _ => 0) (arU (fun _ => 0) 1 5) :=
  ⟨fun e he => (ini_0 (by omega)).symm, fun e t he ht => by rw [ini_0 (by omega)] at ht; exact absurd ht (Nat.not_lt_zero _)⟩
theorem ini_C : cOK (arU (fun _ => 0) 1 5) := fun e t c he ht _ => by rw [ini_0 (by omega)] at ht; exact absurd ht (Nat.not_lt_zero _)
set_option maxHeartbeats 4000000 in
set_option maxRecDepth 100000 in
theorem law_l2 {pP : Program} {l : Launch} {eE : Env} {sS : State} {mM : MethodId} {below : List Frame} {meth : Method} {cC : Code} {G : zG} {b L : Nat} {xs : Nat → Int32} (hL : L ≤ 260) (C0 : lw_At pP sS mM meth cC b L xs) (hK : va_K G.1 vwCl (zT G) sS) (hN : zNF sS) {m0 : Nat} : ∀ (k n i : Nat), i ≤ 52 → 53 ≤ i + k → n ≤ i → ∀ (g : Nat → Nat) (H : Heap) (locs : List Loc) (ls : Array Slot), lB G (fun q : Nat => sS.heap.size ≤ q) n m0 g H → va_S (fun q : Nat => sS.heap.size ≤ q) sS.heap H locs → lv_has ls 14 [(2, .int (nI i)), (1, .ref m0), (0, .ref b)] → W pP l eE room_1 sS mM #[Value.ref b] below meth cC H locs 600000 7302250 (lw_Z below #[Value.ref b] sS) (F0 mM 54 ls []) := by
  obtain ⟨hx, hb, hr, hml, hown, hts0, hX, hbl, hlocks, hgv⟩ := id C0
  intro k
  induction k with
  | zero => intro n i h1 h2; omega
  | succ k ih =>
    intro n i hi hk hn g H locs ls hB hS hl
    have hl : lv_has ls 14 [(2, .int (nI i)), (1, .ref m0), (0, .ref b)] := hl
    refine lv_iload_n hx hb dL_law_54 rfl (lv_at hl 0 rfl) ?_
    refine lv_bipush (v := nI 52) hx hb dL_law_55 (by decide) ?_
    refine zk_ige (tgt := 390) hx hb dL_law_57 (by decide) (by omega) (by omega) (fun cE => ?_) (fun cE => ?_)
    · refine lv_iconst (v := 1) hx hb dL_law_390 (by decide) ?_
      refine va_forget (fun q hq => hS.2.2 q hq) ?_
      exact lw_ret hx hb hr hlocks dL_law_391
    · refine la_1 hL C0 hK hN (n := n) (by omega) (by omega) (by omega) hB hS hl (fun g H locs ls hB hS hl => ?_)
      refine zk_inc (a := i) (d := 1) (lv' := [(2, .int (nI (i + 1))), (1, .ref m0), (0, .ref b)]) hx hb dL_law_384 hl (K := 0) rfl (by decide) (by decide) rfl (fun ls hl => ?_)
      refine lv_goto (tgt := 54) hx hb dL_law_387 (by decide) ?_
      exact ih (n + 1) (i + 1) (by omega) (by omega) (by omega) g H locs ls hB hS hl
set_option maxHeartbeats 4000000 in
set_option maxRecDepth 100000 in
theorem law_l1 {pP : Program} {l : Launch} {eE : Env} {sS : State} {mM : MethodId} {below : List Frame} {meth : Method} {cC : Code} {G : zG} {b L : Nat} {xs : Nat → Int32} (hL : L ≤ 260) (C0 : lw_At pP sS mM meth cC b L xs) (hK : va_K G.1 vwCl (zT G) sS) (hN : zNF sS) {m0 : Nat} : ∀ (k n i : Nat), i ≤ 4 → 5 ≤ i + k → n ≤ i → ∀ (g : Nat → Nat) (H : Heap) (locs : List Loc) (ls : Array Slot), lB G (fun q : Nat => sS.heap.size ≤ q) n m0 g H → va_S (fun q : Nat => sS.heap.size ≤ q) sS.heap H locs → lv_has ls 14 [(2, .int (nI i)), (1, .ref m0), (0, .ref b)] → W pP l eE room_1 sS mM #[Value.ref b] below meth cC H locs 600000 7302250 (lw_Z below #[Value.ref b] sS) (F0 mM 10 ls []) := by
  obtain ⟨hx, hb, hr, hml, hown, hts0, hX, hbl, hlocks, hgv⟩ := id C0
  intro k
  induction k with
  | zero => intro n i h1 h2; omega
  | succ k ih =>
    intro n i hi hk hn g H locs ls hB hS hl
    have hl : lv_has ls 14 [(2, .int (nI i)), (1, .ref m0), (0, .ref b)] := hl
    refine lv_iload_n hx hb dL_law_10 rfl (lv_at hl 0 rfl) ?_
    refine lv_iconst (v := nI 4) hx hb dL_law_11 (by decide) ?_
    refine zk_ige (tgt := 52) hx hb dL_law_12 (by decide) (by omega) (by omega) (fun cE => ?_) (fun cE => ?_)
    · refine lv_iconst (v := nI 4) hx hb dL_law_52 (by decide) ?_
      refine lv_istore_n (lv' := [(2, .int (nI 4)), (1, .ref m0), (0, .ref b)]) hx hb dL_law_53 rfl hl (by decide) rfl (fun ls hl => ?_)
      exact law_l2 hL C0 hK hN 49 n 4 (by omega) (by omega) (by omega) g H locs ls hB hS hl
    · refine la_0 hL C0 hK hN (n := n) (by omega) (by omega) hB hS hl (fun g H locs ls hB hS hl => ?_)
      refine zk_inc (a := i) (d := 1) (lv' := [(2, .int (nI (i + 1))), (1, .ref m0), (0, .ref b)]) hx hb dL_law_46 hl (K := 0) rfl (by decide) (by decide) rfl (fun ls hl => ?_)
      refine lv_goto (tgt := 10) hx hb dL_law_49 (by decide) ?_
      exact ih (n + 1) (i + 1) (by omega) (by omega) (by omega) g H locs ls hB hS hl
set_option maxHeartbeats 4000000 in
set_option maxRecDepth 100000 in
/-- the law, from its entry -/
theorem whole_start {p : Program} {e : Env} {s : State} {m : MethodId} {below : List Frame} {meth : Method} {c : Code} (l : Launch) (hflags : l.flags = flags0) {b L : Nat} {xs : Nat → Int32} (hL : L ≤ 260) (C0 : lw_At p s m meth c b L xs) : W p l e room_1 s m #[Value.ref b] below meth c s.heap [] 0 0 (lw_Z below #[Value.ref b] s) (entryFrame m ([Value.ref b] : List Value).toArray 14) := by
  obtain ⟨hx, hb, hr, hml, hown, hts0, hX, hbl, hlocks, hgv⟩ := id C0
  have hts : ∀ w ∈ wsL_law, w.before #[Value.ref b] s = true := fun w h => hts0 w (wsL_law_in w h)
  have hA : ∀ q : Nat, s.heap.size ≤ q → (fun q : Nat => s.heap.size ≤ q) q := fun _ h => h
  have hN : zNF s := lw_nf hts0
  have hO : va_AO "ExhibitTexts$State" s := va_AO.of (A := #[Value.ref b]) (hts0 (.arrayOver (.object "ExhibitTexts$State")) (List.mem_append_right _ (List.mem_of_getElem? (i := 70) (by decide +kernel))))
  obtain ⟨c0, i0, kn0⟩ := u_known (C := RX0) (T := TX0) (N := 10) (n := 10) hts inlX0 (hts0 (.instantiable RX0 10) (List.mem_append_right _ (List.mem_of_getElem? (i := 72) (by decide +kernel))))
  obtain ⟨c1, i1, kn1⟩ := u_known (C := RX1) (T := TX1) (N := 12) (n := 12) hts inlX1 (hts0 (.instantiable RX1 12) (List.mem_append_right _ (List.mem_of_getElem? (i := 16) (by decide +kernel))))
  obtain ⟨c2, i2, kn2⟩ := u_known (C := RX2) (T := TX2) (N := 10) (n := 10) hts inlX2 (hts0 (.instantiable RX2 10) (List.mem_append_right _ (List.mem_of_getElem? (i := 8) (by decide +kernel))))
  obtain ⟨cI, aI, fI⟩ := lw_arr (ty := .int) (hts0 (.arrayClass .int) (List.mem_append_right _ (List.mem_of_getElem? (i := 69) (by decide +kernel))))
  obtain ⟨cC, aC, fC⟩ := lw_arr (ty := .char) (hts0 (.arrayClass .char) (List.mem_append_right _ (List.mem_of_getElem? (i := 100) (by decide +kernel))))
  obtain ⟨cQ, aQ, fQ⟩ := lw_arrQ hO
  obtain ⟨G, hK⟩ : ∃ G : zG, va_K G.1 vwCl (zT G) s := by
    refine ⟨((fun k => if k = 0 then c0 else if k = 1 then c1 else c2, fun k => if k = 0 then i0 else if k = 1 then i1 else i2), cI, cC, cQ), fun k q hq => ?_, fun k q hq => ?_⟩
    · match k, hq with
      | 0, hq => cases hq; exact kn0
      | 1, hq => cases hq; exact kn1
      | 2, hq => cases hq; exact kn2
      | k + 3, hq => simp [vwCl] at hq
    · match k, hq with
      | 0, hq => cases hq; exact ⟨aI, fI⟩
      | 1, hq => cases hq; exact ⟨aC, fC⟩
      | 2, hq => cases hq; exact ⟨aQ, fQ⟩
      | k + 3, hq => simp [zT] at hq
  have hS : va_S (fun q : Nat => s.heap.size ≤ q) s.heap s.heap [] := va_S.rf
  have hP : va_P G.1 vwCl [] s.heap := fun k q h => by simp at h
  have hD : va_D (fun q : Nat => s.heap.size ≤ q) [] := ⟨fun i j p q h => by simp at h, fun k q h => by simp at h⟩
  have hl := lv_entry ([.ref b]) (n := 14) (Nat.le_of_ble_eq_true rfl)
  rw [lg_entry_eq]
  generalize (lg_sl ([.ref b]) ++ List.replicate (14 - (lg_sl ([.ref b])).length) Slot.unset).toArray = ls at hl ⊢
  have hl : lv_has ls 14 [(0, .ref b)] := hl
  refine va_new (ci := 2) (fs := [.null, .null, .null, .int (nI 0), .null, .int (nI 0), .int (nI 0), .null, .int (nI 0), .int (nI 0)]) (C := RX2) (T := TX2) (N := 10) hx hb hts inlX2 tyX2 tyX2_ok hown (hts (Cond.classLink RL 20 RX2) (List.mem_of_getElem? (i := 0) (by decide +kernel))) (hts (Cond.instantiable RX2 10) (List.mem_of_getElem? (i := 1) (by decide +kernel))) (hts (Cond.initialized RX2) (List.mem_of_getElem? (i := 2) (by decide +kernel))) hK hP hD hS hA rfl dfX2 (Nat.le_of_ble_eq_true rfl) (Nat.le_of_ble_eq_true rfl) dL_law_0 (fun m0 H hP hD hS => ?_)
  have hP : va_P G.1 vwCl [(m0, .inr (2, [.null, .null, .null, .int (nI 0), .null, .int (nI 0), .int (nI 0), .null, .int (nI 0), .int (nI 0)]))] H := hP
  have hD : va_D (fun q : Nat => s.heap.size ≤ q) [(m0, .inr (2, [.null, .null, .null, .int (nI 0), .null, .int (nI 0), .int (nI 0), .null, .int (nI 0), .int (nI 0)]))] := hD
  refine lv_dup hx hb dL_law_3 rfl ?_
  refine zc_I (As := []) (rest := [.ref m0]) (wr := []) ⟨hx, hb, hml, hown, hts⟩ (cN_Class l G m0 H.size) (cwI 0 hts gL_law_X2_init rfl rfl rfl (hts (Cond.initialized RX2) (List.mem_of_getElem? (i := 2) (by decide +kernel))) (hts (Cond.methodLink RL 78 yX2_init) (List.mem_of_getElem? (i := 4) (by decide +kernel))) (hts (Cond.instanceMethod yX2_init) (List.mem_of_getElem? (i := 5) (by decide +kernel))) rfl (by decide +kernel) ⟨(Nat.le_of_ble_eq_true rfl), (Nat.le_of_ble_eq_true rfl)⟩) hK hN hO hP hD hS hA [0] rfl (by decide) [] rfl (by decide) (by decide) rfl hl.1 rfl (Nat.le_of_ble_eq_true rfl) dL_law_4 ⟨(Nat.le_of_ble_eq_true rfl), (Nat.le_of_ble_eq_true rfl)⟩ (fun u H locs _ hP hD hS => ?_)
  have hP : va_P G.1 vwCl [(m0, .inr (2, [.ref (u 3), .ref (u 6), .ref (u 9), .int (nI 0), .ref (u 0), .int (nI 0), .int (nI 0), .ref (u 1), .int (nI 0), .int (nI 0)])), ((u 0), .inl (G.2.2.2, 4, .inr (.inr (.inr (.inr (arQ (fun j => u (12 + 3 * j)))))))), (u 3, .inr (1, [.ref (u 4), .ref (u 5), .int (nI 0), .int (nI 5), .int (nI 0), .int (nI 0), .int (nI 0), .int (nI 0), .int (nI 0), .int (nI 0), .int (nI 0), .int (nI 0)])), (u 4, .inl (G.2.1, 8, .inl (arN (fun _ => 0)))), (u 5, .inl (G.2.1, 640, .inl (arN (fun _ => 0)))), (u 6, .inr (1, [.ref (u 7), .ref (u 8), .int (nI 0), .int (nI 5), .int (nI 0), .int (nI 0), .int (nI 0), .int (nI 0), .int (nI 0), .int (nI 0), .int (nI 0), .int (nI 0)])), (u 7, .inl (G.2.1, 8, .inl (arN (fun _ => 0)))), (u 8, .inl (G.2.1, 640, .inl (arN (fun _ => 0)))), (u 9, .inr (1, [.ref (u 10), .ref (u 11), .int (nI 0), .int (nI 5), .int (nI 0), .int (nI 0), .int (nI 0), .int (nI 0), .int (nI 0), .int (nI 0), .int (nI 0), .int (nI 0)])), (u 10, .inl (G.2.1, 8, .inl (arN (fun _ => 0)))), (u 11, .inl (G.2.1, 640, .inl (arN (fun _ => 0)))), (u 12, .inr (1, [.ref (u 13), .ref (u 14), .int (nI 0), .int (nI 5), .int (nI 0), .int (nI 0), .int (nI 0), .int (nI 0), .int (nI 0), .int (nI 0), .int (nI 0), .int (nI 0)])), (u 13, .inl (G.2.1, 8, .inl (arN (fun _ => 0)))), (u 14, .inl (G.2.1, 640, .inl (arN (fun _ => 0)))), (u 15, .inr (1, [.ref (u 16), .ref (u 17), .int (nI 0), .int (nI 5), .int (nI 0), .int (nI 0), .int (nI 0), .int (nI 0), .int (nI 0), .int (nI 0), .int (nI 0), .int (nI 0)])), (u 16, .inl (G.2.1, 8, .inl (arN (fun _ => 0)))), (u 17, .inl (G.2.1, 640, .inl (arN (fun _ => 0)))), (u 18, .inr (1, [.ref (u 19), .ref (u 20), .int (nI 0), .int (nI 5), .int (nI 0), .int (nI 0), .int (nI 0), .int (nI 0), .int (nI 0), .int (nI 0), .int (nI 0), .int (nI 0)])), (u 19, .inl (G.2.1, 8, .inl (arN (fun _ => 0)))), (u 20, .inl (G.2.1, 640, .inl (arN (fun _ => 0)))), (u 21, .inr (1, [.ref (u 22), .ref (u 23), .int (nI 0), .int (nI 5), .int (nI 0), .int (nI 0), .int (nI 0), .int (nI 0), .int (nI 0), .int (nI 0), .int (nI 0), .int (nI 0)])), (u 22, .inl (G.2.1, 8, .inl (arN (fun _ => 0)))), (u 23, .inl (G.2.1, 640, .inl (arN (fun _ => 0)))), (u 1, .inr (0, [.ref (u 2), .int (nI 0), .int (nI 0), .int (nI 0), .int (nI 0), .int (nI 0), .int (nI 0), .int (nI 0), .int (nI 0), .int (nI 0)])), (u 2, .inl (G.2.2.1, 60, .inl (arN (fun _ => 0))))] H := hP
  have hD : va_D (fun q : Nat => s.heap.size ≤ q) [(m0, .inr (2, [.ref (u 3), .ref (u 6), .ref (u 9), .int (nI 0), .ref (u 0), .int (nI 0), .int (nI 0), .ref (u 1), .int (nI 0), .int (nI 0)])), ((u 0), .inl (G.2.2.2, 4, .inr (.inr (.inr (.inr (arQ (fun j => u (12 + 3 * j)))))))), (u 3, .inr (1, [.ref (u 4), .ref (u 5), .int (nI 0), .int (nI 5), .int (nI 0), .int (nI 0), .int (nI 0), .int (nI 0), .int (nI 0), .int (nI 0), .int (nI 0), .int (nI 0)])), (u 4, .inl (G.2.1, 8, .inl (arN (fun _ => 0)))), (u 5, .inl (G.2.1, 640, .inl (arN (fun _ => 0)))), (u 6, .inr (1, [.ref (u 7), .ref (u 8), .int (nI 0), .int (nI 5), .int (nI 0), .int (nI 0), .int (nI 0), .int (nI 0), .int (nI 0), .int (nI 0), .int (nI 0), .int (nI 0)])), (u 7, .inl (G.2.1, 8, .inl (arN (fun _ => 0)))), (u 8, .inl (G.2.1, 640, .inl (arN (fun _ => 0)))), (u 9, .inr (1, [.ref (u 10), .ref (u 11), .int (nI 0), .int (nI 5), .int (nI 0), .int (nI 0), .int (nI 0), .int (nI 0), .int (nI 0), .int (nI 0), .int (nI 0), .int (nI 0)])), (u 10, .inl (G.2.1, 8, .inl (arN (fun _ => 0)))), (u 11, .inl (G.2.1, 640, .inl (arN (fun _ => 0)))), (u 12, .inr (1, [.ref (u 13), .ref (u 14), .int (nI 0), .int (nI 5), .int (nI 0), .int (nI 0), .int (nI 0), .int (nI 0), .int (nI 0), .int (nI 0), .int (nI 0), .int (nI 0)])), (u 13, .inl (G.2.1, 8, .inl (arN (fun _ => 0)))), (u 14, .inl (G.2.1, 640, .inl (arN (fun _ => 0)))), (u 15, .inr (1, [.ref (u 16), .ref (u 17), .int (nI 0), .int (nI 5), .int (nI 0), .int (nI 0), .int (nI 0), .int (nI 0), .int (nI 0), .int (nI 0), .int (nI 0), .int (nI 0)])), (u 16, .inl (G.2.1, 8, .inl (arN (fun _ => 0)))), (u 17, .inl (G.2.1, 640, .inl (arN (fun _ => 0)))), (u 18, .inr (1, [.ref (u 19), .ref (u 20), .int (nI 0), .int (nI 5), .int (nI 0), .int (nI 0), .int (nI 0), .int (nI 0), .int (nI 0), .int (nI 0), .int (nI 0), .int (nI 0)])), (u 19, .inl (G.2.1, 8, .inl (arN (fun _ => 0)))), (u 20, .inl (G.2.1, 640, .inl (arN (fun _ => 0)))), (u 21, .inr (1, [.ref (u 22), .ref (u 23), .int (nI 0), .int (nI 5), .int (nI 0), .int (nI 0), .int (nI 0), .int (nI 0), .int (nI 0), .int (nI 0), .int (nI 0), .int (nI 0)])), (u 22, .inl (G.2.1, 8, .inl (arN (fun _ => 0)))), (u 23, .inl (G.2.1, 640, .inl (arN (fun _ => 0)))), (u 1, .inr (0, [.ref (u 2), .int (nI 0), .int (nI 0), .int (nI 0), .int (nI 0), .int (nI 0), .int (nI 0), .int (nI 0), .int (nI 0), .int (nI 0)])), (u 2, .inl (G.2.2.1, 60, .inl (arN (fun _ => 0))))] := hD
  refine lv_astore_n (lv' := [(1, .ref m0), (0, .ref b)]) hx hb dL_law_7 rfl hl (by decide) rfl (fun ls hl => ?_)
  refine lv_iconst (v := nI 0) hx hb dL_law_8 (by decide) ?_
  refine lv_istore_n (lv' := [(2, .int (nI 0)), (1, .ref m0), (0, .ref b)]) hx hb dL_law_9 rfl hl (by decide) rfl (fun ls hl => ?_)
  refine W.widen (k := 600000) (n := 7302250) (Nat.le_of_ble_eq_true rfl) (Nat.le_of_ble_eq_true rfl) ?_
  have hB : lB G (fun q : Nat => s.heap.size ≤ q) 0 m0 (arU (fun _ => 0) 1 5) H := by
    refine ⟨(fun j => (u (12 + 3 * j), u (13 + 3 * j), u (14 + 3 * j), (fun _ => 0), (fun _ => 0), arU (fun _ => 0) 1 5)), (u 3), (u 6), (u 9), 0, (u 0), 0, 0, (u 1), (u 4), (u 5), (u 7), (u 8), (u 10), (u 11), (u 2), 0, 0, 0, (nI 0), (nI 0), (nI 0), (nI 0), (nI 0), (nI 0), (nI 0), (nI 0), (fun _ => 0), (fun _ => 0), (fun _ => 0), (fun _ => 0), (arU (fun _ => 0) 1 5), (fun _ => 0), (fun _ => 0), (arU (fun _ => 0) 1 5), (fun _ => 0), ⟨⟨ini_OK, ini_R, ini_C⟩, Nat.zero_le _, Nat.zero_le _⟩, hP, hD⟩
  exact law_l1 hL C0 hK hN 5 0 0 (Nat.zero_le _) (by omega) (Nat.le_refl 0) _ H _ ls hB hS hl
set_option maxHeartbeats 4000000 in
theorem lw_walk (l : Launch) (hflags : l.flags = flags0) (b : Addr) (xs : List Int32) : MetFree l x (headSpec (Jvm.Cond.code x code maxLocals ret :: tables_1) room_1) (lw_P b xs) (fun _ _ _ _ _ => True) lw_Q := by
  refine MetFree.of_bodyS (code := code) (maxLocals := maxLocals) (ret := ret) (by decide) ?_ ?_
  · intro args s m h hn
    obtain ⟨meth, c, h1, h2, h3, h4, h5, h6, -, -⟩ := Cond.code_spec hn (atoms_spec (ws := Jvm.Cond.code x code maxLocals ret :: tables_1) h _ List.mem_cons_self)
    exact ⟨meth, c, h1, h2, h3, h4, h5, h6⟩
  · intro p e s m args below meth c s₁ B hml0 hP _
    obtain ⟨rfl, hx, hbd, hgv⟩ := hP
    obtain ⟨scr, harrAt, hlist, hof, hsmall⟩ := hx
    obtain ⟨hcb, hkn, -, -⟩ := State.arrayAt?_spec harrAt
    have hown : s.vm.findClass R_law = some m.cls := findClass_of_methodNamed B.named
    have hts0 : ∀ c ∈ (Jvm.Cond.code x code maxLocals ret :: tables_1), c.before #[Value.ref b] s = true := atoms_spec (ws := Jvm.Cond.code x code maxLocals ret :: tables_1) B.pre
    have hts : ∀ w ∈ lw_tbl, w.before #[Value.ref b] s = true := k2_hts_sels lw_privs (fun w hw => hts0 w (List.mem_cons_of_mem _ hw)) lw_privs_ok
    have hml : c.maxLocals = 14 := B.maxLocals_eq (hts0 _ List.mem_cons_self)
    have X₀ : Stand p l e room_1 s m #[Value.ref b] below meth c s₁ [] 0 0 := Stand.of_body B
    have hh0 : s₁.heap = s.heap := by rw [B.state]; rfl
    have hsz : scr.slots.size = xs.length := by rw [← Array.length_toList, hlist, List.length_map]
    have hval : ∀ j : Nat, j < xs.length → scr.slots[j]? = some (.int (xs.getD j 0)) := fun j hj => by
      rw [← Array.getElem?_toList, hlist]
      simp [hj]
    have hbl : b < s.heap.size := (Array.getElem?_eq_some_iff.mp hcb).1
    have hX : va_X b xs.length (fun j => xs.getD j 0) s s.heap := ⟨scr, hcb, hof, hkn, hsz, hval⟩
    have K : W p l e room_1 s m #[Value.ref b] below meth c s₁.heap [] 0 0 (lw_Z below #[Value.ref b] s) (entryFrame m ([Value.ref b] : List Value).toArray 14) := by
      rw [hh0]
      exact whole_start l hflags hbd ⟨B.exec, B.bytes, B.returns, hml, hown, hts, hX, hbl, B.notSynchronized, hgv⟩
    obtain ⟨t, a1, o, b1, b2, b3⟩ := K s₁ rfl X₀
    exact ⟨t, o, a1, b1, b2, b3⟩
theorem lw_pre_spec {args : Array Value} {s : State} (h : (Jvm.Cond.and given_1 narrow_1).before args s = true) (hr : rest_1_c.before args s = true) : ∃ (b : Addr) (xs : List Int32), lw_P b xs args s := by
  have hs := flat_of_before _ h
  have hq := flat_of_before _ hr
  have hc : (Cond.count 1).before args s = true := hs _ (by decide +kernel)
  have harr : (Cond.arrayOf (.arg 0) .int).before args s = true := hs _ (by decide +kernel)
  have hle : (Cond.le (.length (.arg 0)) (.int 260)).before args s = true := hs _ (by decide +kernel)
  have hlen : (Cond.isInt (.length (.arg 0))).before args s = true := hq _ (by decide +kernel)
  have hall : (Cond.all (.arg 0) (.isInt (.elem (.arg 0) (.index 0)))).before args s = true := hq _ (by decide +kernel)
  obtain ⟨b, xs, hb, hx⟩ := State.ints_of_pre rfl harr hlen hall
  have hsm : xs.length < 2 ^ 31 := hx.choose_spec.2.2.2
  have hev : (Term.length (.arg 0)).eval args s none [] s = some (.int xs.length.toInt32) := hx.length_eval hb
  have hv := Cond.le_ints hev (show (Term.int 260).eval args s none [] s = some (.int 260) from rfl)
  have hd : xs.length.toInt32 ≤ 260 := by
    simpa [Cond.before, Cond.holds, hv] using hle
  have hN : xs.length ≤ 260 := (Int32.ofNat_le_ofNat hsm (by decide)).mp (show Int32.ofNat xs.length ≤ Int32.ofNat 260 from hd)
  exact ⟨b, xs, Cond.one_arg hc (show args[0]? = some (.ref b) from hb), hx, hN, h⟩
theorem lw_comes (l : Launch) (hflags : l.flags = flags0) : Comes l x (Jvm.Cond.code x code maxLocals ret :: tables_1) room_1 (fun tb e args s => Calls_1 tb e args s ∧ rest_1 tb e args s ∧ Pre_1 tb e args s)
    (fun _ _ args s o t => lw_Q args s o t) := by
  intro p e ha hc hk s m args below hf hfit hheap happ hpre
  obtain ⟨b, xs, hP⟩ := lw_pre_spec hpre.2.2 hpre.2.1
  obtain ⟨k, o, h1, h2, h3, hQ⟩ := lw_walk l hflags b xs p e ha hc hk s m args below hf ((Spec.applies_iff_loose hf).mp happ).1 hP trivial
  exact ⟨k, o, h1, h2, h3, hQ⟩
theorem lw_frame {s t : State} {o : Outcome} {args : Array Value} (h : Framed s o t [] 600000 7302250) :
    Framed s o t (fieldLocs frame_1_writes args s ++ arrayLocs frame_1_arrays args s ++ staticLocs frame_1_statics s) 600000 7302250 := h
theorem lw_limb (L : Cond) (hL : ∀ (args : Array Value) (s t : State), L.after args s (.returned (some (.int 1))) t = true) :
    ArmFor flags0 classFile x code maxLocals ret World_1 tables_1 room_1 Calls_1 rest_1 Pre_1
      (fun tb e a s o t => postC L tb e a s o t ∧ Framed s o t (fieldLocs frame_1_writes a s ++ arrayLocs frame_1_arrays a s ++ staticLocs frame_1_statics s) 600000 7302250) := by
  intro l hflags _ _ p e ha hc hk s m args below hf hfit hheap happ hpre
  obtain ⟨k, o, h1, h2, h3, rfl, hF⟩ := lw_comes l hflags p e ha hc hk s m args below hf hfit hheap happ hpre
  exact ⟨k, _, h1, h2, h3, hL args s _, lw_frame hF⟩
theorem i_vc : Claimed_1_1 ∧ Claimed_1_2 := ⟨lw_limb limb_1_1 (fun args s t => by simp [limb_1_1, Cond.after, Cond.holds, Cond.value]), lw_limb limb_1_2 (fun args s t => Cond.after_iff.mpr (by
  first | (rw [show limb_1_2 = Cond.eq .result (.int 1) from rfl, Cond.eq_ints (x := 1) (y := 1) rfl rfl]; simp; done) | (simp [limb_1_2, Cond.value, Term.eval]; done)))⟩
