/-! the law's loop, its entry -/
theorem lw_arr {A : Array Value} {s : State} {ty : FieldType} (h : (Cond.arrayClass ty).before A s = true) : ∃ cA : ClassId, ArrOfT s cA ty ∧ s.vm.findClass ("[" ++ ty.toString) = some cA := by
  obtain ⟨cA, kA, comp, h1, h2, h3⟩ := Cond.arrayClass_spec h
  exact ⟨cA, fun n z => ⟨fun k h => (by cases h), kA, h2, comp, h3⟩, h1⟩
theorem lw_arrQ {s : State} {C : String} (h : va_AO C s) : ∃ cA : ClassId, ArrOfT s cA (.object C) ∧ va_RA s cA (.object C) := by
  obtain ⟨comp, c, k, h1, h2, h3, h4, h5⟩ := Cond.arrayOver_spec h
  exact ⟨c, fun N z => ⟨(fun k h => by cases h), k, h3, comp, h4⟩, k, comp, h3, h4, h1, h5⟩
theorem lw_nf {b : Addr} {s : State} (hts0 : ∀ w ∈ lw_tbl, w.before #[Value.ref b] s = true) : zNF s := ⟨va_Nw.of (A := #[Value.ref b]) rfl (hts0 (.methodLinkNest "ExhibitTexts" 11 yX1_init "ExhibitTexts") (List.mem_append_right _ (List.mem_of_getElem? (i := 18) (by decide +kernel)))), va_Nw.of (A := #[Value.ref b]) rfl (hts0 (.methodLinkNest "ExhibitTexts" 28 yX0_init "ExhibitTexts") (List.mem_append_right _ (List.mem_of_getElem? (i := 74) (by decide +kernel)))), va_Nw.of (A := #[Value.ref b]) rfl (hts0 (.methodLinkNest "ExhibitTexts$State" 56 yX2_isExhibit "ExhibitTexts") (List.mem_append_right _ (List.mem_of_getElem? (i := 169) (by decide +kernel)))), va_Nw.of (A := #[Value.ref b]) rfl (hts0 (.methodLinkNest "ExhibitTexts$State" 60 yX2_isText "ExhibitTexts") (List.mem_append_right _ (List.mem_of_getElem? (i := 172) (by decide +kernel)))), va_Nw.of (A := #[Value.ref b]) rfl (hts0 (.methodLinkNest "ExhibitTexts$State" 73 yX2_isAge "ExhibitTexts") (List.mem_append_right _ (List.mem_of_getElem? (i := 277) (by decide +kernel))))⟩
theorem ini_0 {j : Nat} (h : j ≠ 1) : arU (fun _ => 0) 1 5 j = 0 := arU_n h
theorem ini_OK : mOK (arU (fun _ => 0) 1 5) :=
  ⟨⟨by decide, by decide, by decide, fun h => absurd h (by decide), by decide, by decide⟩, fun e he => by rw [ini_0 (by omega)]; exact Nat.zero_le _, fun e t he ht => by rw [ini_0 (by omega)] at ht; exact absurd ht (Nat.not_lt_zero _)⟩
theorem ini_R : sRel (fun _ => 0) (fun _ => 0) (arU (fun _ => 0) 1 5) :=
  ⟨fun e he => (ini_0 (by omega)).symm, fun e t he ht => by rw [ini_0 (by omega)] at ht; exact absurd ht (Nat.not_lt_zero _)⟩
theorem lB_mono {G : zG} {A : Nat → Prop} {n m0 b0 : Nat} {H : Heap} (hB : lB G A n m0 b0 H) : lB G A (n + 1) m0 b0 H := by
  obtain ⟨h, a0, t0, s0, kp, hy, nx, st, p0, a1, a2, t1, t2, s1, s2, p1, pn, pp, ic, b1, b2, b3, b4, b5, b6, rd, iw, re, er, ex, tx, wo, se, lo, fa, ra, rb, fl, sz, sc, sg, uz, uc, ug, vz, vc, vg, pd, al, be, ka, td, hI, hP, hD⟩ := hB
  exact lB_pk (lI_mono (Nat.le_succ _) hI) hP hD
theorem lw_more {i L : Nat} (hL : L ≤ 3072) (hi : i ≤ L) (h : ¬ nI L - nI 6 < nI i) : i + 6 ≤ L := by
  rw [Int32.lt_iff_toInt_lt, pk_sub_toInt (by omega) (by omega), nI_toInt (by omega)] at h
  omega
set_option maxHeartbeats 4000000 in
set_option maxRecDepth 100000 in
theorem law_loop {pP : Program} {l : Launch} {eE : Env} {sS : State} {mM : MethodId} {below : List Frame} {meth : Method} {cC : Code} {G : zG} {b L : Nat} {xs : Nat → Int32} (hL : L ≤ 3072) (C0 : lw_At pP sS mM meth cC b L xs) (hK : va_K G.1 vwCl (zT G) sS) (hN : zNF sS) {m0 b0 : Nat} :
    ∀ (k n i : Nat), i ≤ L → L + 1 ≤ i + k → n ≤ i → ∀ (H : Heap) (locs : List Loc) (ls : Array Slot), lB G (fun q : Nat => sS.heap.size ≤ q) n m0 b0 H → va_S (fun q : Nat => sS.heap.size ≤ q) sS.heap H locs → lv_has ls 4 [(3, .int (nI i)), (2, .ref b0), (1, .ref m0), (0, .ref b)] → W pP l eE room_1 sS mM #[Value.ref b] below meth cC H locs 600000 7302250 (lw_Z below #[Value.ref b] sS) (F0 mM 18 ls []) := by
  obtain ⟨hx, hb, hr, hml, hown, hts0, hX, hbl, hlocks, hgv⟩ := id C0
  have hbA : ¬ (fun q : Nat => sS.heap.size ≤ q) b := Nat.not_le.mpr hbl
  intro k
  induction k with
  | zero => intro n i h1 h2; omega
  | succ k ih =>
    intro n i hi hk hn H locs ls hB hS hl
    have hl : lv_has ls 4 [(3, .int (nI i)), (2, .ref b0), (1, .ref m0), (0, .ref b)] := hl
    refine lv_iload_n hx hb dL_law_18 rfl (lv_at hl 0 rfl) ?_
    refine lv_aload_n hx hb dL_law_19 rfl (lv_at hl 3 rfl) ?_
    refine va_slen hx hb hX hbl hbA hS dL_law_20 ?_
    refine lv_bipush (v := nI 6) hx hb dL_law_21 (by decide) ?_
    refine lv_isub hx hb dL_law_23 ?_
    refine lv_icmp_gt (tgt := 880) hx hb dL_law_24 (by decide) (fun c24 => ?_) (fun c24 => ?_)
    · refine lv_iconst (v := 1) hx hb dL_law_880 (by decide) ?_
      refine va_forget (fun q hq => hS.2.2 q hq) ?_
      exact lw_ret hx hb hr hlocks dL_law_881
    · have hi6 : i + 6 ≤ L := lw_more hL hi c24
      refine lv_aload_n hx hb dL_law_27 rfl (lv_at hl 3 rfl) ?_
      refine lv_iload_n hx hb dL_law_28 rfl (lv_at hl 0 rfl) ?_
      refine va_sld hx hb hX hbl hbA hS (vp_in_nI (show i < L by omega) (by omega)) dL_law_29 ?_
      refine lv_bipush (v := nI 31) hx hb dL_law_30 (by decide) ?_
      refine lv_iand hx hb dL_law_32 ?_
      refine lv_topi (fun sv esv => ?_)
      have kk : ∀ (H : Heap) (locs : List Loc) (ls : Array Slot), lB G (fun q : Nat => sS.heap.size ≤ q) (n + 1) m0 b0 H → va_S (fun q : Nat => sS.heap.size ≤ q) sS.heap H locs → lv_has ls 4 [(3, .int (nI i)), (2, .ref b0), (1, .ref m0), (0, .ref b)] → W pP l eE room_1 sS mM #[Value.ref b] below meth cC H locs 600000 7302250 (lw_Z below #[Value.ref b] sS) (F0 mM 874 ls []) := by
        intro H locs ls hB hS hl
        refine zk_inc (a := i) (d := 6) (lv' := [(3, .int (nI (i + 6))), (2, .ref b0), (1, .ref m0), (0, .ref b)]) hx hb dL_law_874 hl (K := 0) rfl (by decide) (by decide) rfl (fun ls hl => ?_)
        refine lv_goto (tgt := 18) hx hb dL_law_877 (by decide) ?_
        exact ih (n + 1) (i + 6) hi6 (by omega) (by omega) H locs ls hB hS hl
      rcases sw_in (n := 24) sv with ⟨swX, hsw, hswe⟩ | hno
      · subst hswe
        rcases (show swX = 0 ∨ swX = 1 ∨ swX = 2 ∨ swX = 3 ∨ swX = 4 ∨ swX = 5 ∨ swX = 6 ∨ swX = 7 ∨ swX = 8 ∨ swX = 9 ∨ swX = 10 ∨ swX = 11 ∨ swX = 12 ∨ swX = 13 ∨ swX = 14 ∨ swX = 15 ∨ swX = 16 ∨ swX = 17 ∨ swX = 18 ∨ swX = 19 ∨ swX = 20 ∨ swX = 21 ∨ swX = 22 ∨ swX = 23 from by omega) with rfl | rfl | rfl | rfl | rfl | rfl | rfl | rfl | rfl | rfl | rfl | rfl | rfl | rfl | rfl | rfl | rfl | rfl | rfl | rfl | rfl | rfl | rfl | rfl
        · refine lv_tableIn (x := nI 0) (off := 111) (tgt := 144) hx hb dL_law_33 (by decide) (by decide) (by decide) (by decide) ?_
          exact la_addText hL C0 hK hN (by omega) hi6 hB hS hl kk
        · refine lv_tableIn (x := nI 1) (off := 174) (tgt := 207) hx hb dL_law_33 (by decide) (by decide) (by decide) (by decide) ?_
          exact la_removeText hL C0 hK hN (by omega) hi6 hB hS hl kk
        · refine lv_tableIn (x := nI 2) (off := 207) (tgt := 240) hx hb dL_law_33 (by decide) (by decide) (by decide) (by decide) ?_
          exact la_setFacts hL C0 hK hN (by omega) hi6 hB hS hl kk
        · refine lv_tableIn (x := nI 3) (off := 250) (tgt := 283) hx hb dL_law_33 (by decide) (by decide) (by decide) (by decide) ?_
          exact la_addCaption hL C0 hK hN (by omega) hi6 hB hS hl kk
        · refine lv_tableIn (x := nI 4) (off := 303) (tgt := 336) hx hb dL_law_33 (by decide) (by decide) (by decide) (by decide) ?_
          exact la_readEntries hL C0 hK hN (by omega) hi6 hB hS hl kk
        · refine lv_tableIn (x := nI 5) (off := 316) (tgt := 349) hx hb dL_law_33 (by decide) (by decide) (by decide) (by decide) ?_
          exact la_refusal hL C0 hK hN (by omega) hi6 hB hS hl kk
        · refine lv_tableIn (x := nI 6) (off := 339) (tgt := 372) hx hb dL_law_33 (by decide) (by decide) (by decide) (by decide) ?_
          exact la_enter hL C0 hK hN (by omega) hi6 hB hS hl kk
        · refine lv_tableIn (x := nI 7) (off := 382) (tgt := 415) hx hb dL_law_33 (by decide) (by decide) (by decide) (by decide) ?_
          exact la_touch hL C0 hK hN (by omega) hi6 hB hS hl kk
        · refine lv_tableIn (x := nI 8) (off := 405) (tgt := 438) hx hb dL_law_33 (by decide) (by decide) (by decide) (by decide) ?_
          exact la_read hL C0 hK hN (by omega) hi6 hB hS hl kk
        · refine lv_tableIn (x := nI 9) (off := 418) (tgt := 451) hx hb dL_law_33 (by decide) (by decide) (by decide) (by decide) ?_
          exact la_turn hL C0 hK hN (by omega) hi6 hB hS hl kk
        · refine lv_tableIn (x := nI 10) (off := 457) (tgt := 490) hx hb dL_law_33 (by decide) (by decide) (by decide) (by decide) ?_
          exact la_setTurning hL C0 hK hN (by omega) hi6 hB hS hl kk
        · refine lv_tableIn (x := nI 11) (off := 480) (tgt := 513) hx hb dL_law_33 (by decide) (by decide) (by decide) (by decide) ?_
          exact la_type hL C0 hK hN (by omega) hi6 hB hS hl kk
        · refine lv_tableIn (x := nI 12) (off := 505) (tgt := 538) hx hb dL_law_33 (by decide) (by decide) (by decide) (by decide) ?_
          exact la_clearPad hL C0 hK hN (by omega) hi6 hB hS hl kk
        · refine lv_tableIn (x := nI 13) (off := 518) (tgt := 551) hx hb dL_law_33 (by decide) (by decide) (by decide) (by decide) ?_
          exact la_undo hL C0 hK hN (by omega) hi6 hB hS hl kk
        · refine lv_tableIn (x := nI 14) (off := 531) (tgt := 564) hx hb dL_law_33 (by decide) (by decide) (by decide) (by decide) ?_
          exact la_keep hL C0 hK hN (by omega) hi6 hB hS hl kk
        · refine lv_tableIn (x := nI 15) (off := 544) (tgt := 577) hx hb dL_law_33 (by decide) (by decide) (by decide) (by decide) ?_
          exact la_restore hL C0 hK hN (by omega) hi6 hB hS hl kk
        · refine lv_tableIn (x := nI 16) (off := 557) (tgt := 590) hx hb dL_law_33 (by decide) (by decide) (by decide) (by decide) ?_
          exact la_text hL C0 hK hN (by omega) hi6 hB hS hl kk
        · refine lv_tableIn (x := nI 17) (off := 600) (tgt := 633) hx hb dL_law_33 (by decide) (by decide) (by decide) (by decide) ?_
          exact la_caption hL C0 hK hN (by omega) hi6 hB hS hl kk
        · refine lv_tableIn (x := nI 18) (off := 653) (tgt := 686) hx hb dL_law_33 (by decide) (by decide) (by decide) (by decide) ?_
          exact la_visitor hL C0 hK hN (by omega) hi6 hB hS hl kk
        · refine lv_tableIn (x := nI 19) (off := 676) (tgt := 709) hx hb dL_law_33 (by decide) (by decide) (by decide) (by decide) ?_
          exact la_shown hL C0 hK hN (by omega) hi6 hB hS hl kk
        · refine lv_tableIn (x := nI 20) (off := 709) (tgt := 742) hx hb dL_law_33 (by decide) (by decide) (by decide) (by decide) ?_
          exact la_unmet hL C0 hK hN (by omega) hi6 hB hS hl kk
        · refine lv_tableIn (x := nI 21) (off := 732) (tgt := 765) hx hb dL_law_33 (by decide) (by decide) (by decide) (by decide) ?_
          exact la_round hL C0 hK hN (by omega) hi6 hB hS hl kk
        · refine lv_tableIn (x := nI 22) (off := 775) (tgt := 808) hx hb dL_law_33 (by decide) (by decide) (by decide) (by decide) ?_
          exact la_ages hL C0 hK hN (by omega) hi6 hB hS hl kk
        · refine lv_tableIn (x := nI 23) (off := 818) (tgt := 851) hx hb dL_law_33 (by decide) (by decide) (by decide) (by decide) ?_
          exact la_count hL C0 hK hN (by omega) hi6 hB hS hl kk
      · refine lv_tableOut (tgt := 874) hx hb dL_law_33 (sw_out (n := 24) (by decide) hno (by decide)) (by decide) ?_
        exact kk H locs ls (lB_mono hB) hS hl
set_option maxHeartbeats 4000000 in
set_option maxRecDepth 100000 in
/-- the law, from its entry -/
theorem whole_start {p : Program} {e : Env} {s : State} {m : MethodId} {below : List Frame} {meth : Method} {c : Code} (l : Launch) (hflags : l.flags = flags0) {b L : Nat} {xs : Nat → Int32} (hL : L ≤ 3072) (C0 : lw_At p s m meth c b L xs) : W p l e room_1 s m #[Value.ref b] below meth c s.heap [] 0 0 (lw_Z below #[Value.ref b] s) (entryFrame m ([Value.ref b] : List Value).toArray 4) := by
  obtain ⟨hx, hb, hr, hml, hown, hts0, hX, hbl, hlocks, hgv⟩ := id C0
  have hts : ∀ w ∈ wsL_law, w.before #[Value.ref b] s = true := fun w h => hts0 w (wsL_law_in w h)
  have hA : ∀ q : Nat, s.heap.size ≤ q → (fun q : Nat => s.heap.size ≤ q) q := fun _ h => h
  have hN : zNF s := lw_nf hts0
  have hO : va_AO "ExhibitTexts$State" s := va_AO.of (A := #[Value.ref b]) (hts0 (.arrayOver (.object "ExhibitTexts$State")) (List.mem_append_right _ (List.mem_of_getElem? (i := 71) (by decide +kernel))))
  obtain ⟨c0, i0, kn0⟩ := u_known (C := RX0) (T := TX0) (N := 10) (n := 10) hts inlX0 (hts0 (.instantiable RX0 10) (List.mem_append_right _ (List.mem_of_getElem? (i := 73) (by decide +kernel))))
  obtain ⟨c1, i1, kn1⟩ := u_known (C := RX1) (T := TX1) (N := 12) (n := 12) hts inlX1 (hts0 (.instantiable RX1 12) (List.mem_append_right _ (List.mem_of_getElem? (i := 17) (by decide +kernel))))
  obtain ⟨c2, i2, kn2⟩ := u_known (C := RX2) (T := TX2) (N := 10) (n := 10) hts inlX2 (hts0 (.instantiable RX2 10) (List.mem_append_right _ (List.mem_of_getElem? (i := 9) (by decide +kernel))))
  obtain ⟨c3, i3, kn3⟩ := u_known (C := RX3) (T := TX3) (N := 14) (n := 14) hts inlX3 (hts0 (.instantiable RX3 14) (List.mem_append_right _ (List.mem_of_getElem? (i := 432) (by decide +kernel))))
  obtain ⟨cI, aI, fI⟩ := lw_arr (ty := .int) (hts0 (.arrayClass .int) (List.mem_append_right _ (List.mem_of_getElem? (i := 70) (by decide +kernel))))
  obtain ⟨cC, aC, fC⟩ := lw_arr (ty := .char) (hts0 (.arrayClass .char) (List.mem_append_right _ (List.mem_of_getElem? (i := 118) (by decide +kernel))))
  obtain ⟨cQ, aQ, fQ⟩ := lw_arrQ hO
  obtain ⟨G, hK⟩ : ∃ G : zG, va_K G.1 vwCl (zT G) s := by
    refine ⟨((fun k => if k = 0 then c0 else if k = 1 then c1 else if k = 2 then c2 else c3, fun k => if k = 0 then i0 else if k = 1 then i1 else if k = 2 then i2 else i3), cI, cC, cQ), fun k q hq => ?_, fun k q hq => ?_⟩
    · match k, hq with
      | 0, hq => cases hq; exact kn0
      | 1, hq => cases hq; exact kn1
      | 2, hq => cases hq; exact kn2
      | 3, hq => cases hq; exact kn3
      | k + 4, hq => simp [vwCl] at hq
    · match k, hq with
      | 0, hq => cases hq; exact ⟨aI, fI⟩
      | 1, hq => cases hq; exact ⟨aC, fC⟩
      | 2, hq => cases hq; exact ⟨aQ, fQ⟩
      | k + 3, hq => simp [zT] at hq
  have hS : va_S (fun q : Nat => s.heap.size ≤ q) s.heap s.heap [] := va_S.rf
  have hP : va_P G.1 vwCl [] s.heap := fun k q h => by simp at h
  have hD : va_D (fun q : Nat => s.heap.size ≤ q) [] := ⟨fun i j p q h => by simp at h, fun k q h => by simp at h⟩
  have hl := lv_entry ([.ref b]) (n := 4) (Nat.le_of_ble_eq_true rfl)
  rw [lg_entry_eq]
  generalize (lg_sl ([.ref b]) ++ List.replicate (4 - (lg_sl ([.ref b])).length) Slot.unset).toArray = ls at hl ⊢
  have hl : lv_has ls 4 [(0, .ref b)] := hl
  refine va_new (ci := 2) (fs := [.null, .null, .null, .int (nI 0), .null, .int (nI 0), .int (nI 0), .null, .int (nI 0), .int (nI 0)]) (C := RX2) (T := TX2) (N := 10) hx hb hts inlX2 tyX2 tyX2_ok hown (hts (Cond.classLink RL 7 RX2) (List.mem_of_getElem? (i := 0) (by decide +kernel))) (hts (Cond.instantiable RX2 10) (List.mem_of_getElem? (i := 1) (by decide +kernel))) (hts (Cond.initialized RX2) (List.mem_of_getElem? (i := 2) (by decide +kernel))) hK hP hD hS hA rfl dfX2 (Nat.le_of_ble_eq_true rfl) (Nat.le_of_ble_eq_true rfl) dL_law_0 (fun m0 H hP hD hS => ?_)
  have hP : va_P G.1 vwCl [(m0, .inr (2, [.null, .null, .null, .int (nI 0), .null, .int (nI 0), .int (nI 0), .null, .int (nI 0), .int (nI 0)]))] H := hP
  have hD : va_D (fun q : Nat => s.heap.size ≤ q) [(m0, .inr (2, [.null, .null, .null, .int (nI 0), .null, .int (nI 0), .int (nI 0), .null, .int (nI 0), .int (nI 0)]))] := hD
  refine lv_dup hx hb dL_law_3 rfl ?_
  refine zc_I (As := []) (rest := [.ref m0]) (wr := []) ⟨hx, hb, hml, hown, hts⟩ (cN_Class l G m0 H.size) (cwI 0 hts gL_law_X2_init rfl rfl rfl (hts (Cond.initialized RX2) (List.mem_of_getElem? (i := 2) (by decide +kernel))) (hts (Cond.methodLink RL 9 yX2_init) (List.mem_of_getElem? (i := 6) (by decide +kernel))) (hts (Cond.instanceMethod yX2_init) (List.mem_of_getElem? (i := 7) (by decide +kernel))) rfl (by decide +kernel) ⟨(Nat.le_of_ble_eq_true rfl), (Nat.le_of_ble_eq_true rfl)⟩) hK hN hO hP hD hS hA [0] rfl (by decide) [] rfl (by decide) (by decide) rfl hl.1 rfl (Nat.le_of_ble_eq_true rfl) dL_law_4 ⟨(Nat.le_of_ble_eq_true rfl), (Nat.le_of_ble_eq_true rfl)⟩ (fun u H locs _ hP hD hS => ?_)
  have hP : va_P G.1 vwCl [(m0, .inr (2, [.ref (u 3), .ref (u 6), .ref (u 9), .int (nI 0), .ref (u 0), .int (nI 0), .int (nI 0), .ref (u 1), .int (nI 0), .int (nI 0)])), ((u 0), .inl (G.2.2.2, 4, .inr (.inr (.inr (.inr (arQ (fun j => u (12 + 3 * j)))))))), (u 3, .inr (1, [.ref (u 4), .ref (u 5), .int (nI 0), .int (nI 5), .int (nI 0), .int (nI 0), .int (nI 0), .int (nI 0), .int (nI 0), .int (nI 0), .int (nI 0), .int (nI 0)])), (u 4, .inl (G.2.1, 8, .inl (arN (fun _ => 0)))), (u 5, .inl (G.2.1, 640, .inl (arN (fun _ => 0)))), (u 6, .inr (1, [.ref (u 7), .ref (u 8), .int (nI 0), .int (nI 5), .int (nI 0), .int (nI 0), .int (nI 0), .int (nI 0), .int (nI 0), .int (nI 0), .int (nI 0), .int (nI 0)])), (u 7, .inl (G.2.1, 8, .inl (arN (fun _ => 0)))), (u 8, .inl (G.2.1, 640, .inl (arN (fun _ => 0)))), (u 9, .inr (1, [.ref (u 10), .ref (u 11), .int (nI 0), .int (nI 5), .int (nI 0), .int (nI 0), .int (nI 0), .int (nI 0), .int (nI 0), .int (nI 0), .int (nI 0), .int (nI 0)])), (u 10, .inl (G.2.1, 8, .inl (arN (fun _ => 0)))), (u 11, .inl (G.2.1, 640, .inl (arN (fun _ => 0)))), (u 12, .inr (1, [.ref (u 13), .ref (u 14), .int (nI 0), .int (nI 5), .int (nI 0), .int (nI 0), .int (nI 0), .int (nI 0), .int (nI 0), .int (nI 0), .int (nI 0), .int (nI 0)])), (u 13, .inl (G.2.1, 8, .inl (arN (fun _ => 0)))), (u 14, .inl (G.2.1, 640, .inl (arN (fun _ => 0)))), (u 15, .inr (1, [.ref (u 16), .ref (u 17), .int (nI 0), .int (nI 5), .int (nI 0), .int (nI 0), .int (nI 0), .int (nI 0), .int (nI 0), .int (nI 0), .int (nI 0), .int (nI 0)])), (u 16, .inl (G.2.1, 8, .inl (arN (fun _ => 0)))), (u 17, .inl (G.2.1, 640, .inl (arN (fun _ => 0)))), (u 18, .inr (1, [.ref (u 19), .ref (u 20), .int (nI 0), .int (nI 5), .int (nI 0), .int (nI 0), .int (nI 0), .int (nI 0), .int (nI 0), .int (nI 0), .int (nI 0), .int (nI 0)])), (u 19, .inl (G.2.1, 8, .inl (arN (fun _ => 0)))), (u 20, .inl (G.2.1, 640, .inl (arN (fun _ => 0)))), (u 21, .inr (1, [.ref (u 22), .ref (u 23), .int (nI 0), .int (nI 5), .int (nI 0), .int (nI 0), .int (nI 0), .int (nI 0), .int (nI 0), .int (nI 0), .int (nI 0), .int (nI 0)])), (u 22, .inl (G.2.1, 8, .inl (arN (fun _ => 0)))), (u 23, .inl (G.2.1, 640, .inl (arN (fun _ => 0)))), (u 1, .inr (0, [.ref (u 2), .int (nI 0), .int (nI 0), .int (nI 0), .int (nI 0), .int (nI 0), .int (nI 0), .int (nI 0), .int (nI 0), .int (nI 0)])), (u 2, .inl (G.2.2.1, 60, .inl (arN (fun _ => 0))))] H := hP
  have hD : va_D (fun q : Nat => s.heap.size ≤ q) [(m0, .inr (2, [.ref (u 3), .ref (u 6), .ref (u 9), .int (nI 0), .ref (u 0), .int (nI 0), .int (nI 0), .ref (u 1), .int (nI 0), .int (nI 0)])), ((u 0), .inl (G.2.2.2, 4, .inr (.inr (.inr (.inr (arQ (fun j => u (12 + 3 * j)))))))), (u 3, .inr (1, [.ref (u 4), .ref (u 5), .int (nI 0), .int (nI 5), .int (nI 0), .int (nI 0), .int (nI 0), .int (nI 0), .int (nI 0), .int (nI 0), .int (nI 0), .int (nI 0)])), (u 4, .inl (G.2.1, 8, .inl (arN (fun _ => 0)))), (u 5, .inl (G.2.1, 640, .inl (arN (fun _ => 0)))), (u 6, .inr (1, [.ref (u 7), .ref (u 8), .int (nI 0), .int (nI 5), .int (nI 0), .int (nI 0), .int (nI 0), .int (nI 0), .int (nI 0), .int (nI 0), .int (nI 0), .int (nI 0)])), (u 7, .inl (G.2.1, 8, .inl (arN (fun _ => 0)))), (u 8, .inl (G.2.1, 640, .inl (arN (fun _ => 0)))), (u 9, .inr (1, [.ref (u 10), .ref (u 11), .int (nI 0), .int (nI 5), .int (nI 0), .int (nI 0), .int (nI 0), .int (nI 0), .int (nI 0), .int (nI 0), .int (nI 0), .int (nI 0)])), (u 10, .inl (G.2.1, 8, .inl (arN (fun _ => 0)))), (u 11, .inl (G.2.1, 640, .inl (arN (fun _ => 0)))), (u 12, .inr (1, [.ref (u 13), .ref (u 14), .int (nI 0), .int (nI 5), .int (nI 0), .int (nI 0), .int (nI 0), .int (nI 0), .int (nI 0), .int (nI 0), .int (nI 0), .int (nI 0)])), (u 13, .inl (G.2.1, 8, .inl (arN (fun _ => 0)))), (u 14, .inl (G.2.1, 640, .inl (arN (fun _ => 0)))), (u 15, .inr (1, [.ref (u 16), .ref (u 17), .int (nI 0), .int (nI 5), .int (nI 0), .int (nI 0), .int (nI 0), .int (nI 0), .int (nI 0), .int (nI 0), .int (nI 0), .int (nI 0)])), (u 16, .inl (G.2.1, 8, .inl (arN (fun _ => 0)))), (u 17, .inl (G.2.1, 640, .inl (arN (fun _ => 0)))), (u 18, .inr (1, [.ref (u 19), .ref (u 20), .int (nI 0), .int (nI 5), .int (nI 0), .int (nI 0), .int (nI 0), .int (nI 0), .int (nI 0), .int (nI 0), .int (nI 0), .int (nI 0)])), (u 19, .inl (G.2.1, 8, .inl (arN (fun _ => 0)))), (u 20, .inl (G.2.1, 640, .inl (arN (fun _ => 0)))), (u 21, .inr (1, [.ref (u 22), .ref (u 23), .int (nI 0), .int (nI 5), .int (nI 0), .int (nI 0), .int (nI 0), .int (nI 0), .int (nI 0), .int (nI 0), .int (nI 0), .int (nI 0)])), (u 22, .inl (G.2.1, 8, .inl (arN (fun _ => 0)))), (u 23, .inl (G.2.1, 640, .inl (arN (fun _ => 0)))), (u 1, .inr (0, [.ref (u 2), .int (nI 0), .int (nI 0), .int (nI 0), .int (nI 0), .int (nI 0), .int (nI 0), .int (nI 0), .int (nI 0), .int (nI 0)])), (u 2, .inl (G.2.2.1, 60, .inl (arN (fun _ => 0))))] := hD
  refine lv_astore_n (lv' := [(1, .ref m0), (0, .ref b)]) hx hb dL_law_7 rfl hl (by decide) rfl (fun ls hl => ?_)
  refine va_new (ci := 3) (fs := [.null, .null, .null, .int (nI 0), .null, .int (nI 0), .null, .int (nI 0), .int (nI 0), .int (nI 0), .int (nI 0), .int (nI 0), .null, .int (nI 0)]) (C := RX3) (T := TX3) (N := 14) hx hb hts inlX3 tyX3 tyX3_ok hown (hts (Cond.classLink RL 10 RX3) (List.mem_of_getElem? (i := 3) (by decide +kernel))) (hts (Cond.instantiable RX3 14) (List.mem_of_getElem? (i := 4) (by decide +kernel))) (hts (Cond.initialized RX3) (List.mem_of_getElem? (i := 5) (by decide +kernel))) hK hP hD hS hA rfl dfX3 (Nat.le_of_ble_eq_true rfl) (Nat.le_of_ble_eq_true rfl) dL_law_8 (fun b0 H hP hD hS => ?_)
  have hP : va_P G.1 vwCl [(m0, .inr (2, [.ref (u 3), .ref (u 6), .ref (u 9), .int (nI 0), .ref (u 0), .int (nI 0), .int (nI 0), .ref (u 1), .int (nI 0), .int (nI 0)])), ((u 0), .inl (G.2.2.2, 4, .inr (.inr (.inr (.inr (arQ (fun j => u (12 + 3 * j)))))))), (u 3, .inr (1, [.ref (u 4), .ref (u 5), .int (nI 0), .int (nI 5), .int (nI 0), .int (nI 0), .int (nI 0), .int (nI 0), .int (nI 0), .int (nI 0), .int (nI 0), .int (nI 0)])), (u 4, .inl (G.2.1, 8, .inl (arN (fun _ => 0)))), (u 5, .inl (G.2.1, 640, .inl (arN (fun _ => 0)))), (u 6, .inr (1, [.ref (u 7), .ref (u 8), .int (nI 0), .int (nI 5), .int (nI 0), .int (nI 0), .int (nI 0), .int (nI 0), .int (nI 0), .int (nI 0), .int (nI 0), .int (nI 0)])), (u 7, .inl (G.2.1, 8, .inl (arN (fun _ => 0)))), (u 8, .inl (G.2.1, 640, .inl (arN (fun _ => 0)))), (u 9, .inr (1, [.ref (u 10), .ref (u 11), .int (nI 0), .int (nI 5), .int (nI 0), .int (nI 0), .int (nI 0), .int (nI 0), .int (nI 0), .int (nI 0), .int (nI 0), .int (nI 0)])), (u 10, .inl (G.2.1, 8, .inl (arN (fun _ => 0)))), (u 11, .inl (G.2.1, 640, .inl (arN (fun _ => 0)))), (u 12, .inr (1, [.ref (u 13), .ref (u 14), .int (nI 0), .int (nI 5), .int (nI 0), .int (nI 0), .int (nI 0), .int (nI 0), .int (nI 0), .int (nI 0), .int (nI 0), .int (nI 0)])), (u 13, .inl (G.2.1, 8, .inl (arN (fun _ => 0)))), (u 14, .inl (G.2.1, 640, .inl (arN (fun _ => 0)))), (u 15, .inr (1, [.ref (u 16), .ref (u 17), .int (nI 0), .int (nI 5), .int (nI 0), .int (nI 0), .int (nI 0), .int (nI 0), .int (nI 0), .int (nI 0), .int (nI 0), .int (nI 0)])), (u 16, .inl (G.2.1, 8, .inl (arN (fun _ => 0)))), (u 17, .inl (G.2.1, 640, .inl (arN (fun _ => 0)))), (u 18, .inr (1, [.ref (u 19), .ref (u 20), .int (nI 0), .int (nI 5), .int (nI 0), .int (nI 0), .int (nI 0), .int (nI 0), .int (nI 0), .int (nI 0), .int (nI 0), .int (nI 0)])), (u 19, .inl (G.2.1, 8, .inl (arN (fun _ => 0)))), (u 20, .inl (G.2.1, 640, .inl (arN (fun _ => 0)))), (u 21, .inr (1, [.ref (u 22), .ref (u 23), .int (nI 0), .int (nI 5), .int (nI 0), .int (nI 0), .int (nI 0), .int (nI 0), .int (nI 0), .int (nI 0), .int (nI 0), .int (nI 0)])), (u 22, .inl (G.2.1, 8, .inl (arN (fun _ => 0)))), (u 23, .inl (G.2.1, 640, .inl (arN (fun _ => 0)))), (u 1, .inr (0, [.ref (u 2), .int (nI 0), .int (nI 0), .int (nI 0), .int (nI 0), .int (nI 0), .int (nI 0), .int (nI 0), .int (nI 0), .int (nI 0)])), (u 2, .inl (G.2.2.1, 60, .inl (arN (fun _ => 0)))), (b0, .inr (3, [.null, .null, .null, .int (nI 0), .null, .int (nI 0), .null, .int (nI 0), .int (nI 0), .int (nI 0), .int (nI 0), .int (nI 0), .null, .int (nI 0)]))] H := hP
  have hD : va_D (fun q : Nat => s.heap.size ≤ q) [(m0, .inr (2, [.ref (u 3), .ref (u 6), .ref (u 9), .int (nI 0), .ref (u 0), .int (nI 0), .int (nI 0), .ref (u 1), .int (nI 0), .int (nI 0)])), ((u 0), .inl (G.2.2.2, 4, .inr (.inr (.inr (.inr (arQ (fun j => u (12 + 3 * j)))))))), (u 3, .inr (1, [.ref (u 4), .ref (u 5), .int (nI 0), .int (nI 5), .int (nI 0), .int (nI 0), .int (nI 0), .int (nI 0), .int (nI 0), .int (nI 0), .int (nI 0), .int (nI 0)])), (u 4, .inl (G.2.1, 8, .inl (arN (fun _ => 0)))), (u 5, .inl (G.2.1, 640, .inl (arN (fun _ => 0)))), (u 6, .inr (1, [.ref (u 7), .ref (u 8), .int (nI 0), .int (nI 5), .int (nI 0), .int (nI 0), .int (nI 0), .int (nI 0), .int (nI 0), .int (nI 0), .int (nI 0), .int (nI 0)])), (u 7, .inl (G.2.1, 8, .inl (arN (fun _ => 0)))), (u 8, .inl (G.2.1, 640, .inl (arN (fun _ => 0)))), (u 9, .inr (1, [.ref (u 10), .ref (u 11), .int (nI 0), .int (nI 5), .int (nI 0), .int (nI 0), .int (nI 0), .int (nI 0), .int (nI 0), .int (nI 0), .int (nI 0), .int (nI 0)])), (u 10, .inl (G.2.1, 8, .inl (arN (fun _ => 0)))), (u 11, .inl (G.2.1, 640, .inl (arN (fun _ => 0)))), (u 12, .inr (1, [.ref (u 13), .ref (u 14), .int (nI 0), .int (nI 5), .int (nI 0), .int (nI 0), .int (nI 0), .int (nI 0), .int (nI 0), .int (nI 0), .int (nI 0), .int (nI 0)])), (u 13, .inl (G.2.1, 8, .inl (arN (fun _ => 0)))), (u 14, .inl (G.2.1, 640, .inl (arN (fun _ => 0)))), (u 15, .inr (1, [.ref (u 16), .ref (u 17), .int (nI 0), .int (nI 5), .int (nI 0), .int (nI 0), .int (nI 0), .int (nI 0), .int (nI 0), .int (nI 0), .int (nI 0), .int (nI 0)])), (u 16, .inl (G.2.1, 8, .inl (arN (fun _ => 0)))), (u 17, .inl (G.2.1, 640, .inl (arN (fun _ => 0)))), (u 18, .inr (1, [.ref (u 19), .ref (u 20), .int (nI 0), .int (nI 5), .int (nI 0), .int (nI 0), .int (nI 0), .int (nI 0), .int (nI 0), .int (nI 0), .int (nI 0), .int (nI 0)])), (u 19, .inl (G.2.1, 8, .inl (arN (fun _ => 0)))), (u 20, .inl (G.2.1, 640, .inl (arN (fun _ => 0)))), (u 21, .inr (1, [.ref (u 22), .ref (u 23), .int (nI 0), .int (nI 5), .int (nI 0), .int (nI 0), .int (nI 0), .int (nI 0), .int (nI 0), .int (nI 0), .int (nI 0), .int (nI 0)])), (u 22, .inl (G.2.1, 8, .inl (arN (fun _ => 0)))), (u 23, .inl (G.2.1, 640, .inl (arN (fun _ => 0)))), (u 1, .inr (0, [.ref (u 2), .int (nI 0), .int (nI 0), .int (nI 0), .int (nI 0), .int (nI 0), .int (nI 0), .int (nI 0), .int (nI 0), .int (nI 0)])), (u 2, .inl (G.2.2.1, 60, .inl (arN (fun _ => 0)))), (b0, .inr (3, [.null, .null, .null, .int (nI 0), .null, .int (nI 0), .null, .int (nI 0), .int (nI 0), .int (nI 0), .int (nI 0), .int (nI 0), .null, .int (nI 0)]))] := hD
  refine lv_dup hx hb dL_law_11 rfl ?_
  refine zc_I (As := []) (rest := [.ref b0]) (wr := [(m0, .inr (2, [.ref (u 3), .ref (u 6), .ref (u 9), .int (nI 0), .ref (u 0), .int (nI 0), .int (nI 0), .ref (u 1), .int (nI 0), .int (nI 0)])), ((u 0), .inl (G.2.2.2, 4, .inr (.inr (.inr (.inr (arQ (fun j => u (12 + 3 * j)))))))), (u 3, .inr (1, [.ref (u 4), .ref (u 5), .int (nI 0), .int (nI 5), .int (nI 0), .int (nI 0), .int (nI 0), .int (nI 0), .int (nI 0), .int (nI 0), .int (nI 0), .int (nI 0)])), (u 4, .inl (G.2.1, 8, .inl (arN (fun _ => 0)))), (u 5, .inl (G.2.1, 640, .inl (arN (fun _ => 0)))), (u 6, .inr (1, [.ref (u 7), .ref (u 8), .int (nI 0), .int (nI 5), .int (nI 0), .int (nI 0), .int (nI 0), .int (nI 0), .int (nI 0), .int (nI 0), .int (nI 0), .int (nI 0)])), (u 7, .inl (G.2.1, 8, .inl (arN (fun _ => 0)))), (u 8, .inl (G.2.1, 640, .inl (arN (fun _ => 0)))), (u 9, .inr (1, [.ref (u 10), .ref (u 11), .int (nI 0), .int (nI 5), .int (nI 0), .int (nI 0), .int (nI 0), .int (nI 0), .int (nI 0), .int (nI 0), .int (nI 0), .int (nI 0)])), (u 10, .inl (G.2.1, 8, .inl (arN (fun _ => 0)))), (u 11, .inl (G.2.1, 640, .inl (arN (fun _ => 0)))), (u 12, .inr (1, [.ref (u 13), .ref (u 14), .int (nI 0), .int (nI 5), .int (nI 0), .int (nI 0), .int (nI 0), .int (nI 0), .int (nI 0), .int (nI 0), .int (nI 0), .int (nI 0)])), (u 13, .inl (G.2.1, 8, .inl (arN (fun _ => 0)))), (u 14, .inl (G.2.1, 640, .inl (arN (fun _ => 0)))), (u 15, .inr (1, [.ref (u 16), .ref (u 17), .int (nI 0), .int (nI 5), .int (nI 0), .int (nI 0), .int (nI 0), .int (nI 0), .int (nI 0), .int (nI 0), .int (nI 0), .int (nI 0)])), (u 16, .inl (G.2.1, 8, .inl (arN (fun _ => 0)))), (u 17, .inl (G.2.1, 640, .inl (arN (fun _ => 0)))), (u 18, .inr (1, [.ref (u 19), .ref (u 20), .int (nI 0), .int (nI 5), .int (nI 0), .int (nI 0), .int (nI 0), .int (nI 0), .int (nI 0), .int (nI 0), .int (nI 0), .int (nI 0)])), (u 19, .inl (G.2.1, 8, .inl (arN (fun _ => 0)))), (u 20, .inl (G.2.1, 640, .inl (arN (fun _ => 0)))), (u 21, .inr (1, [.ref (u 22), .ref (u 23), .int (nI 0), .int (nI 5), .int (nI 0), .int (nI 0), .int (nI 0), .int (nI 0), .int (nI 0), .int (nI 0), .int (nI 0), .int (nI 0)])), (u 22, .inl (G.2.1, 8, .inl (arN (fun _ => 0)))), (u 23, .inl (G.2.1, 640, .inl (arN (fun _ => 0)))), (u 1, .inr (0, [.ref (u 2), .int (nI 0), .int (nI 0), .int (nI 0), .int (nI 0), .int (nI 0), .int (nI 0), .int (nI 0), .int (nI 0), .int (nI 0)])), (u 2, .inl (G.2.2.1, 60, .inl (arN (fun _ => 0))))]) ⟨hx, hb, hml, hown, hts⟩ (cN_Model l G b0 H.size) (cwI 0 hts gL_law_X3_init rfl rfl rfl (hts (Cond.initialized RX3) (List.mem_of_getElem? (i := 5) (by decide +kernel))) (hts (Cond.methodLink RL 12 yX3_init) (List.mem_of_getElem? (i := 35) (by decide +kernel))) (hts (Cond.instanceMethod yX3_init) (List.mem_of_getElem? (i := 36) (by decide +kernel))) rfl (by decide +kernel) ⟨(Nat.le_of_ble_eq_true rfl), (Nat.le_of_ble_eq_true rfl)⟩) hK hN hO hP hD hS hA [25] rfl (by decide) [0, 1, 2, 3, 4, 5, 6, 7, 8, 9, 10, 11, 12, 13, 14, 15, 16, 17, 18, 19, 20, 21, 22, 23, 24] rfl (by decide) (by decide) rfl hl.1 rfl (Nat.le_of_ble_eq_true rfl) dL_law_12 ⟨(Nat.le_of_ble_eq_true rfl), (Nat.le_of_ble_eq_true rfl)⟩ (fun u3 H locs _ hP hD hS => ?_)
  have hP : va_P G.1 vwCl [(m0, .inr (2, [.ref (u 3), .ref (u 6), .ref (u 9), .int (nI 0), .ref (u 0), .int (nI 0), .int (nI 0), .ref (u 1), .int (nI 0), .int (nI 0)])), ((u 0), .inl (G.2.2.2, 4, .inr (.inr (.inr (.inr (arQ (fun j => u (12 + 3 * j)))))))), (u 3, .inr (1, [.ref (u 4), .ref (u 5), .int (nI 0), .int (nI 5), .int (nI 0), .int (nI 0), .int (nI 0), .int (nI 0), .int (nI 0), .int (nI 0), .int (nI 0), .int (nI 0)])), (u 4, .inl (G.2.1, 8, .inl (arN (fun _ => 0)))), (u 5, .inl (G.2.1, 640, .inl (arN (fun _ => 0)))), (u 6, .inr (1, [.ref (u 7), .ref (u 8), .int (nI 0), .int (nI 5), .int (nI 0), .int (nI 0), .int (nI 0), .int (nI 0), .int (nI 0), .int (nI 0), .int (nI 0), .int (nI 0)])), (u 7, .inl (G.2.1, 8, .inl (arN (fun _ => 0)))), (u 8, .inl (G.2.1, 640, .inl (arN (fun _ => 0)))), (u 9, .inr (1, [.ref (u 10), .ref (u 11), .int (nI 0), .int (nI 5), .int (nI 0), .int (nI 0), .int (nI 0), .int (nI 0), .int (nI 0), .int (nI 0), .int (nI 0), .int (nI 0)])), (u 10, .inl (G.2.1, 8, .inl (arN (fun _ => 0)))), (u 11, .inl (G.2.1, 640, .inl (arN (fun _ => 0)))), (u 12, .inr (1, [.ref (u 13), .ref (u 14), .int (nI 0), .int (nI 5), .int (nI 0), .int (nI 0), .int (nI 0), .int (nI 0), .int (nI 0), .int (nI 0), .int (nI 0), .int (nI 0)])), (u 13, .inl (G.2.1, 8, .inl (arN (fun _ => 0)))), (u 14, .inl (G.2.1, 640, .inl (arN (fun _ => 0)))), (u 15, .inr (1, [.ref (u 16), .ref (u 17), .int (nI 0), .int (nI 5), .int (nI 0), .int (nI 0), .int (nI 0), .int (nI 0), .int (nI 0), .int (nI 0), .int (nI 0), .int (nI 0)])), (u 16, .inl (G.2.1, 8, .inl (arN (fun _ => 0)))), (u 17, .inl (G.2.1, 640, .inl (arN (fun _ => 0)))), (u 18, .inr (1, [.ref (u 19), .ref (u 20), .int (nI 0), .int (nI 5), .int (nI 0), .int (nI 0), .int (nI 0), .int (nI 0), .int (nI 0), .int (nI 0), .int (nI 0), .int (nI 0)])), (u 19, .inl (G.2.1, 8, .inl (arN (fun _ => 0)))), (u 20, .inl (G.2.1, 640, .inl (arN (fun _ => 0)))), (u 21, .inr (1, [.ref (u 22), .ref (u 23), .int (nI 0), .int (nI 5), .int (nI 0), .int (nI 0), .int (nI 0), .int (nI 0), .int (nI 0), .int (nI 0), .int (nI 0), .int (nI 0)])), (u 22, .inl (G.2.1, 8, .inl (arN (fun _ => 0)))), (u 23, .inl (G.2.1, 640, .inl (arN (fun _ => 0)))), (u 1, .inr (0, [.ref (u 2), .int (nI 0), .int (nI 0), .int (nI 0), .int (nI 0), .int (nI 0), .int (nI 0), .int (nI 0), .int (nI 0), .int (nI 0)])), (u 2, .inl (G.2.2.1, 60, .inl (arN (fun _ => 0)))), (b0, .inr (3, [.ref (u3 0), .ref (u3 1), .ref (u3 2), .int (nI 0), .ref (u3 3), .int (nI 0), .ref (u3 4), .int (nI 0), .int (-5), .int (-5), .int (nI 0), .int (nI 0), .ref (u3 5), .int (nI 0)])), ((u3 0), .inl (G.2.1, 618, .inl (arN (arU (fun _ => 0) 1 5)))), ((u3 1), .inl (G.2.1, 618, .inl (arN (fun _ => 0)))), ((u3 2), .inl (G.2.1, 2472, .inl (arN (fun _ => 0)))), ((u3 3), .inl (G.2.1, 618, .inl (arN (fun _ => 0)))), ((u3 4), .inl (G.2.1, 60, .inl (arN (fun _ => 0)))), ((u3 5), .inl (G.2.1, 5, .inl (arN (fun _ => 0))))] H := hP
  have hD : va_D (fun q : Nat => s.heap.size ≤ q) [(m0, .inr (2, [.ref (u 3), .ref (u 6), .ref (u 9), .int (nI 0), .ref (u 0), .int (nI 0), .int (nI 0), .ref (u 1), .int (nI 0), .int (nI 0)])), ((u 0), .inl (G.2.2.2, 4, .inr (.inr (.inr (.inr (arQ (fun j => u (12 + 3 * j)))))))), (u 3, .inr (1, [.ref (u 4), .ref (u 5), .int (nI 0), .int (nI 5), .int (nI 0), .int (nI 0), .int (nI 0), .int (nI 0), .int (nI 0), .int (nI 0), .int (nI 0), .int (nI 0)])), (u 4, .inl (G.2.1, 8, .inl (arN (fun _ => 0)))), (u 5, .inl (G.2.1, 640, .inl (arN (fun _ => 0)))), (u 6, .inr (1, [.ref (u 7), .ref (u 8), .int (nI 0), .int (nI 5), .int (nI 0), .int (nI 0), .int (nI 0), .int (nI 0), .int (nI 0), .int (nI 0), .int (nI 0), .int (nI 0)])), (u 7, .inl (G.2.1, 8, .inl (arN (fun _ => 0)))), (u 8, .inl (G.2.1, 640, .inl (arN (fun _ => 0)))), (u 9, .inr (1, [.ref (u 10), .ref (u 11), .int (nI 0), .int (nI 5), .int (nI 0), .int (nI 0), .int (nI 0), .int (nI 0), .int (nI 0), .int (nI 0), .int (nI 0), .int (nI 0)])), (u 10, .inl (G.2.1, 8, .inl (arN (fun _ => 0)))), (u 11, .inl (G.2.1, 640, .inl (arN (fun _ => 0)))), (u 12, .inr (1, [.ref (u 13), .ref (u 14), .int (nI 0), .int (nI 5), .int (nI 0), .int (nI 0), .int (nI 0), .int (nI 0), .int (nI 0), .int (nI 0), .int (nI 0), .int (nI 0)])), (u 13, .inl (G.2.1, 8, .inl (arN (fun _ => 0)))), (u 14, .inl (G.2.1, 640, .inl (arN (fun _ => 0)))), (u 15, .inr (1, [.ref (u 16), .ref (u 17), .int (nI 0), .int (nI 5), .int (nI 0), .int (nI 0), .int (nI 0), .int (nI 0), .int (nI 0), .int (nI 0), .int (nI 0), .int (nI 0)])), (u 16, .inl (G.2.1, 8, .inl (arN (fun _ => 0)))), (u 17, .inl (G.2.1, 640, .inl (arN (fun _ => 0)))), (u 18, .inr (1, [.ref (u 19), .ref (u 20), .int (nI 0), .int (nI 5), .int (nI 0), .int (nI 0), .int (nI 0), .int (nI 0), .int (nI 0), .int (nI 0), .int (nI 0), .int (nI 0)])), (u 19, .inl (G.2.1, 8, .inl (arN (fun _ => 0)))), (u 20, .inl (G.2.1, 640, .inl (arN (fun _ => 0)))), (u 21, .inr (1, [.ref (u 22), .ref (u 23), .int (nI 0), .int (nI 5), .int (nI 0), .int (nI 0), .int (nI 0), .int (nI 0), .int (nI 0), .int (nI 0), .int (nI 0), .int (nI 0)])), (u 22, .inl (G.2.1, 8, .inl (arN (fun _ => 0)))), (u 23, .inl (G.2.1, 640, .inl (arN (fun _ => 0)))), (u 1, .inr (0, [.ref (u 2), .int (nI 0), .int (nI 0), .int (nI 0), .int (nI 0), .int (nI 0), .int (nI 0), .int (nI 0), .int (nI 0), .int (nI 0)])), (u 2, .inl (G.2.2.1, 60, .inl (arN (fun _ => 0)))), (b0, .inr (3, [.ref (u3 0), .ref (u3 1), .ref (u3 2), .int (nI 0), .ref (u3 3), .int (nI 0), .ref (u3 4), .int (nI 0), .int (-5), .int (-5), .int (nI 0), .int (nI 0), .ref (u3 5), .int (nI 0)])), ((u3 0), .inl (G.2.1, 618, .inl (arN (arU (fun _ => 0) 1 5)))), ((u3 1), .inl (G.2.1, 618, .inl (arN (fun _ => 0)))), ((u3 2), .inl (G.2.1, 2472, .inl (arN (fun _ => 0)))), ((u3 3), .inl (G.2.1, 618, .inl (arN (fun _ => 0)))), ((u3 4), .inl (G.2.1, 60, .inl (arN (fun _ => 0)))), ((u3 5), .inl (G.2.1, 5, .inl (arN (fun _ => 0))))] := hD
  refine lv_astore_n (lv' := [(2, .ref b0), (1, .ref m0), (0, .ref b)]) hx hb dL_law_15 rfl hl (by decide) rfl (fun ls hl => ?_)
  refine lv_iconst (v := nI 0) hx hb dL_law_16 (by decide) ?_
  refine lv_istore_n (lv' := [(3, .int (nI 0)), (2, .ref b0), (1, .ref m0), (0, .ref b)]) hx hb dL_law_17 rfl hl (by decide) rfl (fun ls hl => ?_)
  refine W.widen (k := 600000) (n := 7302250) (Nat.le_of_ble_eq_true rfl) (Nat.le_of_ble_eq_true rfl) ?_
  have hB : lB G (fun q : Nat => s.heap.size ≤ q) 0 m0 b0 H := by
    refine ⟨(fun j => (u (12 + 3 * j), u (13 + 3 * j), u (14 + 3 * j), (fun _ => 0), (fun _ => 0), arU (fun _ => 0) 1 5)), (u 3), (u 6), (u 9), 0, (u 0), 0, 0, (u 1), (u 4), (u 5), (u 7), (u 8), (u 10), (u 11), (u 2), 0, 0, 0, (u3 0), (u3 1), (u3 2), (u3 3), (u3 4), (u3 5), 0, 0, (nI 0), (nI 0), (nI 0), (nI 0), (nI 0), (nI 0), (nI 0), (nI 0), (-5), (-5), (nI 0), (fun _ => 0), (fun _ => 0), (arU (fun _ => 0) 1 5), (fun _ => 0), (fun _ => 0), (arU (fun _ => 0) 1 5), (fun _ => 0), (fun _ => 0), (arU (fun _ => 0) 1 5), (fun _ => 0), (fun _ => 0), (fun _ => 0), (fun _ => 0), (fun _ => 0), ⟨⟨ini_OK, ini_R⟩, ⟨Nat.zero_le _, fun h => absurd h (Nat.lt_irrefl _)⟩, ⟨⟨Nat.zero_le _, Nat.zero_le _, Nat.zero_le _⟩, fun i hi => absurd hi (Nat.not_lt_zero _)⟩, ⟨Nat.zero_le _, fun _ => (by decide : 0 < 65536)⟩, Or.inl ⟨nI_0, rfl, rfl⟩⟩, hP, hD⟩
  exact law_loop hL C0 hK hN (L + 1) 0 0 (Nat.zero_le L) (by omega) (Nat.le_refl 0) H _ ls hB hS hl
set_option maxHeartbeats 4000000 in
theorem lw_walk (l : Launch) (hflags : l.flags = flags0) (b : Addr) (xs : List Int32) : MetFree l x (headSpec (Jvm.Cond.code x code maxLocals ret :: tables_1) room_1) (lw_P b xs) (fun _ _ _ _ _ => True) lw_Q := by
  refine MetFree.of_bodyS (code := code) (maxLocals := maxLocals) (ret := ret) (by decide) ?_ ?_
  · intro args s m h hn
    obtain ⟨meth, c, h1, h2, h3, h4, h5, h6, -, -⟩ := Cond.code_spec hn (atoms_spec (ws := Jvm.Cond.code x code maxLocals ret :: tables_1) h _ List.mem_cons_self)
    exact ⟨meth, c, h1, h2, h3, h4, h5, h6⟩
  · intro p e s m args below meth c s₁ B hml0 hP _
    obtain ⟨rfl, hx, hbd, hgv⟩ := hP
    obtain ⟨scr, harrAt, hlist, hof, hsmall⟩ := hx
    obtain ⟨hcb, hkn, -, -⟩ := State.arrayAt?_spec harrAt
    have hown : s.vm.findClass R_law = some m.cls := findClass_of_methodNamed B.named
    have hts0 : ∀ c ∈ (Jvm.Cond.code x code maxLocals ret :: tables_1), c.before #[Value.ref b] s = true := atoms_spec (ws := Jvm.Cond.code x code maxLocals ret :: tables_1) B.pre
    have hts : ∀ w ∈ lw_tbl, w.before #[Value.ref b] s = true := k2_hts_sels lw_privs (fun w hw => hts0 w (List.mem_cons_of_mem _ hw)) lw_privs_ok
    have hml : c.maxLocals = 4 := B.maxLocals_eq (hts0 _ List.mem_cons_self)
    have X₀ : Stand p l e room_1 s m #[Value.ref b] below meth c s₁ [] 0 0 := Stand.of_body B
    have hh0 : s₁.heap = s.heap := by rw [B.state]; rfl
    have hsz : scr.slots.size = xs.length := by rw [← Array.length_toList, hlist, List.length_map]
    have hval : ∀ j : Nat, j < xs.length → scr.slots[j]? = some (.int (xs.getD j 0)) := fun j hj => by
      rw [← Array.getElem?_toList, hlist]
      simp [hj]
    have hbl : b < s.heap.size := (Array.getElem?_eq_some_iff.mp hcb).1
    have hX : va_X b xs.length (fun j => xs.getD j 0) s s.heap := ⟨scr, hcb, hof, hkn, hsz, hval⟩
    have K : W p l e room_1 s m #[Value.ref b] below meth c s₁.heap [] 0 0 (lw_Z below #[Value.ref b] s) (entryFrame m ([Value.ref b] : List Value).toArray 4) := by
      rw [hh0]
      exact whole_start l hflags hbd ⟨B.exec, B.bytes, B.returns, hml, hown, hts, hX, hbl, B.notSynchronized, hgv⟩
    obtain ⟨t, a1, o, b1, b2, b3⟩ := K s₁ rfl X₀
    exact ⟨t, o, a1, b1, b2, b3⟩
theorem lw_pre_spec {args : Array Value} {s : State} (h : (Jvm.Cond.and given_1 narrow_1).before args s = true) (hr : rest_1_c.before args s = true) : ∃ (b : Addr) (xs : List Int32), lw_P b xs args s := by
  have hs := flat_of_before _ h
  have hq := flat_of_before _ hr
  have hc : (Cond.count 1).before args s = true := hs _ (by decide +kernel)
  have harr : (Cond.arrayOf (.arg 0) .int).before args s = true := hs _ (by decide +kernel)
  have hle : (Cond.le (.length (.arg 0)) (.int 3072)).before args s = true := hs _ (by decide +kernel)
  have hlen : (Cond.isInt (.length (.arg 0))).before args s = true := hq _ (by decide +kernel)
  have hall : (Cond.all (.arg 0) (.isInt (.elem (.arg 0) (.index 0)))).before args s = true := hq _ (by decide +kernel)
  obtain ⟨b, xs, hb, hx⟩ := State.ints_of_pre rfl harr hlen hall
  have hsm : xs.length < 2 ^ 31 := hx.choose_spec.2.2.2
  have hev : (Term.length (.arg 0)).eval args s none [] s = some (.int xs.length.toInt32) := hx.length_eval hb
  have hv := Cond.le_ints hev (show (Term.int 3072).eval args s none [] s = some (.int 3072) from rfl)
  have hd : xs.length.toInt32 ≤ 3072 := by
    simpa [Cond.before, Cond.holds, hv] using hle
  have hN : xs.length ≤ 3072 := (Int32.ofNat_le_ofNat hsm (by decide)).mp (show Int32.ofNat xs.length ≤ Int32.ofNat 3072 from hd)
  exact ⟨b, xs, Cond.one_arg hc (show args[0]? = some (.ref b) from hb), hx, hN, h⟩
theorem lw_comes (l : Launch) (hflags : l.flags = flags0) : Comes l x (Jvm.Cond.code x code maxLocals ret :: tables_1) room_1 (fun tb e args s => Calls_1 tb e args s ∧ rest_1 tb e args s ∧ Pre_1 tb e args s)
    (fun _ _ args s o t => lw_Q args s o t) := by
  intro p e ha hc hk s m args below hf hfit hheap happ hpre
  obtain ⟨b, xs, hP⟩ := lw_pre_spec hpre.2.2 hpre.2.1
  obtain ⟨k, o, h1, h2, h3, hQ⟩ := lw_walk l hflags b xs p e ha hc hk s m args below hf ((Spec.applies_iff_loose hf).mp happ).1 hP trivial
  exact ⟨k, o, h1, h2, h3, hQ⟩
theorem lw_frame {s t : State} {o : Outcome} {args : Array Value} (h : Framed s o t [] 600000 7302250) :
    Framed s o t (fieldLocs frame_1_writes args s ++ arrayLocs frame_1_arrays args s ++ staticLocs frame_1_statics s) 600000 7302250 := h
theorem lw_limb (L : Cond) (hL : ∀ (args : Array Value) (s t : State), L.after args s (.returned (some (.int 1))) t = true) :
    ArmFor flags0 classFile x code maxLocals ret World_1 tables_1 room_1 Calls_1 rest_1 Pre_1
      (fun tb e a s o t => postC L tb e a s o t ∧ Framed s o t (fieldLocs frame_1_writes a s ++ arrayLocs frame_1_arrays a s ++ staticLocs frame_1_statics s) 600000 7302250) := by
  intro l hflags _ _ p e ha hc hk s m args below hf hfit hheap happ hpre
  obtain ⟨k, o, h1, h2, h3, rfl, hF⟩ := lw_comes l hflags p e ha hc hk s m args below hf hfit hheap happ hpre
  exact ⟨k, _, h1, h2, h3, hL args s _, lw_frame hF⟩
theorem i_vc : Claimed_1_1 ∧ Claimed_1_2 := ⟨lw_limb limb_1_1 (fun args s t => by simp [limb_1_1, Cond.after, Cond.holds, Cond.value]), lw_limb limb_1_2 (fun args s t => Cond.after_iff.mpr (by
  first | (rw [show limb_1_2 = Cond.eq .result (.int 1) from rfl, Cond.eq_ints (x := 1) (y := 1) rfl rfl]; simp; done) | (simp [limb_1_2, Cond.value, Term.eval]; done)))⟩
