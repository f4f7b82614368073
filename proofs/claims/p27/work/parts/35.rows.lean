/-! static calls that touch the world -/
section ZD
variable {p : Program} {l : Launch} {e : Env} {R : Room} {s : State} {m : MethodId} {args : Array Value} {below : List Frame} {meth : Method} {c : Code} {H : Heap} {locs : List Loc} {cells slots : Nat} {Q : State → Prop}
variable {cc : ByteArray} {pc : Nat} {ls : Array Slot} {rest st : List Value}
variable {y : MethodName} {bytes : ByteArray} {maxL nL n index : Nat} {ret : Option FieldType} {wsY : List Cond} {rm : Room} {Ts : List Cond} {own C : String} {b : Addr} {As : List Value} {G : zG} {wc ws : va_W} {A : Nat → Prop} {H0 : Heap}
/-- a call of a static method that only reads -/
theorem zc_RS {post : Int32 → Prop} (S0 : CallFix p m c cc nL s args Ts own) (hM : Met l y wsY rm (zPc G As wc) (vp_Si post) 0 0 (fun _ => False)) (cw : CallB R s args own index y bytes maxL ret wsY rm 0 0 n ∧ (Cond.static y).before args s = true)
    (hK : va_K G.1 vwCl (zT G) s) (hN : zNF s) (hP : va_P G.1 vwCl ws H) (hD : va_D A ws) (isC : List Nat) (hC : isC.map (fun i => ws[i]?) = wc.map some) (hnd : va_nd isC = true)
    (hn : As.length = n) (hsz : ls.size = nL) (hst : st = As.reverse ++ rest) (hcat : (rest.map fun v => v.category).sum ≤ 8) (hdg : decode cc pc = .ok (.invokestatic index, 3)) (hroom : cells ≤ R.cells ∧ slots ≤ R.slots)
    (kk : ∀ r : Int32, post r → W p l e R s m args below meth c H locs cells slots Q (F0 m (pc + 3) ls (.int r :: rest))) : W p l e R s m args below meth c H locs cells slots Q (F0 m pc ls st) :=
  vp_callSi (W.runS S0 hM cw ⟨zPc_blind, zpre hK hN hP hD hnd hC⟩ rfl hn hsz hst (lv_room hcat) hdg hroom) kk
/-- a call of a static method that writes, with an int as its answer -/
theorem zc_VS {S : Type} {post : Int32 → S → Prop} {w1 : S → va_W} {ws2 : S → va_W} (S0 : CallFix p m c cc nL s args Ts own) (hM : Met l y wsY rm (zPc G As wc) (va_Qi post (fun u t => va_P G.1 vwCl (w1 u) t.heap) (zIn wc)) 0 0 (zIn wc)) (cw : CallB R s args own index y bytes maxL ret wsY rm 0 0 n ∧ (Cond.static y).before args s = true)
    (hK : va_K G.1 vwCl (zT G) s) (hN : zNF s) (hP : va_P G.1 vwCl ws H) (hD : va_D A ws) (hS : va_S A H0 H locs) (isC : List Nat) (hC : isC.map (fun i => ws[i]?) = wc.map some) (hnd : va_nd isC = true)
    (hadr : ∀ u, (w1 u).map Prod.fst = wc.map Prod.fst) (hws : ∀ u, zset ws isC (w1 u) = ws2 u)
    (hn : As.length = n) (hsz : ls.size = nL) (hst : st = As.reverse ++ rest) (hcat : (rest.map fun v => v.category).sum ≤ 8) (hdg : decode cc pc = .ok (.invokestatic index, 3)) (hroom : cells ≤ R.cells ∧ slots ≤ R.slots)
    (kk : ∀ (r : Int32) (u : S) (H1 : Heap) (locs1 : List Loc), post r u → va_P G.1 vwCl (ws2 u) H1 → va_D A (ws2 u) → va_S A H0 H1 locs1 → W p l e R s m args below meth c H1 locs1 cells slots Q (F0 m (pc + 3) ls (.int r :: rest))) : W p l e R s m args below meth c H locs cells slots Q (F0 m pc ls st) := by
  refine va_calli (va_runS S0 hM cw ⟨zPc_blind, zpre hK hN hP hD hnd hC⟩ rfl hn hsz hst (lv_room hcat) hdg hroom) hS (fun q _ h => zIn_sub hD hC q h) (zIn_sub hD hC) (fun r u t H1 locs1 ht hvm hw hB hz1 hk1 hS1 => ?_)
  rw [ht] at hB
  exact kk r u H1 locs1 hw (by rw [← hws u]; exact zset_P hP hD hC hnd (hadr u) hk1 hB) (by rw [← hws u]; exact zset_D hD hC hnd (hadr u)) hS1
/-- a call of a static method that reads a row of ints that is no part of the world -/
theorem zc_X {b L : Nat} {k : Int32} {xs : Nat → Int32} {post : Int32 → Prop} (S0 : CallFix p m c cc nL s args Ts own) (hM : Met l y wsY rm (fun v U => v = #[.ref b, .int k] ∧ va_X b L xs U U.heap) (vp_Si post) 0 0 (fun _ => False)) (cw : CallB R s args own index y bytes maxL ret wsY rm 0 0 2 ∧ (Cond.static y).before args s = true)
    (hX : va_X b L xs s H0) (hbl : b < H0.size) (hbA : ¬ A b) (hS : va_S A H0 H locs)
    (hsz : ls.size = nL) (hcat : (rest.map fun v => v.category).sum ≤ 8) (hdg : decode cc pc = .ok (.invokestatic index, 3)) (hroom : cells ≤ R.cells ∧ slots ≤ R.slots)
    (kk : ∀ r : Int32, post r → W p l e R s m args below meth c H locs cells slots Q (F0 m (pc + 3) ls (.int r :: rest))) : W p l e R s m args below meth c H locs cells slots Q (F0 m pc ls (.int k :: .ref b :: rest)) :=
  vp_callSi (W.runS (As := [.ref b, .int k]) (rest := rest) S0 hM cw ⟨fun a U g mk h => ⟨h.1, va_X.moved (u := U) (U := U.calling g mk a) (Vm.Alike.refl U.vm) h.2⟩, fun U hU hW => ⟨rfl, by rw [hU]; exact (va_X.moved hW.alike hX).kept (hS.2.1 b hbl hbA)⟩⟩ rfl rfl hsz rfl (lv_room hcat) hdg hroom) kk
end ZD
set_option maxHeartbeats 4000000 in
set_option maxRecDepth 100000 in
/-- L_cell: a script's value, or one of its own making -/
theorem c_cell (l : Launch) (b L : Nat) (k : Int32) (xs : Nat → Int32) (hL : L ≤ 1000) (hk : ¬ k < 0) : Met l yL_cell wsL_cell ({ frames := 0, cells := 0, slots := 0, locals := 0 } : Room) (fun v U => v = (#[.ref b, .int k] : Array Value) ∧ va_X b L xs U U.heap) (vp_Si (fun _ => True)) 0 0 (fun _ => False) := by
  refine Met.ofW (cc := cL_cell) (maxL := 2) (ret := (some .int)) (by decide) rfl ?_
  intro p e s m args below meth c s₁ B hml hv
  obtain ⟨rfl, hX⟩ := hv
  rw [lg_entry_eq]
  have hx := B.exec
  have hb := B.bytes
  have hr := B.returns
  have hl := lv_entry ([.ref b, .int k]) (n := 2) (Nat.le_of_ble_eq_true rfl)
  revert hl
  generalize (lg_sl (([.ref b, .int k] : List Value)) ++ List.replicate (2 - (lg_sl ([.ref b, .int k])).length) Slot.unset).toArray = ls
  intro hl
  have hl : lv_has ls 2 [(0, .ref b), (1, .int k)] := hl
  have hS : va_S (fun _ => False) s.heap s.heap [] := va_S.rf
  have hbl : b < s.heap.size := by
    obtain ⟨scr, h1, -⟩ := hX
    exact (Array.getElem?_eq_some_iff.mp h1).1
  have fin : ∀ (v : Int32), W p l e (headSpec wsL_cell ({ frames := 0, cells := 0, slots := 0, locals := 0 } : Room)).room s m (#[.ref b, .int k] : Array Value) below meth c s.heap [] 0 0 (MQ below (vp_Si (fun _ => True)) (#[.ref b, .int k] : Array Value) s 0 0 (fun _ => False)) (F0 m 24 ls [.int v]) := by
    intro v
    exact W.iret (v := v) hx hb hr (fun tT ht hW => ⟨_, rfl, trivial, ht⟩) (fun _ h => absurd h List.not_mem_nil) dL_cell_24
  refine lv_iload_n hx hb dL_cell_0 rfl (lv_at hl 1 rfl) ?_
  refine lv_aload_n hx hb dL_cell_1 rfl (lv_at hl 0 rfl) ?_
  refine va_slen hx hb hX hbl (fun q => q) hS dL_cell_2 ?_
  refine lv_icmp_ge (tgt := 12) hx hb dL_cell_3 (by decide) (fun c3 => ?_) (fun c3 => ?_)
  · refine lv_sipush (v := nI 7919) hx hb dL_cell_12 (by decide) ?_
    refine lv_iload_n hx hb dL_cell_15 rfl (lv_at hl 1 rfl) ?_
    refine lv_iconst (v := nI 3) hx hb dL_cell_16 (by decide) ?_
    refine lv_iadd hx hb dL_cell_17 ?_
    refine lv_imul hx hb dL_cell_18 ?_
    refine lv_iload_n hx hb dL_cell_19 rfl (lv_at hl 1 rfl) ?_
    refine lv_bipush (v := nI 11) hx hb dL_cell_20 (by decide) ?_
    refine lv_iadd hx hb dL_cell_22 ?_
    refine lv_imul hx hb dL_cell_23 ?_
    exact fin _
  · obtain ⟨j, hj, rfl⟩ := lt_yes (n := L) (by omega) hk (Int32.not_le.mp c3)
    refine lv_aload_n hx hb dL_cell_6 rfl (lv_at hl 0 rfl) ?_
    refine lv_iload_n hx hb dL_cell_7 rfl (lv_at hl 1 rfl) ?_
    refine va_sld hx hb hX hbl (fun q => q) hS (vp_in_nI hj (by omega)) dL_cell_8 ?_
    refine lv_goto (tgt := 24) hx hb dL_cell_9 (by decide) ?_
    exact fin _
