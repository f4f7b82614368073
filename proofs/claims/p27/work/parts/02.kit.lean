/-! wrappers over the kit's rows: ints as images of numbers, rows of ints as images of functions, worlds of one group G -/
def arN (f : Nat → Nat) : Nat → Int32 := fun j => nI (f j)
def arU (f : Nat → Nat) (k v : Nat) : Nat → Nat := fun j => if j = k then v else f j
theorem arU_s (f : Nat → Nat) (k v : Nat) : arU f k v k = v := if_pos rfl
theorem arU_n {f : Nat → Nat} {k v j : Nat} (h : j ≠ k) : arU f k v j = f j := if_neg h
theorem arN_up (f : Nat → Nat) (k v : Nat) : upd (arN f) k (nI v) = arN (arU f k v) := by
  funext j
  unfold upd arN arU
  by_cases h : j = k
  · rw [if_pos h, if_pos h]
  · rw [if_neg h, if_neg h]
theorem zA_and (a b : Nat) : nI a &&& nI b = nI (a &&& b) := by
  apply Int32.toBitVec_inj.1
  show BitVec.ofNat 32 a &&& BitVec.ofNat 32 b = BitVec.ofNat 32 (a &&& b)
  apply BitVec.eq_of_getLsbD_eq
  intro i hi
  simp [hi]
theorem zA_or (a b : Nat) : nI a ||| nI b = nI (a ||| b) := by
  apply Int32.toBitVec_inj.1
  show BitVec.ofNat 32 a ||| BitVec.ofNat 32 b = BitVec.ofNat 32 (a ||| b)
  apply BitVec.eq_of_getLsbD_eq
  intro i hi
  simp [hi]

/-- the links of nest mates, which no word list can carry -/
def zNF (U : State) : Prop := va_Nw (.methodLinkNest "ExhibitTexts" 11 yX1_init "ExhibitTexts") U ∧ va_Nw (.methodLinkNest "ExhibitTexts" 28 yX0_init "ExhibitTexts") U ∧ va_Nw (.methodLinkNest "ExhibitTexts$State" 56 yX2_isExhibit "ExhibitTexts") U ∧ va_Nw (.methodLinkNest "ExhibitTexts$State" 60 yX2_isText "ExhibitTexts") U ∧ va_Nw (.methodLinkNest "ExhibitTexts$State" 73 yX2_isAge "ExhibitTexts") U
theorem zNF.warm {s U : State} (hW : s.WarmedH U.vm) (h : zNF s) : zNF U := by
  obtain ⟨h1, h2, h3, h4, h5⟩ := h
  exact ⟨va_Nw.warmM hW h1, va_Nw.warmM hW h2, va_Nw.warmM hW h3, va_Nw.warmM hW h4, va_Nw.warmM hW h5⟩
theorem zNF.same {u U : State} (hv : u.vm = U.vm) (h : zNF u) : zNF U := by
  obtain ⟨h1, h2, h3, h4, h5⟩ := h
  exact ⟨va_Nw.same rfl hv h1, va_Nw.same rfl hv h2, va_Nw.same rfl hv h3, va_Nw.same rfl hv h4, va_Nw.same rfl hv h5⟩
theorem zNF.X2_X1_init {U : State} (h : zNF U) : va_Nw (.methodLinkNest "ExhibitTexts" 11 yX1_init "ExhibitTexts") U := h.1
theorem zNF.X2_X0_init {U : State} (h : zNF U) : va_Nw (.methodLinkNest "ExhibitTexts" 28 yX0_init "ExhibitTexts") U := h.2.1
theorem zNF.X1_X2_isExhibit {U : State} (h : zNF U) : va_Nw (.methodLinkNest "ExhibitTexts$State" 56 yX2_isExhibit "ExhibitTexts") U := h.2.2.1
theorem zNF.X1_X2_isText {U : State} (h : zNF U) : va_Nw (.methodLinkNest "ExhibitTexts$State" 60 yX2_isText "ExhibitTexts") U := h.2.2.2.1
theorem zNF.X1_X2_isAge {U : State} (h : zNF U) : va_Nw (.methodLinkNest "ExhibitTexts$State" 73 yX2_isAge "ExhibitTexts") U := h.2.2.2.2

abbrev zG : Type := va_G × ClassId × ClassId × ClassId
abbrev zT (G : zG) : List (ClassId × FieldType) := [(G.2.1, .int), (G.2.2.1, .char), (G.2.2.2, .object "ExhibitTexts$State")]
def zPc (G : zG) (av : List Value) (ws : va_W) : Array Value → State → Prop := va_Pc av (fun U => va_P G.1 vwCl ws U.heap ∧ va_K G.1 vwCl (zT G) U ∧ zNF U ∧ va_D (fun _ => True) ws)
def zIn (ws : va_W) : Nat → Prop := fun q => ∃ (k : Nat) (e : va_E), ws[k]? = some (q, e)
theorem zPc_blind {G : zG} {av : List Value} {ws : va_W} : FrameBlind (zPc G av ws) := fun a U g mk h => ⟨h.1, h.2.1, va_K.moved (u := U) (U := U.calling g mk a) (Vm.Alike.refl U.vm) h.2.2.1, zNF.same (u := U) (U := U.calling g mk a) rfl h.2.2.2.1, h.2.2.2.2⟩
/-- cells of a list set, one after the other -/
def zset : va_W → List Nat → va_W → va_W
  | ws, i :: is, q :: qs => zset (ws.set i q) is qs
  | ws, _, _ => ws
theorem zset_len : ∀ (is : List Nat) (ws qs : va_W), (zset ws is qs).length = ws.length
  | [], ws, qs => by simp [zset]
  | i :: is, ws, [] => by simp [zset]
  | i :: is, ws, q :: qs => by
    show (zset (ws.set i q) is qs).length = ws.length
    rw [zset_len is]
    simp
theorem zset_get : ∀ (is : List Nat) (ws qs : va_W), va_nd is = true → ∀ (k : Nat) (x : Nat × va_E), (zset ws is qs)[k]? = some x → (∃ j : Nat, is[j]? = some k ∧ qs[j]? = some x) ∨ ((k ∉ is ∨ is.length ≠ qs.length) ∧ ws[k]? = some x)
  | [], ws, qs, _, k, x, h => Or.inr ⟨Or.inl List.not_mem_nil, by simpa [zset] using h⟩
  | i :: is, ws, [], _, k, x, h => Or.inr ⟨Or.inr (by simp), by simpa [zset] using h⟩
  | i :: is, ws, q :: qs, hn, k, x, h => by
    simp only [va_nd, Bool.and_eq_true, decide_eq_true_eq] at hn
    have h : (zset (ws.set i q) is qs)[k]? = some x := h
    rcases zset_get is (ws.set i q) qs hn.2 k x h with ⟨j, h1, h2⟩ | ⟨h1, h2⟩
    · exact Or.inl ⟨j + 1, by simpa using h1, by simpa using h2⟩
    · by_cases hk : k = i
      · subst hk
        have hl : k < (ws.set k q).length := (List.getElem?_eq_some_iff.mp h2).1
        rw [List.length_set] at hl
        rw [List.getElem?_set_self hl] at h2
        exact Or.inl ⟨0, by simp, by simpa using h2⟩
      · rw [List.getElem?_set_ne (Ne.symm hk)] at h2
        refine Or.inr ⟨?_, h2⟩
        rcases h1 with h1 | h1
        · exact Or.inl (by simp [hk, h1])
        · exact Or.inr (by simpa using h1)
theorem zset_set1 {ws : va_W} {is : List Nat} {qs wc : va_W} (hC : is.map (fun i => ws[i]?) = wc.map some) (hadr : qs.map Prod.fst = wc.map Prod.fst) : is.length = qs.length := by
  have h1 := congrArg List.length hC
  have h2 := congrArg List.length hadr
  simp at h1 h2
  omega
theorem zplace {ws wc : va_W} {is : List Nat} (hC : is.map (fun i => ws[i]?) = wc.map some) {j : Nat} {q : Nat × va_E} (hq : wc[j]? = some q) : ∃ i, is[j]? = some i ∧ ws[i]? = some q := by
  have h1 : (is.map (fun i => ws[i]?))[j]? = some (some q) := by rw [hC, List.getElem?_map, hq]; rfl
  rw [List.getElem?_map] at h1
  cases hi : is[j]? with
  | none => rw [hi] at h1; cases h1
  | some i => rw [hi] at h1; exact ⟨i, rfl, Option.some.inj h1⟩
theorem zplace_r {ws wc : va_W} {is : List Nat} (hC : is.map (fun i => ws[i]?) = wc.map some) {j i : Nat} (hi : is[j]? = some i) : ∃ q, wc[j]? = some q ∧ ws[i]? = some q := by
  have h1 : (is.map (fun i => ws[i]?))[j]? = some ws[i]? := by rw [List.getElem?_map, hi]; rfl
  rw [hC, List.getElem?_map] at h1
  cases hq : wc[j]? with
  | none => rw [hq] at h1; cases h1
  | some q => rw [hq] at h1; exact ⟨q, rfl, (Option.some.inj h1).symm⟩
theorem zaddr {wc qs : va_W} (hadr : qs.map Prod.fst = wc.map Prod.fst) {j : Nat} {x y : Nat × va_E} (hx : qs[j]? = some x) (hy : wc[j]? = some y) : x.1 = y.1 := by
  have h := congrArg (fun z => z[j]?) hadr
  simp only [List.getElem?_map, hx, hy] at h
  exact Option.some.inj h
theorem zset_D {A : Nat → Prop} {ws wc qs : va_W} {is : List Nat} (hD : va_D A ws) (hC : is.map (fun i => ws[i]?) = wc.map some) (hn : va_nd is = true) (hadr : qs.map Prod.fst = wc.map Prod.fst) : va_D A (zset ws is qs) := by
  have key : ∀ (k : Nat) (x : Nat × va_E), (zset ws is qs)[k]? = some x → ∃ y, ws[k]? = some y ∧ x.1 = y.1 := by
    intro k x h
    rcases zset_get is ws qs hn k x h with ⟨j, h1, h2⟩ | ⟨-, h2⟩
    · obtain ⟨y, hy, hy2⟩ := zplace_r hC h1
      exact ⟨y, hy2, zaddr hadr h2 hy⟩
    · exact ⟨x, h2, rfl⟩
  refine ⟨fun i j x y hx hy hxy => ?_, fun k q h => ?_⟩
  · obtain ⟨x', h1, e1⟩ := key i x hx
    obtain ⟨y', h2, e2⟩ := key j y hy
    exact hD.1 i j x' y' h1 h2 (by rw [← e1, ← e2]; exact hxy)
  · obtain ⟨y, h1, e1⟩ := key k q h
    rw [e1]
    exact hD.2 k y h1
theorem zset_P {A : Nat → Prop} {D : va_G} {cl : List vw_C} {ws wc qs : va_W} {is : List Nat} {H H1 : Heap} (hP : va_P D cl ws H) (hD : va_D A ws) (hC : is.map (fun i => ws[i]?) = wc.map some) (hn : va_nd is = true) (hadr : qs.map Prod.fst = wc.map Prod.fst)
    (hk : ∀ q : Nat, q < H.size → ¬ zIn wc q → H1[q]? = H[q]?) (hP1 : va_P D cl qs H1) : va_P D cl (zset ws is qs) H1 := by
  intro k x h
  rcases zset_get is ws qs hn k x h with ⟨j, h1, h2⟩ | ⟨h1, h2⟩
  · exact hP1 j x h2
  · refine (hP k x h2).kept (hk x.1 (hP k x h2).lt ?_)
    rintro ⟨j, e, hj⟩
    obtain ⟨i, hi, hi2⟩ := zplace hC hj
    have hki := hD.1 k i x (x.1, e) h2 hi2 rfl
    subst hki
    rcases h1 with h1 | h1
    · exact h1 (List.mem_of_getElem? hi)
    · exact h1 (zset_set1 hC hadr)
theorem zIn_sub {A : Nat → Prop} {ws wc : va_W} {is : List Nat} (hD : va_D A ws) (hC : is.map (fun i => ws[i]?) = wc.map some) : ∀ q, zIn wc q → A q := by
  rintro q ⟨j, e, hj⟩
  obtain ⟨i, hi, hi2⟩ := zplace hC hj
  exact hD.2 i (q, e) hi2
theorem zsub_P {D : va_G} {cl : List vw_C} {ws wc : va_W} {is : List Nat} {H : Heap} (hP : va_P D cl ws H) (hC : is.map (fun i => ws[i]?) = wc.map some) : va_P D cl wc H := by
  intro j q hj
  obtain ⟨i, hi, hi2⟩ := zplace hC hj
  exact hP i q hi2

section ZK
variable {p : Program} {l : Launch} {e : Env} {R : Room} {s : State} {m : MethodId} {args : Array Value} {below : List Frame} {meth : Method} {c : Code} {H : Heap} {locs : List Loc} {cells slots : Nat} {Q : State → Prop}
variable {cc : ByteArray} {pc : Nat} {ls : Array Slot} {rest st : List Value}

theorem zk_top {x y : Int32} (h : x = y) (k : W p l e R s m args below meth c H locs cells slots Q (F0 m pc ls (.int y :: rest))) : W p l e R s m args below meth c H locs cells slots Q (F0 m pc ls (.int x :: rest)) := h ▸ k
theorem zk_add (hx : p.tables.exec = Jvm.exec) (hb : c.code = cc) {a b : Nat} (hdg : decode cc pc = .ok (.iadd, 1)) (k : W p l e R s m args below meth c H locs cells slots Q (F0 m (pc + 1) ls (.int (nI (a + b)) :: rest))) : W p l e R s m args below meth c H locs cells slots Q (F0 m pc ls (.int (nI b) :: .int (nI a) :: rest)) := lv_iadd hx hb hdg (zk_top (nI_add a b) k)
theorem zk_sub (hx : p.tables.exec = Jvm.exec) (hb : c.code = cc) {a b : Nat} (hdg : decode cc pc = .ok (.isub, 1)) (h : b ≤ a) (k : W p l e R s m args below meth c H locs cells slots Q (F0 m (pc + 1) ls (.int (nI (a - b)) :: rest))) : W p l e R s m args below meth c H locs cells slots Q (F0 m pc ls (.int (nI b) :: .int (nI a) :: rest)) := lv_isub hx hb hdg (zk_top (pk_sub h) k)
theorem zk_mul (hx : p.tables.exec = Jvm.exec) (hb : c.code = cc) {a b : Nat} (hdg : decode cc pc = .ok (.imul, 1)) (k : W p l e R s m args below meth c H locs cells slots Q (F0 m (pc + 1) ls (.int (nI (a * b)) :: rest))) : W p l e R s m args below meth c H locs cells slots Q (F0 m pc ls (.int (nI b) :: .int (nI a) :: rest)) := lv_imul hx hb hdg (zk_top (pk_mul a b) k)
theorem zk_div (hx : p.tables.exec = Jvm.exec) (hb : c.code = cc) {a b : Nat} (hdg : decode cc pc = .ok (.idiv, 1)) (ha : a < 2147483648) (h0 : 0 < b) (hb2 : b < 2147483648) (k : W p l e R s m args below meth c H locs cells slots Q (F0 m (pc + 1) ls (.int (nI (a / b)) :: rest))) : W p l e R s m args below meth c H locs cells slots Q (F0 m pc ls (.int (nI b) :: .int (nI a) :: rest)) := lv_idiv hx hb hdg (nI_ne0 h0 hb2) (zk_top (pk_div ha h0 hb2) k)
theorem zk_rem (hx : p.tables.exec = Jvm.exec) (hb : c.code = cc) {a b : Nat} (hdg : decode cc pc = .ok (.irem, 1)) (ha : a < 2147483648) (h0 : 0 < b) (hb2 : b < 2147483648) (k : W p l e R s m args below meth c H locs cells slots Q (F0 m (pc + 1) ls (.int (nI (a % b)) :: rest))) : W p l e R s m args below meth c H locs cells slots Q (F0 m pc ls (.int (nI b) :: .int (nI a) :: rest)) := lv_irem hx hb hdg (nI_ne0 h0 hb2) (zk_top (pk_rem ha h0 hb2) k)
theorem zk_or (hx : p.tables.exec = Jvm.exec) (hb : c.code = cc) {a b : Nat} (hdg : decode cc pc = .ok (.ior, 1)) (k : W p l e R s m args below meth c H locs cells slots Q (F0 m (pc + 1) ls (.int (nI (a ||| b)) :: rest))) : W p l e R s m args below meth c H locs cells slots Q (F0 m pc ls (.int (nI b) :: .int (nI a) :: rest)) := lv_ior hx hb hdg (zk_top (zA_or a b) k)
theorem zk_and (hx : p.tables.exec = Jvm.exec) (hb : c.code = cc) {a b : Nat} (hdg : decode cc pc = .ok (.iand, 1)) (k : W p l e R s m args below meth c H locs cells slots Q (F0 m (pc + 1) ls (.int (nI (a &&& b)) :: rest))) : W p l e R s m args below meth c H locs cells slots Q (F0 m pc ls (.int (nI b) :: .int (nI a) :: rest)) := lv_iand hx hb hdg (zk_top (zA_and a b) k)
theorem zk_ilt (hx : p.tables.exec = Jvm.exec) (hb : c.code = cc) {a b : Nat} {off : Int} {tgt : Nat} (hdg : decode cc pc = .ok (.if_icmp .lt off, 3)) (ht : (pc : Int) + off = (tgt : Int)) (ha : a < 2147483648) (hb2 : b < 2147483648) (kt : a < b → W p l e R s m args below meth c H locs cells slots Q (F0 m tgt ls rest)) (kf : b ≤ a → W p l e R s m args below meth c H locs cells slots Q (F0 m (pc + 3) ls rest)) : W p l e R s m args below meth c H locs cells slots Q (F0 m pc ls (.int (nI b) :: .int (nI a) :: rest)) :=
  lv_icmp_lt hx hb hdg ht (fun q => kt ((nI_ltI ha hb2).mp q)) (fun q => kf (Nat.not_lt.mp (fun z => q ((nI_ltI ha hb2).mpr z))))
theorem zk_ige (hx : p.tables.exec = Jvm.exec) (hb : c.code = cc) {a b : Nat} {off : Int} {tgt : Nat} (hdg : decode cc pc = .ok (.if_icmp .ge off, 3)) (ht : (pc : Int) + off = (tgt : Int)) (ha : a < 2147483648) (hb2 : b < 2147483648) (kt : b ≤ a → W p l e R s m args below meth c H locs cells slots Q (F0 m tgt ls rest)) (kf : a < b → W p l e R s m args below meth c H locs cells slots Q (F0 m (pc + 3) ls rest)) : W p l e R s m args below meth c H locs cells slots Q (F0 m pc ls (.int (nI b) :: .int (nI a) :: rest)) :=
  lv_icmp_ge hx hb hdg ht (fun q => kt ((nI_leI hb2 ha).mp q)) (fun q => kf (Nat.not_le.mp (fun z => q ((nI_leI hb2 ha).mpr z))))
theorem zk_igt (hx : p.tables.exec = Jvm.exec) (hb : c.code = cc) {a b : Nat} {off : Int} {tgt : Nat} (hdg : decode cc pc = .ok (.if_icmp .gt off, 3)) (ht : (pc : Int) + off = (tgt : Int)) (ha : a < 2147483648) (hb2 : b < 2147483648) (kt : b < a → W p l e R s m args below meth c H locs cells slots Q (F0 m tgt ls rest)) (kf : a ≤ b → W p l e R s m args below meth c H locs cells slots Q (F0 m (pc + 3) ls rest)) : W p l e R s m args below meth c H locs cells slots Q (F0 m pc ls (.int (nI b) :: .int (nI a) :: rest)) :=
  lv_icmp_gt hx hb hdg ht (fun q => kt ((nI_ltI hb2 ha).mp q)) (fun q => kf (Nat.not_lt.mp (fun z => q ((nI_ltI hb2 ha).mpr z))))
theorem zk_ile (hx : p.tables.exec = Jvm.exec) (hb : c.code = cc) {a b : Nat} {off : Int} {tgt : Nat} (hdg : decode cc pc = .ok (.if_icmp .le off, 3)) (ht : (pc : Int) + off = (tgt : Int)) (ha : a < 2147483648) (hb2 : b < 2147483648) (kt : a ≤ b → W p l e R s m args below meth c H locs cells slots Q (F0 m tgt ls rest)) (kf : b < a → W p l e R s m args below meth c H locs cells slots Q (F0 m (pc + 3) ls rest)) : W p l e R s m args below meth c H locs cells slots Q (F0 m pc ls (.int (nI b) :: .int (nI a) :: rest)) :=
  lv_icmp_le hx hb hdg ht (fun q => kt ((nI_leI ha hb2).mp q)) (fun q => kf (Nat.not_le.mp (fun z => q ((nI_leI ha hb2).mpr z))))
theorem zk_ieq (hx : p.tables.exec = Jvm.exec) (hb : c.code = cc) {a b : Nat} {off : Int} {tgt : Nat} (hdg : decode cc pc = .ok (.if_icmp .eq off, 3)) (ht : (pc : Int) + off = (tgt : Int)) (ha : a < 2147483648) (hb2 : b < 2147483648) (kt : a = b → W p l e R s m args below meth c H locs cells slots Q (F0 m tgt ls rest)) (kf : a ≠ b → W p l e R s m args below meth c H locs cells slots Q (F0 m (pc + 3) ls rest)) : W p l e R s m args below meth c H locs cells slots Q (F0 m pc ls (.int (nI b) :: .int (nI a) :: rest)) :=
  lv_icmp_eq hx hb hdg ht (fun q => kt ((nI_eq ha hb2).mp q)) (fun q => kf (fun z => q ((nI_eq ha hb2).mpr z)))
theorem zk_ine (hx : p.tables.exec = Jvm.exec) (hb : c.code = cc) {a b : Nat} {off : Int} {tgt : Nat} (hdg : decode cc pc = .ok (.if_icmp .ne off, 3)) (ht : (pc : Int) + off = (tgt : Int)) (ha : a < 2147483648) (hb2 : b < 2147483648) (kt : a ≠ b → W p l e R s m args below meth c H locs cells slots Q (F0 m tgt ls rest)) (kf : a = b → W p l e R s m args below meth c H locs cells slots Q (F0 m (pc + 3) ls rest)) : W p l e R s m args below meth c H locs cells slots Q (F0 m pc ls (.int (nI b) :: .int (nI a) :: rest)) :=
  lv_icmp_ne hx hb hdg ht (fun q => kt (fun z => q ((nI_eq ha hb2).mpr z))) (fun q => kf ((nI_eq ha hb2).mp q))
theorem zI_z {a : Nat} (ha : a < 2147483648) : nI a = 0 ↔ a = 0 := ⟨fun q => by rcases Nat.eq_zero_or_pos a with h | h; exact h; exact absurd q (nI_ne0 h ha), fun q => by rw [q]; exact nI_0⟩
theorem zI_p {a : Nat} (ha : a < 2147483648) : (0 : Int32) < nI a ↔ 0 < a := by rw [← nI_0]; exact nI_ltI (by omega) ha
theorem zI_np {a : Nat} (ha : a < 2147483648) : nI a ≤ (0 : Int32) ↔ a = 0 := by rw [← nI_0, nI_leI ha (by omega)]; omega
theorem zk_zeq (hx : p.tables.exec = Jvm.exec) (hb : c.code = cc) {a : Nat} {off : Int} {tgt : Nat} (hdg : decode cc pc = .ok (.ifCond .eq off, 3)) (ht : (pc : Int) + off = (tgt : Int)) (ha : a < 2147483648) (kt : a = 0 → W p l e R s m args below meth c H locs cells slots Q (F0 m tgt ls rest)) (kf : 0 < a → W p l e R s m args below meth c H locs cells slots Q (F0 m (pc + 3) ls rest)) : W p l e R s m args below meth c H locs cells slots Q (F0 m pc ls (.int (nI a) :: rest)) :=
  lv_if_eq hx hb hdg ht (fun q => kt ((zI_z ha).mp q)) (fun q => kf (Nat.pos_of_ne_zero (fun z => q ((zI_z ha).mpr z))))
theorem zk_zne (hx : p.tables.exec = Jvm.exec) (hb : c.code = cc) {a : Nat} {off : Int} {tgt : Nat} (hdg : decode cc pc = .ok (.ifCond .ne off, 3)) (ht : (pc : Int) + off = (tgt : Int)) (ha : a < 2147483648) (kt : 0 < a → W p l e R s m args below meth c H locs cells slots Q (F0 m tgt ls rest)) (kf : a = 0 → W p l e R s m args below meth c H locs cells slots Q (F0 m (pc + 3) ls rest)) : W p l e R s m args below meth c H locs cells slots Q (F0 m pc ls (.int (nI a) :: rest)) :=
  lv_if_ne hx hb hdg ht (fun q => kt (Nat.pos_of_ne_zero (fun z => q ((zI_z ha).mpr z)))) (fun q => kf ((zI_z ha).mp q))
theorem zk_zgt (hx : p.tables.exec = Jvm.exec) (hb : c.code = cc) {a : Nat} {off : Int} {tgt : Nat} (hdg : decode cc pc = .ok (.ifCond .gt off, 3)) (ht : (pc : Int) + off = (tgt : Int)) (ha : a < 2147483648) (kt : 0 < a → W p l e R s m args below meth c H locs cells slots Q (F0 m tgt ls rest)) (kf : a = 0 → W p l e R s m args below meth c H locs cells slots Q (F0 m (pc + 3) ls rest)) : W p l e R s m args below meth c H locs cells slots Q (F0 m pc ls (.int (nI a) :: rest)) :=
  lv_if_gt hx hb hdg ht (fun q => kt ((zI_p ha).mp q)) (fun q => kf (Nat.eq_zero_of_not_pos (fun z => q ((zI_p ha).mpr z))))
theorem zk_zle (hx : p.tables.exec = Jvm.exec) (hb : c.code = cc) {a : Nat} {off : Int} {tgt : Nat} (hdg : decode cc pc = .ok (.ifCond .le off, 3)) (ht : (pc : Int) + off = (tgt : Int)) (ha : a < 2147483648) (kt : a = 0 → W p l e R s m args below meth c H locs cells slots Q (F0 m tgt ls rest)) (kf : 0 < a → W p l e R s m args below meth c H locs cells slots Q (F0 m (pc + 3) ls rest)) : W p l e R s m args below meth c H locs cells slots Q (F0 m pc ls (.int (nI a) :: rest)) :=
  lv_if_le hx hb hdg ht (fun q => kt ((zI_np ha).mp q)) (fun q => kf (Nat.pos_of_ne_zero (fun z => q ((zI_np ha).mpr z))))
theorem zk_zlt (hx : p.tables.exec = Jvm.exec) (hb : c.code = cc) {a : Nat} {off : Int} {tgt : Nat} (hdg : decode cc pc = .ok (.ifCond .lt off, 3)) (ht : (pc : Int) + off = (tgt : Int)) (ha : a < 2147483648) (kf : W p l e R s m args below meth c H locs cells slots Q (F0 m (pc + 3) ls rest)) : W p l e R s m args below meth c H locs cells slots Q (F0 m pc ls (.int (nI a) :: rest)) :=
  lv_if_lt hx hb hdg ht (fun q => absurd q (nI_pos ha)) (fun _ => kf)
theorem zk_zge (hx : p.tables.exec = Jvm.exec) (hb : c.code = cc) {a : Nat} {off : Int} {tgt : Nat} (hdg : decode cc pc = .ok (.ifCond .ge off, 3)) (ht : (pc : Int) + off = (tgt : Int)) (ha : a < 2147483648) (kt : W p l e R s m args below meth c H locs cells slots Q (F0 m tgt ls rest)) : W p l e R s m args below meth c H locs cells slots Q (F0 m pc ls (.int (nI a) :: rest)) :=
  lv_if_ge hx hb hdg ht (fun _ => kt) (fun q => absurd (nI_pos' ha) q)
variable {D : va_G} {cl : List vw_C} {A : Nat → Prop} {a : Nat} {tys : List (ClassId × FieldType)} {ws : va_W} {H0 : Heap}
theorem zk_ald (hx : p.tables.exec = Jvm.exec) (hb : c.code = cc) (hK : va_K D cl tys s) (hP : va_P D cl ws H) (q0 t0 : Nat) {cA : ClassId} {n : Nat} {f : Nat → Nat} (ha : ws[q0]? = some (a, .inl (cA, n, .inl (arN f)))) (ht : tys[t0]? = some (cA, .int)) {k : Nat} (hn : n < 2147483648) (hk : k < n) (hdg : decode cc pc = .ok (.iaload, 1)) (kk : W p l e R s m args below meth c H locs cells slots Q (F0 m (pc + 1) ls (.int (nI (f k)) :: rest))) : W p l e R s m args below meth c H locs cells slots Q (F0 m pc ls (.int (nI k) :: .ref a :: rest)) :=
  va_iald hx hb hK hP q0 t0 ha ht (vp_in_nI hk hn) hdg (by rw [nI_clamp (Nat.lt_trans hk hn)]; exact kk)
theorem zk_cald (hx : p.tables.exec = Jvm.exec) (hb : c.code = cc) (hK : va_K D cl tys s) (hP : va_P D cl ws H) (q0 t0 : Nat) {cA : ClassId} {n : Nat} {f : Nat → Nat} (ha : ws[q0]? = some (a, .inl (cA, n, .inl (arN f)))) (ht : tys[t0]? = some (cA, .char)) {k : Nat} (hn : n < 2147483648) (hk : k < n) (hdg : decode cc pc = .ok (.caload, 1)) (kk : W p l e R s m args below meth c H locs cells slots Q (F0 m (pc + 1) ls (.int (nI (f k)) :: rest))) : W p l e R s m args below meth c H locs cells slots Q (F0 m pc ls (.int (nI k) :: .ref a :: rest)) :=
  va_cald hx hb hK hP q0 t0 ha ht (vp_in_nI hk hn) hdg (by rw [nI_clamp (Nat.lt_trans hk hn)]; exact kk)
theorem zk_ast (hx : p.tables.exec = Jvm.exec) (hb : c.code = cc) (hK : va_K D cl tys s) (hP : va_P D cl ws H) (hD : va_D A ws) (hS : va_S A H0 H locs) (q0 t0 : Nat) {cA : ClassId} {n : Nat} {f : Nat → Nat} (ha : ws[q0]? = some (a, .inl (cA, n, .inl (arN f)))) (ht : tys[t0]? = some (cA, .int)) {k v : Nat} (hn : n < 2147483648) (hk : k < n) {ws2 : va_W} (hw : ws.set q0 (a, .inl (cA, n, .inl (arN (arU f k v)))) = ws2) (hdg : decode cc pc = .ok (.iastore, 1)) (kk : ∀ (H1 : Heap) (locs1 : List Loc), va_P D cl ws2 H1 → va_D A ws2 → va_S A H0 H1 locs1 → W p l e R s m args below meth c H1 locs1 cells slots Q (F0 m (pc + 1) ls rest)) : W p l e R s m args below meth c H locs cells slots Q (F0 m pc ls (.int (nI v) :: .int (nI k) :: .ref a :: rest)) := by
  subst hw
  refine va_iast hx hb hK hP hD hS q0 t0 ha ht (vp_in_nI hk hn) hdg (fun H1 locs1 h1 h2 h3 => ?_)
  rw [nI_clamp (Nat.lt_trans hk hn), arN_up] at h1 h2
  exact kk H1 locs1 h1 h2 h3
theorem zk_cast (hx : p.tables.exec = Jvm.exec) (hb : c.code = cc) (hK : va_K D cl tys s) (hP : va_P D cl ws H) (hD : va_D A ws) (hS : va_S A H0 H locs) (q0 t0 : Nat) {cA : ClassId} {n : Nat} {f : Nat → Nat} (ha : ws[q0]? = some (a, .inl (cA, n, .inl (arN f)))) (ht : tys[t0]? = some (cA, .char)) {k v : Nat} (hn : n < 2147483648) (hk : k < n) (hv : v < 65536) {ws2 : va_W} (hw : ws.set q0 (a, .inl (cA, n, .inl (arN (arU f k v)))) = ws2) (hdg : decode cc pc = .ok (.castore, 1)) (kk : ∀ (H1 : Heap) (locs1 : List Loc), va_P D cl ws2 H1 → va_D A ws2 → va_S A H0 H1 locs1 → W p l e R s m args below meth c H1 locs1 cells slots Q (F0 m (pc + 1) ls rest)) : W p l e R s m args below meth c H locs cells slots Q (F0 m pc ls (.int (nI v) :: .int (nI k) :: .ref a :: rest)) := by
  subst hw
  refine va_cast hx hb hK hP hD hS q0 t0 ha ht (vp_in_nI hk hn) hdg (fun H1 locs1 h1 h2 h3 => ?_)
  have hv2 : vp_nar .char (nI v) = nI v := by unfold vp_nar; rw [(pk_charN hv).1]
  rw [hv2, nI_clamp (Nat.lt_trans hk hn), arN_up] at h1 h2
  exact kk H1 locs1 h1 h2 h3
theorem zk_put (hx : p.tables.exec = Jvm.exec) (hb : c.code = cc) {own ref C : String} {T : u_T} {N ci index : Nat} {Ts : List Cond} (hts : ∀ w ∈ Ts, w.before args s = true) (hin : ∀ w ∈ u_ws C T N, w ∈ Ts) (ty0 : Nat → FieldType) (hty : ∀ k, k < N → parseFieldDescriptor (T k).2.2.1 = some (ty0 k)) (hnm : ∀ a, a < N → ∀ b, b < N → a ≠ b → (T a).2.1 ≠ (T b).2.1) (hown : s.vm.findClass own = some m.cls) (hK : va_K D cl tys s) (hP : va_P D cl ws H) (hD : va_D A ws) (hS0 : va_S A H0 H locs) (q0 : Nat) {fs : List Value} (he : ws[q0]? = some (a, .inr (ci, fs))) (hc : cl[ci]? = some (C, T, N)) (k : Nat) (hk : k < N) (hlink : (Cond.fieldLink own index ref (T k).2.1 (T k).2.2.1).before args s = true) (hsame : ∀ x, s.fieldFound? (T k).1 (T k).2.1 (T k).2.2.1 = some x → s.fieldFound? ref (T k).2.1 (T k).2.2.1 = some x) (hfin : (T k).2.2.2 = false) {ty : FieldType} {v : Value} (hd : parseFieldDescriptor (T k).2.2.1 = some ty) (hn : narrow ty v = v) (hfit : fits ty v = true) (hl : k < fs.length) {ws2 : va_W} (hw : ws.set q0 (a, .inr (ci, fs.set k v)) = ws2)
    (hdg : decode cc pc = .ok (.putfield index, 3)) (kk : ∀ (H1 : Heap) (locs1 : List Loc), va_P D cl ws2 H1 → va_D A ws2 → va_S A H0 H1 locs1 → W p l e R s m args below meth c H1 locs1 cells slots Q (F0 m (pc + 3) ls rest)) : W p l e R s m args below meth c H locs cells slots Q (F0 m pc ls (v :: .ref a :: rest)) := by
  subst hw
  exact va_put hx hb hts hin ty0 hty hnm hown hK hP hD hS0 q0 he hc k hk hlink hsame hfin hd hn hfit hl hdg kk
theorem zk_inc (hx : p.tables.exec = Jvm.exec) (hb : c.code = cc) {i nL K : Nat} {n : Int} {a d : Nat} {lv lv' : List (Nat × Value)} (hdg : decode cc pc = .ok (.iinc i n, 3)) (h : lv_has ls nL lv) (hk : lv[K]? = some (i, .int (nI a))) (hd : Int32.ofInt n = nI d) (hn : i < nL) (hl : (i, Value.int (nI (a + d))) :: lv.filter (fun q => !(q.1 == i) && !(q.1 + 1 == i && q.2.category == 2)) = lv')
    (k : ∀ ls : Array Slot, lv_has ls nL lv' → W p l e R s m args below meth c H locs cells slots Q (F0 m (pc + 3) ls rest)) : W p l e R s m args below meth c H locs cells slots Q (F0 m pc ls rest) :=
  lv_iinc hx hb hdg h hk (by rw [hd]; exact nI_add a d) hn hl k
theorem zI_max {a b : Nat} (ha : a < 2147483648) (hb2 : b < 2147483648) : (if nI a < nI b then nI b else nI a) = nI (max a b) := by
  by_cases h : a < b
  · rw [if_pos ((nI_ltI ha hb2).mpr h), Nat.max_eq_right (Nat.le_of_lt h)]
  · rw [if_neg (fun z => h ((nI_ltI ha hb2).mp z)), Nat.max_eq_left (Nat.le_of_not_lt h)]
theorem zI_min {a b : Nat} (ha : a < 2147483648) (hb2 : b < 2147483648) : (if nI b < nI a then nI b else nI a) = nI (min a b) := by
  by_cases h : b < a
  · rw [if_pos ((nI_ltI hb2 ha).mpr h), Nat.min_eq_right (Nat.le_of_lt h)]
  · rw [if_neg (fun z => h ((nI_ltI hb2 ha).mp z)), Nat.min_eq_left (Nat.le_of_not_lt h)]
end ZK
section ZC
variable {p : Program} {l : Launch} {e : Env} {R : Room} {s : State} {m : MethodId} {args : Array Value} {below : List Frame} {meth : Method} {c : Code} {H : Heap} {locs : List Loc} {cells slots : Nat} {Q : State → Prop}
variable {cc : ByteArray} {pc : Nat} {ls : Array Slot} {rest st : List Value}
variable {y : MethodName} {bytes : ByteArray} {maxL nL n index : Nat} {ret : Option FieldType} {wsY : List Cond} {rm : Room} {Ts : List Cond} {own C : String} {b : Addr} {As : List Value} {G : zG} {wc ws : va_W} {A : Nat → Prop} {H0 : Heap}
theorem zpre (hK : va_K G.1 vwCl (zT G) s) (hN : zNF s) (hP : va_P G.1 vwCl ws H) (hD : va_D A ws) {isC : List Nat} (hnd : va_nd isC = true) (hC : isC.map (fun i => ws[i]?) = wc.map some) {av : List Value} : ∀ U : State, U.heap = H → s.WarmedH U.vm → zPc G av wc av.toArray U := fun U hU hW =>
  ⟨rfl, by rw [hU]; exact zsub_P hP hC, va_K.moved hW.alike hK, zNF.warm hW hN, (va_D.sub hD isC hnd hC).weaken (fun _ _ _ _ => trivial)⟩
/-- a call of a static method that touches no cell -/
theorem zc_S {post : Int32 → Prop} (S0 : CallFix p m c cc nL s args Ts own) (hM : Met l y wsY rm (fun v _ => v = As.toArray) (vp_Si post) 0 0 (fun _ => False)) (cw : CallB R s args own index y bytes maxL ret wsY rm 0 0 n ∧ (Cond.static y).before args s = true)
    (hn : As.length = n) (hsz : ls.size = nL) (hst : st = As.reverse ++ rest) (hcat : (rest.map fun v => v.category).sum ≤ 8) (hdg : decode cc pc = .ok (.invokestatic index, 3)) (hroom : cells ≤ R.cells ∧ slots ≤ R.slots)
    (kk : ∀ r : Int32, post r → W p l e R s m args below meth c H locs cells slots Q (F0 m (pc + 3) ls (.int r :: rest))) : W p l e R s m args below meth c H locs cells slots Q (F0 m pc ls st) :=
  vp_callSi (W.runS S0 hM cw preEq rfl hn hsz hst (lv_room hcat) hdg hroom) kk
/-- the same, of a nest mate -/
theorem zc_SN {host : String} {post : Int32 → Prop} (S0 : CallFix p m c cc nL s args Ts own) (hM : Met l y wsY rm (fun v _ => v = As.toArray) (vp_Si post) 0 0 (fun _ => False)) (cw : va_CN R s args own index y host bytes maxL ret wsY rm 0 0 n ∧ (Cond.static y).before args s = true ∧ True)
    (hn : As.length = n) (hsz : ls.size = nL) (hst : st = As.reverse ++ rest) (hcat : (rest.map fun v => v.category).sum ≤ 8) (hdg : decode cc pc = .ok (.invokestatic index, 3)) (hroom : cells ≤ R.cells ∧ slots ≤ R.slots)
    (kk : ∀ r : Int32, post r → W p l e R s m args below meth c H locs cells slots Q (F0 m (pc + 3) ls (.int r :: rest))) : W p l e R s m args below meth c H locs cells slots Q (F0 m pc ls st) := by
  intro T hT X
  obtain ⟨v, st₀, t, T', L, h0, X', hL, e1, -, ⟨r, hv, hp, hh⟩, st⟩ := va_runSN S0 hM cw preEq rfl hn hsz hst (lv_room hcat) hdg hroom T hT X
  cases hv
  obtain ⟨t2, a1, b1⟩ := kk r hp T' (by rw [e1, hh, h0]) (Stand.forget X' (fun q h => (hL q h).elim))
  exact ⟨t2, st t2 a1, b1⟩
/-- a call of a method that only reads -/
theorem zc_R {post : Int32 → Prop} (S0 : CallFix p m c cc nL s args Ts own) (hM : Met l y wsY rm (zPc G (.ref b :: As) wc) (vp_Si post) 0 0 (fun _ => False)) (cw : CallW R s args own C index y bytes maxL ret wsY rm 0 0 n)
    (hK : va_K G.1 vwCl (zT G) s) (hN : zNF s) (hP : va_P G.1 vwCl ws H) (hD : va_D A ws) (isC : List Nat) (hC : isC.map (fun i => ws[i]?) = wc.map some) (hnd : va_nd isC = true)
    {ci : Nat} {fs : List Value} {T : u_T} {N : Nat} (hr : wc[0]? = some (b, .inr (ci, fs))) (hcl : vwCl[ci]? = some (C, T, N))
    (hn : As.length = n) (hsz : ls.size = nL) (hst : st = As.reverse ++ .ref b :: rest) (hcat : (rest.map fun v => v.category).sum ≤ 8) (hdg : decode cc pc = .ok (.invokevirtual index, 3)) (hroom : cells ≤ R.cells ∧ slots ≤ R.slots)
    (kk : ∀ r : Int32, post r → W p l e R s m args below meth c H locs cells slots Q (F0 m (pc + 3) ls (.int r :: rest))) : W p l e R s m args below meth c H locs cells slots Q (F0 m pc ls st) :=
  vp_callSi (W.runV S0 hM cw ⟨zPc_blind, va_recv hK (zsub_P hP hC) hcl hr, zpre hK hN hP hD hnd hC⟩ rfl hn hsz hst (lv_room hcat) hdg hroom) kk
/-- a call of a method that writes, with an int as its answer -/
theorem zc_V {S : Type} {post : Int32 → S → Prop} {w1 : S → va_W} {ws2 : S → va_W} (S0 : CallFix p m c cc nL s args Ts own) (hM : Met l y wsY rm (zPc G (.ref b :: As) wc) (va_Qi post (fun u t => va_P G.1 vwCl (w1 u) t.heap) (zIn wc)) 0 0 (zIn wc)) (cw : CallW R s args own C index y bytes maxL ret wsY rm 0 0 n)
    (hK : va_K G.1 vwCl (zT G) s) (hN : zNF s) (hP : va_P G.1 vwCl ws H) (hD : va_D A ws) (hS : va_S A H0 H locs) (isC : List Nat) (hC : isC.map (fun i => ws[i]?) = wc.map some) (hnd : va_nd isC = true)
    {ci : Nat} {fs : List Value} {T : u_T} {N : Nat} (hr : wc[0]? = some (b, .inr (ci, fs))) (hcl : vwCl[ci]? = some (C, T, N)) (hadr : ∀ u, (w1 u).map Prod.fst = wc.map Prod.fst) (hws : ∀ u, zset ws isC (w1 u) = ws2 u)
    (hn : As.length = n) (hsz : ls.size = nL) (hst : st = As.reverse ++ .ref b :: rest) (hcat : (rest.map fun v => v.category).sum ≤ 8) (hdg : decode cc pc = .ok (.invokevirtual index, 3)) (hroom : cells ≤ R.cells ∧ slots ≤ R.slots)
    (kk : ∀ (r : Int32) (u : S) (H1 : Heap) (locs1 : List Loc), post r u → va_P G.1 vwCl (ws2 u) H1 → va_D A (ws2 u) → va_S A H0 H1 locs1 → W p l e R s m args below meth c H1 locs1 cells slots Q (F0 m (pc + 3) ls (.int r :: rest))) : W p l e R s m args below meth c H locs cells slots Q (F0 m pc ls st) := by
  refine va_calli (va_runV S0 hM cw ⟨zPc_blind, va_recv hK (zsub_P hP hC) hcl hr, zpre hK hN hP hD hnd hC⟩ rfl hn hsz hst (lv_room hcat) hdg hroom) hS (fun q _ h => zIn_sub hD hC q h) (zIn_sub hD hC) (fun r u t H1 locs1 ht hvm hw hB hz1 hk1 hS1 => ?_)
  rw [ht] at hB
  exact kk r u H1 locs1 hw (by rw [← hws u]; exact zset_P hP hD hC hnd (hadr u) hk1 hB) (by rw [← hws u]; exact zset_D hD hC hnd (hadr u)) hS1
/-- the same, without an answer -/
theorem zc_U {S : Type} {post : S → Prop} {w1 : S → va_W} {ws2 : S → va_W} (S0 : CallFix p m c cc nL s args Ts own) (hM : Met l y wsY rm (zPc G (.ref b :: As) wc) (va_Qv post (fun u t => va_P G.1 vwCl (w1 u) t.heap) (zIn wc)) 0 0 (zIn wc)) (cw : CallW R s args own C index y bytes maxL ret wsY rm 0 0 n)
    (hK : va_K G.1 vwCl (zT G) s) (hN : zNF s) (hP : va_P G.1 vwCl ws H) (hD : va_D A ws) (hS : va_S A H0 H locs) (isC : List Nat) (hC : isC.map (fun i => ws[i]?) = wc.map some) (hnd : va_nd isC = true)
    {ci : Nat} {fs : List Value} {T : u_T} {N : Nat} (hr : wc[0]? = some (b, .inr (ci, fs))) (hcl : vwCl[ci]? = some (C, T, N)) (hadr : ∀ u, (w1 u).map Prod.fst = wc.map Prod.fst) (hws : ∀ u, zset ws isC (w1 u) = ws2 u)
    (hn : As.length = n) (hsz : ls.size = nL) (hst : st = As.reverse ++ .ref b :: rest) (hcat : (rest.map fun v => v.category).sum ≤ 8) (hdg : decode cc pc = .ok (.invokevirtual index, 3)) (hroom : cells ≤ R.cells ∧ slots ≤ R.slots)
    (kk : ∀ (u : S) (H1 : Heap) (locs1 : List Loc), post u → va_P G.1 vwCl (ws2 u) H1 → va_D A (ws2 u) → va_S A H0 H1 locs1 → W p l e R s m args below meth c H1 locs1 cells slots Q (F0 m (pc + 3) ls rest)) : W p l e R s m args below meth c H locs cells slots Q (F0 m pc ls st) := by
  refine va_callv (va_runV S0 hM cw ⟨zPc_blind, va_recv hK (zsub_P hP hC) hcl hr, zpre hK hN hP hD hnd hC⟩ rfl hn hsz hst (lv_room hcat) hdg hroom) hS (fun q _ h => zIn_sub hD hC q h) (zIn_sub hD hC) (fun u t H1 locs1 ht hvm hw hB hz1 hk1 hS1 => ?_)
  rw [ht] at hB
  exact kk u H1 locs1 hw (by rw [← hws u]; exact zset_P hP hD hC hnd (hadr u) hk1 hB) (by rw [← hws u]; exact zset_D hD hC hnd (hadr u)) hS1
/-- the same, with a reference as its answer -/
theorem zc_A {S : Type} {post : S → Prop} {w1 : S → va_W} {ra : Nat} {ws2 : S → va_W} (S0 : CallFix p m c cc nL s args Ts own) (hM : Met l y wsY rm (zPc G (.ref b :: As) wc) (va_Qr post (fun u a t => a = ra ∧ va_P G.1 vwCl (w1 u) t.heap) (zIn wc)) 0 0 (zIn wc)) (cw : CallW R s args own C index y bytes maxL ret wsY rm 0 0 n)
    (hK : va_K G.1 vwCl (zT G) s) (hN : zNF s) (hP : va_P G.1 vwCl ws H) (hD : va_D A ws) (hS : va_S A H0 H locs) (isC : List Nat) (hC : isC.map (fun i => ws[i]?) = wc.map some) (hnd : va_nd isC = true)
    {ci : Nat} {fs : List Value} {T : u_T} {N : Nat} (hr : wc[0]? = some (b, .inr (ci, fs))) (hcl : vwCl[ci]? = some (C, T, N)) (hadr : ∀ u, (w1 u).map Prod.fst = wc.map Prod.fst) (hws : ∀ u, zset ws isC (w1 u) = ws2 u)
    (hn : As.length = n) (hsz : ls.size = nL) (hst : st = As.reverse ++ .ref b :: rest) (hcat : (rest.map fun v => v.category).sum ≤ 8) (hdg : decode cc pc = .ok (.invokevirtual index, 3)) (hroom : cells ≤ R.cells ∧ slots ≤ R.slots)
    (kk : ∀ (u : S) (H1 : Heap) (locs1 : List Loc), post u → va_P G.1 vwCl (ws2 u) H1 → va_D A (ws2 u) → va_S A H0 H1 locs1 → W p l e R s m args below meth c H1 locs1 cells slots Q (F0 m (pc + 3) ls (.ref ra :: rest))) : W p l e R s m args below meth c H locs cells slots Q (F0 m pc ls st) := by
  refine va_callr (va_runV S0 hM cw ⟨zPc_blind, va_recv hK (zsub_P hP hC) hcl hr, zpre hK hN hP hD hnd hC⟩ rfl hn hsz hst (lv_room hcat) hdg hroom) hS (fun q _ h => zIn_sub hD hC q h) (zIn_sub hD hC) (fun u ra1 t H1 locs1 ht hvm hw hB hz1 hk1 hS1 => ?_)
  obtain ⟨rfl, hB⟩ := hB
  rw [ht] at hB
  exact kk u H1 locs1 hw (by rw [← hws u]; exact zset_P hP hD hC hnd (hadr u) hk1 hB) (by rw [← hws u]; exact zset_D hD hC hnd (hadr u)) hS1
/-- the start of a method that writes cells of its world alone -/
theorem zM {wsY' : List Cond} {Qc : Array Value → State → Outcome → State → Prop} {av : List Value} {w0 : va_W} (hy : plainName y.cls = true) (hw : wsY = Cond.code y cc maxL ret :: wsY') (hle : (lg_sl av).length ≤ maxL)
    (body : ∀ (p : Program) (e : Env) (s : State) (m : MethodId) (below : List Frame) (meth : Method) (c : Code), p.tables.exec = Jvm.exec → c.code = cc → meth.sig.returnType = ret → (∀ w ∈ wsY, w.before av.toArray s = true) → s.vm.findClass y.cls = some m.cls → meth.locks = false → c.maxLocals = maxL → meth.name = y.name → va_K G.1 vwCl (zT G) s → zNF s → va_P G.1 vwCl w0 s.heap → va_D (zIn w0) w0 → va_S (zIn w0) s.heap s.heap [] → ∀ ls : Array Slot, lv_has ls maxL (lv_args 0 av) → W p l e (headSpec wsY rm).room s m av.toArray below meth c s.heap [] 0 0 (MQ below Qc av.toArray s 0 0 (zIn w0)) (F0 m 0 ls [])) : Met l y wsY rm (zPc G av w0) Qc 0 0 (zIn w0) := by
  refine Met.ofW (cc := cc) (maxL := maxL) (ret := ret) hy hw ?_
  intro p e s m args below meth c s₁ B hml hv
  obtain ⟨rfl, hP, hK, hN, hD0⟩ := hv
  rw [lg_entry_eq]
  exact body p e s m below meth c B.exec B.bytes B.returns (atoms_spec (ws := wsY) B.pre) (findClass_of_methodNamed B.named) B.notSynchronized hml (name_of_methodNamed B.named B.method).1 hK hN hP ⟨hD0.1, fun k q hk => ⟨k, q.2, hk⟩⟩ va_S.rf _ (lv_entry av hle)
/-- the start of a method that only reads -/
theorem zR {wsY' : List Cond} {Qc : Array Value → State → Outcome → State → Prop} {av : List Value} {w0 : va_W} (hy : plainName y.cls = true) (hw : wsY = Cond.code y cc maxL ret :: wsY') (hle : (lg_sl av).length ≤ maxL)
    (body : ∀ (p : Program) (e : Env) (s : State) (m : MethodId) (below : List Frame) (meth : Method) (c : Code), p.tables.exec = Jvm.exec → c.code = cc → meth.sig.returnType = ret → (∀ w ∈ wsY, w.before av.toArray s = true) → s.vm.findClass y.cls = some m.cls → meth.locks = false → c.maxLocals = maxL → va_K G.1 vwCl (zT G) s → zNF s → va_P G.1 vwCl w0 s.heap → va_D (fun _ => True) w0 → ∀ ls : Array Slot, lv_has ls maxL (lv_args 0 av) → W p l e (headSpec wsY rm).room s m av.toArray below meth c s.heap [] 0 0 (MQ below Qc av.toArray s 0 0 (fun _ => False)) (F0 m 0 ls [])) : Met l y wsY rm (zPc G av w0) Qc 0 0 (fun _ => False) := by
  refine Met.ofW (cc := cc) (maxL := maxL) (ret := ret) hy hw ?_
  intro p e s m args below meth c s₁ B hml hv
  obtain ⟨rfl, hP, hK, hN, hD0⟩ := hv
  rw [lg_entry_eq]
  exact body p e s m below meth c B.exec B.bytes B.returns (atoms_spec (ws := wsY) B.pre) (findClass_of_methodNamed B.named) B.notSynchronized hml hK hN hP hD0 _ (lv_entry av hle)
/-- the start of a method that touches no cell -/
theorem zS {wsY' : List Cond} {Qc : Array Value → State → Outcome → State → Prop} {av : List Value} (hy : plainName y.cls = true) (hw : wsY = Cond.code y cc maxL ret :: wsY') (hle : (lg_sl av).length ≤ maxL)
    (body : ∀ (p : Program) (e : Env) (s : State) (m : MethodId) (below : List Frame) (meth : Method) (c : Code), p.tables.exec = Jvm.exec → c.code = cc → meth.sig.returnType = ret → (∀ w ∈ wsY, w.before av.toArray s = true) → s.vm.findClass y.cls = some m.cls → meth.locks = false → c.maxLocals = maxL → ∀ ls : Array Slot, lv_has ls maxL (lv_args 0 av) → W p l e (headSpec wsY rm).room s m av.toArray below meth c s.heap [] 0 0 (MQ below Qc av.toArray s 0 0 (fun _ => False)) (F0 m 0 ls [])) : Met l y wsY rm (fun v _ => v = av.toArray) Qc 0 0 (fun _ => False) := by
  refine Met.ofW (cc := cc) (maxL := maxL) (ret := ret) hy hw ?_
  intro p e s m args below meth c s₁ B hml hv
  have hv : args = av.toArray := hv
  subst hv
  rw [lg_entry_eq]
  exact body p e s m below meth c B.exec B.bytes B.returns (atoms_spec (ws := wsY) B.pre) (findClass_of_methodNamed B.named) B.notSynchronized hml _ (lv_entry av hle)
end ZC
