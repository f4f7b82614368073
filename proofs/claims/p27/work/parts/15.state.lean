/-! what the class's state becomes: laws -/
section ZK
variable {p : Program} {l : Launch} {e : Env} {R : Room} {s : State} {m : MethodId} {args : Array Value} {below : List Frame} {meth : Method} {c : Code} {H : Heap} {locs : List Loc} {cells slots : Nat} {Q : State → Prop}
variable {cc : ByteArray} {pc : Nat} {ls : Array Slot} {rest st : List Value}
variable {D : va_G} {cl : List vw_C} {A : Nat → Prop} {a : Nat} {tys : List (ClassId × FieldType)} {ws : va_W} {H0 : Heap}
theorem va_cpyN (f g : Nat → Nat) (sp dp n : Nat) : va_cpy (arN f) (arN g) sp dp n = arN (cpF g f dp sp n) := by
  funext j
  unfold va_cpy arN cpF
  by_cases h : dp ≤ j ∧ j < dp + n
  · rw [if_pos h, if_pos h]
  · rw [if_neg h, if_neg h]
theorem zk_acopy (hx : p.tables.exec = Jvm.exec) (hb : c.code = cc) (hml : c.maxLocals = ls.size) {own : String} {index : Nat} (hown : s.vm.findClass own = some m.cls) (hlink : (Cond.methodLink own index arraycopyName).before args s = true) (hnat : (Cond.native arraycopyName).before args s = true) (hstat : (Cond.static arraycopyName).before args s = true) (hini : (Cond.initialized "java/lang/System").before args s = true)
    (hK : va_K D cl tys s) (hP : va_P D cl ws H) (hD : va_D A ws) (hS : va_S A H0 H locs) (q0 q1 t0 : Nat) {a0 : Nat} {c0 : ClassId} {n0 n1 : Nat} {f g : Nat → Nat} (ha0 : ws[q0]? = some (a0, .inl (c0, n0, .inl (arN f)))) (ha1 : ws[q1]? = some (a, .inl (c0, n1, .inl (arN g)))) (ht0 : tys[t0]? = some (c0, .int))
    {sp dp k : Nat} (b0 : n0 < 2147483648) (b1 : n1 < 2147483648) (h4 : sp + k ≤ n0) (h5 : dp + k ≤ n1) {ws2 : va_W} (hw : ws.set q1 (a, .inl (c0, n1, .inl (arN (cpF g f dp sp k)))) = ws2)
    (hframes : 1 ≤ R.frames) (hlocals : (rest.map fun v => v.category).sum + (nativeFrameWords "java/lang/System" "arraycopy" 5 + 11) ≤ R.locals) (hdg : decode cc pc = .ok (.invokestatic index, 3))
    (kk : ∀ (H1 : Heap) (locs1 : List Loc), va_P D cl ws2 H1 → va_D A ws2 → va_S A H0 H1 locs1 → W p l e R s m args below meth c H1 locs1 cells slots Q (F0 m (pc + 3) ls rest)) : W p l e R s m args below meth c H locs cells slots Q (F0 m pc ls (.int (nI k) :: .int (nI dp) :: .ref a :: .int (nI sp) :: .ref a0 :: rest)) := by
  subst hw
  refine va_copyi hx hb hml hown hlink hnat hstat hini hK hP hD hS q0 q1 t0 t0 ha0 ha1 ht0 ht0 rfl (nI_pos (by omega)) (nI_pos (by omega)) (nI_pos (by omega)) (by rw [nI_clamp (by omega), nI_clamp (by omega)]; exact h4) (by rw [nI_clamp (by omega), nI_clamp (by omega)]; exact h5) (fun _ _ => rfl) hframes hlocals hdg (fun H1 locs1 h1 h2 h3 => ?_)
  rw [nI_clamp (n := sp) (by omega), nI_clamp (n := dp) (by omega), nI_clamp (n := k) (by omega), va_cpyN] at h1 h2
  exact kk H1 locs1 h1 h2 h3
end ZK
theorem rowR_0 {sc : Nat → Nat} {e t n : Nat} (h : n - 1 ≤ t) : rowR sc e t n = sc := by
  unfold rowR
  rw [show n - 1 - t = 0 from by omega, Nat.zero_mul, ← cpF_0]
/-! facts -/
theorem i32_or0 {x y : Int32} : x ||| y = 0 ↔ x = 0 ∧ y = 0 := by
  constructor
  · intro h
    have h2 : x.toBitVec ||| y.toBitVec = 0#32 := congrArg Int32.toBitVec h
    constructor
    all_goals
      apply Int32.toBitVec_inj.1
      apply BitVec.eq_of_getLsbD_eq
      intro i hi
      have h3 := congrArg (fun z => z.getLsbD i) h2
      simp only [BitVec.getLsbD_or, BitVec.getLsbD_zero, Bool.or_eq_false_iff] at h3
      first | exact h3.1.trans BitVec.getLsbD_zero.symm | exact h3.2.trans BitVec.getLsbD_zero.symm
  · rintro ⟨rfl, rfl⟩; rfl
theorem andN_or (x y b : Nat) : andN (x ||| y) b = andN x b ||| andN y b := by
  unfold andN
  rw [← zA_or]
  apply Int32.toBitVec_inj.1
  apply BitVec.eq_of_getLsbD_eq
  intro i hi
  show (((nI x).toBitVec ||| (nI y).toBitVec) &&& (nI b ^^^ (-1)).toBitVec).getLsbD i = (((nI x).toBitVec &&& (nI b ^^^ (-1)).toBitVec) ||| ((nI y).toBitVec &&& (nI b ^^^ (-1)).toBitVec)).getLsbD i
  rw [BitVec.getLsbD_and, BitVec.getLsbD_or, BitVec.getLsbD_or, BitVec.getLsbD_and, BitVec.getLsbD_and, Bool.and_or_distrib_right]
theorem orF_andN {g : Nat → Nat} {b : Nat} : ∀ n, andN (orF 0 g n) b = 0 ↔ ∀ c, c < n → andN (g c) b = 0
  | 0 => ⟨fun _ c hc => absurd hc (Nat.not_lt_zero _), fun _ => zA_0and _⟩
  | n + 1 => by
    show andN (orF 0 g n ||| g n) b = 0 ↔ _
    rw [andN_or, i32_or0, orF_andN n]
    constructor
    · rintro ⟨h1, h2⟩ c hc
      by_cases h : c = n
      · subst h; exact h2
      · exact h1 c (by omega)
    · intro h
      exact ⟨fun c hc => h c (by omega), h n (by omega)⟩
theorem andN_x {x b : Nat} (hx : x < 2147483648) (h : x ||| b = x) : andN x b = nI (x ^^^ b) := by
  unfold andN
  apply Int32.toBitVec_inj.1
  apply BitVec.eq_of_getLsbD_eq
  intro i hi
  have h2 := congrArg (fun z => z.testBit i) h
  simp only [Nat.testBit_or] at h2
  show ((BitVec.ofNat 32 x) &&& (BitVec.ofNat 32 b ^^^ (-1 : Int32).toBitVec)).getLsbD i = (BitVec.ofNat 32 (x ^^^ b)).getLsbD i
  rw [show (-1 : Int32).toBitVec = BitVec.allOnes 32 from by decide]
  simp only [BitVec.getLsbD_and, BitVec.getLsbD_xor, BitVec.getLsbD_ofNat, BitVec.getLsbD_allOnes, Nat.testBit_xor, hi, decide_true, Bool.true_and]
  revert h2
  cases x.testBit i <;> cases b.testBit i <;> simp
theorem bitsN_x {x b : Nat} (h : x ||| b = x) : ∀ k, bitsN (x ^^^ b) k + bitsN b k = bitsN x k
  | 0 => rfl
  | k + 1 => by
    have ih := bitsN_x h k
    show bitsN (x ^^^ b) k + (x ^^^ b) / 2 ^ k % 2 + (bitsN b k + b / 2 ^ k % 2) = bitsN x k + x / 2 ^ k % 2
    have h2 := congrArg (fun z => z.testBit k) h
    have h3 : (x ^^^ b).testBit k = (x.testBit k ^^ b.testBit k) := Nat.testBit_xor ..
    simp only [Nat.testBit_or] at h2
    rw [Nat.testBit_eq_decide_div_mod_eq, Nat.testBit_eq_decide_div_mod_eq] at h2
    rw [Nat.testBit_eq_decide_div_mod_eq, Nat.testBit_eq_decide_div_mod_eq, Nat.testBit_eq_decide_div_mod_eq] at h3
    have l1 : (x ^^^ b) / 2 ^ k % 2 < 2 := Nat.mod_lt _ (by decide)
    have l2 : b / 2 ^ k % 2 < 2 := Nat.mod_lt _ (by decide)
    have l3 : x / 2 ^ k % 2 < 2 := Nat.mod_lt _ (by decide)
    generalize (x ^^^ b) / 2 ^ k % 2 = u1 at *
    generalize b / 2 ^ k % 2 = u2 at *
    generalize x / 2 ^ k % 2 = u3 at *
    have k1 : u1 = 0 ∨ u1 = 1 := by omega
    have k2 : u2 = 0 ∨ u2 = 1 := by omega
    have k3 : u3 = 0 ∨ u3 = 1 := by omega
    rcases k1 with rfl | rfl <;> rcases k2 with rfl | rfl <;> rcases k3 with rfl | rfl <;> first | omega | (exact absurd h2 (by decide)) | (exact absurd h3 (by decide))
theorem or_sup (b c : Nat) : (b ||| c) ||| b = b ||| c := by
  rw [Nat.or_comm (b ||| c) b, ← Nat.or_assoc, Nat.or_self]
/-- how the class's library counts bits -/
def bA (v : Nat) : Nat := v - ((v / 2 ^ 1) &&& 1431655765)
def bB (v : Nat) : Nat := (bA v &&& 858993459) + ((bA v / 2 ^ 2) &&& 858993459)
def bC (v : Nat) : Nat := (bB v + bB v / 2 ^ 4) &&& 252645135
def bD (v : Nat) : Nat := bC v + bC v / 2 ^ 8
def bE (v : Nat) : Nat := bD v + bD v / 2 ^ 16
theorem bA_le (v : Nat) : bA v ≤ v := Nat.sub_le _ _
theorem bA_sub (v : Nat) : (v / 2 ^ 1) &&& 1431655765 ≤ v := Nat.le_trans Nat.and_le_left (Nat.div_le_self _ _)
theorem bB_le (v : Nat) : bB v ≤ 1717986918 := Nat.add_le_add (Nat.and_le_right) (Nat.and_le_right)
theorem bC_le (v : Nat) : bC v ≤ 252645135 := Nat.and_le_right
theorem bD_le (v : Nat) : bD v ≤ 505290270 := Nat.add_le_add (bC_le v) (Nat.le_trans (Nat.div_le_self _ _) (bC_le v))
def b8 (v : Nat) : Nat := v % 2 + v / 2 % 2 + v / 4 % 2 + v / 8 % 2 + v / 16 % 2 + v / 32 % 2 + v / 64 % 2 + v / 128 % 2
def pA (y : Nat) : Nat := y - (y / 2 &&& 85)
def pB (x : Nat) : Nat := (x &&& 51) + (x / 4 &&& 51)
def pC (x : Nat) : Nat := (x + x / 16) &&& 15
theorem p_hi : ∀ x : Nat, x < 256 → (x / 2 &&& 5592405) = (x / 2 &&& 85) := by decide +kernel
theorem p_lo : ∀ x : Nat, x < 2 → ∀ y : Nat, y < 256 → ((128 * x + y / 2) &&& 85) = (y / 2 &&& 85) := by decide +kernel
theorem p2_hi : ∀ x : Nat, x < 256 → (x &&& 3355443) = (x &&& 51) ∧ (x / 4 &&& 3355443) = (x / 4 &&& 51) := by decide +kernel
theorem p2_lo : ∀ x : Nat, x < 4 → ∀ y : Nat, y < 256 → ((64 * x + y / 4) &&& 51) = (y / 4 &&& 51) := by decide +kernel
theorem p3_hi : ∀ x : Nat, x < 69 → ((x + x / 16) &&& 986895) = ((x + x / 16) &&& 15) := by decide +kernel
theorem p3_lo : ∀ x : Nat, x < 5 → ∀ y : Nat, y < 69 → ((y + (16 * x + y / 16)) &&& 15) = ((y + y / 16) &&& 15) := by decide +kernel
theorem p_bd : ∀ x : Nat, x < 256 → pA x ≤ x ∧ pB (pA x) ≤ 68 ∧ pB (pA x) % 16 ≤ 4 ∧ pC (pB (pA x)) = b8 x ∧ b8 x ≤ 8 ∧ (x / 2 &&& 85) ≤ x := by decide +kernel
theorem and_split {x y m n : Nat} (hy : y < 256) (hn : n < 256) : (256 * x + y) &&& (256 * m + n) = 256 * (x &&& m) + (y &&& n) := by
  have h1 : (256 * x + y) &&& (256 * m + n) = 256 * (((256 * x + y) &&& (256 * m + n)) / 2 ^ 8) + ((256 * x + y) &&& (256 * m + n)) % 2 ^ 8 := by omega
  rw [Nat.and_div_two_pow, Nat.and_mod_two_pow] at h1
  rw [show (256 * x + y) / 2 ^ 8 = x from by omega, show (256 * m + n) / 2 ^ 8 = m from by omega, show (256 * x + y) % 2 ^ 8 = y from by omega, show (256 * m + n) % 2 ^ 8 = n from by omega] at h1
  exact h1
theorem bA_s {x y : Nat} (hx : x < 256) (hy : y < 256) : bA (256 * x + y) = 256 * pA x + pA y := by
  have e1 : (256 * x + y) / 2 ^ 1 = 256 * (x / 2) + (128 * (x % 2) + y / 2) := by omega
  unfold bA pA
  rw [e1, show (1431655765 : Nat) = 256 * 5592405 + 85 from rfl, and_split (by omega) (by decide), p_hi x hx, p_lo (x % 2) (by omega) y hy]
  have h1 := (p_bd x hx).2.2.2.2.2
  have h2 := (p_bd y hy).2.2.2.2.2
  omega
theorem bB_s {v x y : Nat} (hv : bA v = 256 * x + y) (hx : x < 256) (hy : y < 256) : bB v = 256 * pB x + pB y := by
  have e1 : (256 * x + y) / 2 ^ 2 = 256 * (x / 4) + (64 * (x % 4) + y / 4) := by omega
  unfold bB pB
  rw [hv, e1, show (858993459 : Nat) = 256 * 3355443 + 51 from rfl, and_split (by omega) (by decide), and_split (by omega) (by decide), (p2_hi x hx).1, (p2_hi x hx).2, p2_lo (x % 4) (by omega) y hy]
  omega
theorem bC_s {v x y : Nat} (hv : bB v = 256 * x + y) (hx : x ≤ 68) (hx2 : x % 16 ≤ 4) (hy : y ≤ 68) : bC v = 256 * pC x + pC y := by
  have e1 : 256 * x + y + (256 * x + y) / 2 ^ 4 = 256 * (x + x / 16) + (y + (16 * (x % 16) + y / 16)) := by omega
  unfold bC pC
  rw [hv, e1, show (252645135 : Nat) = 256 * 986895 + 15 from rfl, and_split (by omega) (by decide), p3_hi x (by omega), p3_lo (x % 16) (by omega) y (by omega)]
theorem bitsN_16 {x y : Nat} (hx : x < 256) (hy : y < 256) : bitsN (256 * x + y) 16 = b8 x + b8 y := by
  show 0 + (256 * x + y) / 1 % 2 + (256 * x + y) / 2 % 2 + (256 * x + y) / 4 % 2 + (256 * x + y) / 8 % 2 + (256 * x + y) / 16 % 2 + (256 * x + y) / 32 % 2 + (256 * x + y) / 64 % 2 + (256 * x + y) / 128 % 2 + (256 * x + y) / 256 % 2 + (256 * x + y) / 512 % 2 + (256 * x + y) / 1024 % 2 + (256 * x + y) / 2048 % 2 + (256 * x + y) / 4096 % 2 + (256 * x + y) / 8192 % 2 + (256 * x + y) / 16384 % 2 + (256 * x + y) / 32768 % 2 = _
  unfold b8
  have d0 : (256 * x + y) / 1 % 2 = y % 2 := by omega
  have d1 : (256 * x + y) / 2 % 2 = y / 2 % 2 := by omega
  have d2 : (256 * x + y) / 4 % 2 = y / 4 % 2 := by omega
  have d3 : (256 * x + y) / 8 % 2 = y / 8 % 2 := by omega
  have d4 : (256 * x + y) / 16 % 2 = y / 16 % 2 := by omega
  have d5 : (256 * x + y) / 32 % 2 = y / 32 % 2 := by omega
  have d6 : (256 * x + y) / 64 % 2 = y / 64 % 2 := by omega
  have d7 : (256 * x + y) / 128 % 2 = y / 128 % 2 := by omega
  have d8 : (256 * x + y) / 256 % 2 = x % 2 := by omega
  have d9 : (256 * x + y) / 512 % 2 = x / 2 % 2 := by omega
  have d10 : (256 * x + y) / 1024 % 2 = x / 4 % 2 := by omega
  have d11 : (256 * x + y) / 2048 % 2 = x / 8 % 2 := by omega
  have d12 : (256 * x + y) / 4096 % 2 = x / 16 % 2 := by omega
  have d13 : (256 * x + y) / 8192 % 2 = x / 32 % 2 := by omega
  have d14 : (256 * x + y) / 16384 % 2 = x / 64 % 2 := by omega
  have d15 : (256 * x + y) / 32768 % 2 = x / 128 % 2 := by omega
  rw [d0, d1, d2, d3, d4, d5, d6, d7, d8, d9, d10, d11, d12, d13, d14, d15]
  clear d0 d1 d2 d3 d4 d5 d6 d7 d8 d9 d10 d11 d12 d13 d14 d15
  generalize y % 2 = u0
  generalize y / 2 % 2 = u1
  generalize y / 4 % 2 = u2
  generalize y / 8 % 2 = u3
  generalize y / 16 % 2 = u4
  generalize y / 32 % 2 = u5
  generalize y / 64 % 2 = u6
  generalize y / 128 % 2 = u7
  generalize x % 2 = w0
  generalize x / 2 % 2 = w1
  generalize x / 4 % 2 = w2
  generalize x / 8 % 2 = w3
  generalize x / 16 % 2 = w4
  generalize x / 32 % 2 = w5
  generalize x / 64 % 2 = w6
  generalize x / 128 % 2 = w7
  omega
theorem b_ok {v : Nat} (hv : v ≤ 65535) : (bE v &&& 63) = bitsN v 16 := by
  obtain ⟨x, y, hx, hy, rfl⟩ : ∃ x y : Nat, x < 256 ∧ y < 256 ∧ v = 256 * x + y := ⟨v / 256, v % 256, by omega, by omega, by omega⟩
  obtain ⟨a1, a2, a3, a4, a5, -⟩ := p_bd x hx
  obtain ⟨c1, c2, c3, c4, c5, -⟩ := p_bd y hy
  have h3 := bC_s (bB_s (bA_s hx hy) (by omega) (by omega)) a2 a3 c2
  rw [a4, c4] at h3
  rw [bitsN_16 hx hy]
  have h4 : bD (256 * x + y) = 256 * b8 x + (b8 y + b8 x) := by
    unfold bD
    rw [h3]
    omega
  have h5 : bE (256 * x + y) = 256 * b8 x + (b8 y + b8 x) := by
    unfold bE
    rw [h4]
    omega
  rw [h5, show (63 : Nat) = 2 ^ 6 - 1 from rfl, Nat.and_two_pow_sub_one_eq_mod]
  omega
theorem zA_xor (x b : Nat) : nI x ^^^ nI b = nI (x ^^^ b) := by
  apply Int32.toBitVec_inj.1
  show BitVec.ofNat 32 x ^^^ BitVec.ofNat 32 b = BitVec.ofNat 32 (x ^^^ b)
  apply BitVec.eq_of_getLsbD_eq
  intro i hi
  simp [hi]
/-! the state behind an act: well formed, and still beside the class's rows -/
theorem mOK_setF {sg : Nat → Nat} {e t f : Nat} (hM : mOK sg) (he : e < 8) (ht : t < sg (10 + 76 * e)) (hf : 1 ≤ f ∧ f ≤ 65535) : mOK (arU sg (11 + 76 * e + 15 * t + 3) f) := by
  have h5 := hM.2.1 e he
  have hs : ∀ e2, arU sg (11 + 76 * e + 15 * t + 3) f (10 + 76 * e2) = sg (10 + 76 * e2) := fun e2 => arU_n (fun q => ix_mx (e := e2) (e2 := e) (t2 := t) (w := 3) (by omega) (by omega) q.symm)
  refine mOK_of hM (fun j hj => arU_n (by omega)) (fun e2 he2 => by rw [hs]; exact hM.2.1 e2 he2) (fun e2 t2 he2 ht2 => ?_)
  rw [hs] at ht2
  have h52 := hM.2.1 e2 he2
  have hT := hM.2.2 e2 t2 he2 ht2
  have r : ∀ w, w < 15 → w ≠ 3 → arU sg (11 + 76 * e + 15 * t + 3) f (11 + 76 * e2 + 15 * t2 + w) = sg (11 + 76 * e2 + 15 * t2 + w) := fun w h1 h2 => arU_n (ix_sep (by omega) h1 (by omega) (by omega) h2)
  unfold txOK at hT ⊢
  rw [r 0 (by omega) (by omega), r 1 (by omega) (by omega), r 2 (by omega) (by omega), r 5 (by omega) (by omega)]
  obtain ⟨q1, q2, q3, q4, q5, q6⟩ := hT
  refine ⟨q1, q2, q3, ?_, q5, fun c hc => ?_⟩
  · unfold arU
    split
    · exact hf
    · exact q4
  · rw [r _ (by omega) (by omega), r _ (by omega) (by omega)]
    exact q6 c hc
theorem mOK_v {sg s2 : Nat → Nat} (hM : mOK sg) (h : ∀ j, 10 ≤ j → s2 j = sg j) (hv : s2 0 < 8 ∧ s2 1 ≤ 60 ∧ s2 2 ≤ 1 ∧ (s2 2 = 1 → (4 ≤ s2 3 ∧ s2 3 ≤ 99) ∧ 30 ≤ s2 4 ∧ s2 4 ≤ 400) ∧ s2 5 ≤ 9999 ∧ s2 6 ≤ 65535) : mOK s2 := by
  refine mOK_vis hM hv (fun e he => ?_) (fun e t2 he ht2 => ⟨?_, ?_, ?_, ?_, ?_, fun c hc3 => ⟨?_, ?_⟩⟩)
  all_goals (rw [h _ (by omega)])
theorem tuT_o {sg : Nat → Nat} {d j : Nat} (h : j ≠ 0) (h2 : j ≠ 5) : tuT sg d j = sg j := by
  unfold tuT
  rw [arU_n h2, arU_n h]
theorem mOK_tuT {sg : Nat → Nat} {d : Nat} (hM : mOK sg) : mOK (tuT sg d) := by
  obtain ⟨a1, a2, a3, a4, a5, a6⟩ := hM.1
  refine mOK_v hM (fun j hj => tuT_o (by omega) (by omega)) ⟨?_, a2, a3, a4, ?_, a6⟩
  · show (sg 0 + d) % 8 < 8
    omega
  · show sg 5 - sg 1 ≤ 9999
    omega
theorem mOK_sTu {sg : Nat → Nat} {n : Nat} (hM : mOK sg) (hn : n ≤ 60) : mOK (arU sg 1 n) := by
  obtain ⟨a1, a2, a3, a4, a5, a6⟩ := hM.1
  exact mOK_v hM (fun j hj => arU_n (by omega)) ⟨a1, hn, a3, a4, a5, a6⟩
theorem rel_tuT {sz sc sg : Nat → Nat} {d : Nat} (hR : sRel sz sc sg) : sRel sz sc (tuT sg d) := sRel_vis (fun j hj => tuT_o (by omega) (by omega)) hR
theorem rel_sTu {sz sc sg : Nat → Nat} {n : Nat} (hR : sRel sz sc sg) : sRel sz sc (arU sg 1 n) := sRel_vis (fun j hj => arU_n (by omega)) hR
theorem rel_enT {sz sc sg : Nat → Nat} {x y z : Nat} (hR : sRel sz sc sg) : sRel sz sc (enT sg x y z) := sRel_vis (fun j hj => by
  unfold enT
  rw [arU_n (by omega), arU_n (by omega), arU_n (by omega), arU_n (by omega), arU_n (by omega), arU_n (by omega)]) hR
theorem rel_cpT {sz sc sg : Nat → Nat} {t k : Nat} (hM : mOK sg) (hR : sRel sz sc sg) (ht : t < sg (10 + 76 * sg 0)) (hk : k < sg (11 + 76 * sg 0 + 15 * t + 5)) : sRel sz (arU sc ((sg 0 * 5 + t) * 16 + 7 + k * 3 + 2) (sg (11 + 76 * sg 0 + 15 * t + (6 + 3 * k + 2)) + 1)) (cpT sg t k) := by
  refine sRel_vis (fun j hj => ?_) (rel_cap (v := sg (11 + 76 * sg 0 + 15 * t + (6 + 3 * k + 2)) + 1) hM hR hM.1.1 ht hk)
  unfold cpT
  rw [arU_n (by omega)]
  unfold arU
  split
  · rfl
  · rw [if_neg (by omega), if_neg (by omega)]
theorem rel_rdT {sz sc sg : Nat → Nat} {t : Nat} (hM : mOK sg) (hR : sRel sz sc sg) (ht : t < sg (10 + 76 * sg 0)) : sRel sz (arU sc ((sg 0 * 5 + t) * 16 + 6) (sg (11 + 76 * sg 0 + 15 * t + 4) + 1)) (rdT sg t) := by
  refine sRel_vis (fun j hj => ?_) (rel_one (v := sg (11 + 76 * sg 0 + 15 * t + 4) + 1) hM hR hM.1.1 ht (Or.inr ⟨rfl, rfl⟩))
  unfold rdT
  rw [arU_n (by omega)]
  unfold arU
  split
  · rfl
  · rw [if_neg (by omega), if_neg (by omega)]
theorem cpT_f {sg : Nat → Nat} {t k : Nat} : cpT sg t k 0 = sg 0 ∧ cpT sg t k 1 = sg 1 ∧ cpT sg t k 7 = sg 7 ∧ cpT sg t k 8 = sg 8 ∧ cpT sg t k 9 = sg 9 + 1 ∧ cpT sg t k 2 = sg 2 ∧ cpT sg t k 3 = sg 3 ∧ cpT sg t k 4 = sg 4 ∧ cpT sg t k 5 = sg 5 - secs (sg (11 + 76 * sg 0 + 15 * t + (6 + 3 * k + 0))) (sg 4) ∧ cpT sg t k 6 = sg 6 ||| sg (11 + 76 * sg 0 + 15 * t + (6 + 3 * k + 1)) := by
  refine ⟨cpT_o (by omega) (by omega) (by omega) (by omega), cpT_o (by omega) (by omega) (by omega) (by omega), cpT_o (by omega) (by omega) (by omega) (by omega), cpT_o (by omega) (by omega) (by omega) (by omega), arU_s _ _ _, cpT_o (by omega) (by omega) (by omega) (by omega), cpT_o (by omega) (by omega) (by omega) (by omega), cpT_o (by omega) (by omega) (by omega) (by omega), ?_, ?_⟩
  · unfold cpT
    rw [arU_n (by omega), arU_n (by omega), arU_n (by omega), arU_s]
  · unfold cpT
    rw [arU_n (by omega), arU_n (by omega), arU_s]
theorem rdT_o {sg : Nat → Nat} {t j : Nat} (h1 : j ≠ 5) (h2 : j ≠ 6) (h3 : j ≠ 8) (h4 : j ≠ 11 + 76 * sg 0 + 15 * t + 4) : rdT sg t j = sg j := by
  unfold rdT
  rw [arU_n h3, arU_n h4, arU_n h2, arU_n h1]
theorem rdT_f {sg : Nat → Nat} {t : Nat} : rdT sg t 0 = sg 0 ∧ rdT sg t 1 = sg 1 ∧ rdT sg t 7 = sg 7 ∧ rdT sg t 8 = sg 8 + 1 ∧ rdT sg t 9 = sg 9 ∧ rdT sg t 2 = sg 2 ∧ rdT sg t 3 = sg 3 ∧ rdT sg t 4 = sg 4 ∧ rdT sg t 5 = sg 5 - secs (sg (11 + 76 * sg 0 + 15 * t + 0)) (sg 4) ∧ rdT sg t 6 = sg 6 ||| sg (11 + 76 * sg 0 + 15 * t + 3) := by
  refine ⟨rdT_o (by omega) (by omega) (by omega) (by omega), rdT_o (by omega) (by omega) (by omega) (by omega), rdT_o (by omega) (by omega) (by omega) (by omega), arU_s _ _ _, rdT_o (by omega) (by omega) (by omega) (by omega), rdT_o (by omega) (by omega) (by omega) (by omega), rdT_o (by omega) (by omega) (by omega) (by omega), rdT_o (by omega) (by omega) (by omega) (by omega), ?_, ?_⟩
  · unfold rdT
    rw [arU_n (by omega), arU_n (by omega), arU_n (by omega), arU_s]
  · unfold rdT
    rw [arU_n (by omega), arU_n (by omega), arU_s]
theorem lsA_congr {r1 r2 : Nat → Nat} : ∀ n, (∀ j, j < n → r1 j = r2 j) → lsA r1 n = lsA r2 n
  | 0, _ => rfl
  | n + 1, h => by
    show lsStep r1 n (lsA r1 n) = lsStep r2 n (lsA r2 n)
    rw [lsA_congr n (fun j hj => h j (by omega))]
    cases hq : lsA r2 n with
    | none => rfl
    | some b => unfold lsStep; simp only; rw [h n (by omega), h b (by have := lsA_lt n hq; omega)]
theorem ftA_congr {r1 r2 w1 w2 : Nat → Nat} {ag : Nat} : ∀ n, (∀ j, j < n → r1 j = r2 j) → (∀ j, j < n → w1 j = w2 j) → ftA r1 w1 ag n = ftA r2 w2 ag n
  | 0, _, _ => rfl
  | n + 1, h, hw => by
    show ftStep r1 w1 ag n (ftA r1 w1 ag n) = ftStep r2 w2 ag n (ftA r2 w2 ag n)
    rw [ftA_congr n (fun j hj => h j (by omega)) (fun j hj => hw j (by omega))]
    cases hq : ftA r2 w2 ag n with
    | none => unfold ftStep; simp only; rw [h n (by omega)]
    | some b => unfold ftStep; simp only; rw [h n (by omega), h b (by have := ftA_lt n hq; omega), hw n (by omega), hw b (by have := ftA_lt n hq; omega)]
theorem shA_congr {r1 r2 w1 w2 : Nat → Nat} {ag n : Nat} (h : ∀ j, j < n → r1 j = r2 j) (hw : ∀ j, j < n → w1 j = w2 j) : shA r1 w1 ag n = shA r2 w2 ag n := by
  unfold shA
  rw [ftA_congr n h hw, lsA_congr n h]
theorem shT_congr {sg s2 : Nat → Nat} {e ag : Nat} (h5 : sg (10 + 76 * e) ≤ 5) (h1 : s2 (10 + 76 * e) = sg (10 + 76 * e)) (h : ∀ t w, t < 5 → w < 3 → s2 (11 + 76 * e + 15 * t + w) = sg (11 + 76 * e + 15 * t + w)) : shT s2 e ag = shT sg e ag := by
  show shA (rdg s2 e) _ ag (s2 (10 + 76 * e)) = shA (rdg sg e) _ ag (sg (10 + 76 * e))
  rw [h1]
  refine shA_congr (fun j hj => ?_) (fun j hj => h j 0 (by omega) (by omega))
  unfold rdg
  rw [h j 0 (by omega) (by omega), h j 1 (by omega) (by omega), h j 2 (by omega) (by omega)]
theorem sN_cpT {sg : Nat → Nat} {t k : Nat} (hM : mOK sg) (ht : t < sg (10 + 76 * sg 0)) (hk : k < 3) : sN (cpT sg t k) = sN sg := by
  have h5 := hM.2.1 _ hM.1.1
  obtain ⟨q0, -, -, -, -, q2, q3, -, -, -⟩ := cpT_f (sg := sg) (t := t) (k := k)
  unfold sN
  rw [q0, q2, q3, shT_congr h5 (cpT_o (by omega) (by omega) (by omega) (by omega)) (fun t2 w ht2 hw => cpT_o (by omega) (by omega) (by omega) (ix_sep ht2 (by omega) (by omega) (by omega) (by omega)))]
theorem sup_cpT {sg : Nat → Nat} {t k : Nat} : cpT sg t k 6 ||| sg 6 = cpT sg t k 6 := by
  obtain ⟨-, -, -, -, -, -, -, -, -, q6⟩ := cpT_f (sg := sg) (t := t) (k := k)
  rw [q6, or_sup]
theorem sup_rdT {sg : Nat → Nat} {t : Nat} : rdT sg t 6 ||| sg 6 = rdT sg t 6 := by
  obtain ⟨-, -, -, -, -, -, -, -, -, q6⟩ := rdT_f (sg := sg) (t := t)
  rw [q6, or_sup]
theorem sup_tcT {sg : Nat → Nat} {t k : Nat} : tcT sg t k 6 ||| sg 6 = tcT sg t k 6 := by
  unfold tcT
  split
  · obtain ⟨-, -, -, -, -, -, -, -, -, q6⟩ := rdT_f (sg := cpT sg t k) (t := t)
    rw [q6, Nat.or_assoc, Nat.or_comm _ (sg 6), ← Nat.or_assoc, sup_cpT]
  · exact sup_cpT
theorem mx_sub {x b : Nat} (hx : x < 1000000) (hb : b < 1000000) : (if nI x - nI b < nI 0 then nI 0 else nI x - nI b) = nI (x - b) := by
  by_cases h : x < b
  · rw [nI_0, if_pos (pk_sneg (by omega) h), show x - b = 0 from by omega]
    rfl
  · rw [pk_sub (by omega), nI_0, if_neg (nI_pos (by omega))]
theorem sRel_cpy {sz sc tz tc tg : Nat → Nat} (hM : mOK tg) (hR : sRel tz tc tg) : sRel (cpF sz tz 0 0 8) (cpF sc tc 0 0 640) tg := by
  refine ⟨fun e he => ?_, fun e t he ht => ?_⟩
  · rw [cpF_in (by omega) (by omega), Nat.zero_add, Nat.sub_zero]
    exact hR.1 e he
  · have h5 := hM.2.1 e he
    refine rRel_keep (fun w hw => ?_) (fun _ _ => rfl) (hR.2 e t he ht)
    rw [cpF_in (by omega) (by omega), Nat.zero_add, Nat.sub_zero]
theorem addT_lo {sg : Nat → Nat} {e w s z f : Nat} : ∀ j, j < 10 → addT sg e w s z f j = sg j := fun j hj => addT_o (by omega) (by omega)
theorem addC_lo {sg : Nat → Nat} {e t w f : Nat} : ∀ j, j < 10 → addC sg e t w f j = sg j := fun j hj => addC_o (by omega) (by omega)
theorem rmT_lo10 {sg : Nat → Nat} {e t : Nat} : ∀ j, j < 10 → rmT sg e t j = sg j := fun j hj => by
  unfold rmT
  rw [arU_n (by omega)]
  exact sfF_out (by omega)
theorem setF_lo {sg : Nat → Nat} {e t k f : Nat} : ∀ j, j < 10 → arU sg (11 + 76 * e + 15 * t + k) f j = sg j := fun j hj => arU_n (by omega)
theorem bool_put {n : Nat} (h : n ≤ 1) : narrow .boolean (.int (nI n)) = .int (nI n) ∧ fits .boolean (.int (nI n)) = true := by
  have h2 : n = 0 ∨ n = 1 := by omega
  rcases h2 with rfl | rfl <;> exact ⟨by decide, by decide⟩
/-- a method of a class of which some methods are run by an entry, but not this one -/
theorem zSF {l : Launch} {y : MethodName} {cc : ByteArray} {maxL : Nat} {ret : Option FieldType} {wsY wsY' : List Cond} {rm : Room} {Qc : Array Value → State → Outcome → State → Prop} {av : List Value} (hy : plainFor y = true) (hw : wsY = Cond.code y cc maxL ret :: wsY') (hle : (lg_sl av).length ≤ maxL)
    (body : ∀ (p : Program) (e : Env) (s : State) (m : MethodId) (below : List Frame) (meth : Method) (c : Code), p.tables.exec = Jvm.exec → c.code = cc → meth.sig.returnType = ret → (∀ w ∈ wsY, w.before av.toArray s = true) → s.vm.findClass y.cls = some m.cls → meth.locks = false → c.maxLocals = maxL → ∀ ls : Array Slot, lv_has ls maxL (lv_args 0 av) → W p l e (headSpec wsY rm).room s m av.toArray below meth c s.heap [] 0 0 (MQ below Qc av.toArray s 0 0 (fun _ => False)) (F0 m 0 ls [])) : Met l y wsY rm (fun v _ => v = av.toArray) Qc 0 0 (fun _ => False) := by
  have key : ∀ p e s m args below meth c s₁, BodyLoose p l y (headSpec wsY rm) cc maxL ret e s m args below meth c s₁ → c.maxLocals = maxL → args = av.toArray →
      W p l e (headSpec wsY rm).room s m args below meth c s.heap [] 0 0 (MQ below Qc args s 0 0 (fun _ => False)) (entryFrame m args maxL) := by
    intro p e s m args below meth c s₁ B hml hv
    subst hv
    rw [lg_entry_eq]
    exact body p e s m below meth c B.exec B.bytes B.returns (atoms_spec (ws := wsY) B.pre) (findClass_of_methodNamed B.named) B.notSynchronized hml _ (lv_entry av hle)
  refine MetFree.of_bodySF (code := cc) (maxLocals := maxL) (ret := ret) hy ?_ ?_
  · intro args s m h hn
    obtain ⟨meth, c, h1, h2, h3, h4, h5, h6, -, -⟩ := Cond.code_spec hn (atoms_spec (ws := wsY) h _ (by rw [hw]; exact List.mem_cons_self))
    exact ⟨meth, c, h1, h2, h3, h4, h5, h6⟩
  · intro p e s m args below meth c s₁ B hml hP _
    have hh0 : s₁.heap = s.heap := by rw [B.state]; rfl
    obtain ⟨t, a1, o, b1, b2, b3⟩ := key p e s m args below meth c s₁ B hml hP s₁ hh0 (Stand.of_body B)
    exact ⟨t, o, a1, b1, b2, ⟨b3.1, b3.2⟩⟩
