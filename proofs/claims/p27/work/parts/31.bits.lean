/-! sets of facts as numbers of bits -/
def sB (a b : Nat) : Prop := ∀ i, a.testBit i = true → b.testBit i = true
theorem sB_rf (a : Nat) : sB a a := fun _ h => h
theorem sB_0 (b : Nat) : sB 0 b := fun i h => by rw [Nat.zero_testBit] at h; cases h
theorem sB_l (a b : Nat) : sB a (a ||| b) := fun i h => by rw [Nat.testBit_or, h]; rfl
theorem sB_r (a b : Nat) : sB b (a ||| b) := fun i h => by rw [Nat.testBit_or, h, Bool.or_true]
theorem sB_tr {a b c : Nat} (h1 : sB a b) (h2 : sB b c) : sB a c := fun i h => h2 i (h1 i h)
theorem sB_or {a b c : Nat} (h1 : sB a c) (h2 : sB b c) : sB (a ||| b) c := fun i h => by
  rw [Nat.testBit_or] at h
  cases ha : a.testBit i with
  | true => exact h1 i ha
  | false => rw [ha, Bool.false_or] at h; exact h2 i h
theorem bit_or {a b i : Nat} (h : (a ||| b).testBit i = true) : a.testBit i = true ∨ b.testBit i = true := by
  rw [Nat.testBit_or] at h
  cases ha : a.testBit i with
  | true => exact Or.inl rfl
  | false => rw [ha, Bool.false_or] at h; exact Or.inr h
theorem nI_bit (a i : Nat) (hi : i < 32) : (nI a).toBitVec.getLsbD i = a.testBit i := by
  show (BitVec.ofNat 32 a).getLsbD i = a.testBit i
  simp only [BitVec.getLsbD_ofNat, hi, decide_true, Bool.true_and]
theorem i32_0 {x : Int32} : x = 0 ↔ ∀ i, i < 32 → x.toBitVec.getLsbD i = false := by
  constructor
  · rintro rfl i hi
    exact BitVec.getLsbD_zero
  · intro h
    apply Int32.toBitVec_inj.1
    apply BitVec.eq_of_getLsbD_eq
    intro i hi
    rw [h i hi]
    exact BitVec.getLsbD_zero.symm
theorem andN_bit (a b i : Nat) (hi : i < 32) : (andN a b).toBitVec.getLsbD i = (a.testBit i && !b.testBit i) := by
  unfold andN
  show ((BitVec.ofNat 32 a) &&& (BitVec.ofNat 32 b ^^^ (-1 : Int32).toBitVec)).getLsbD i = _
  rw [show (-1 : Int32).toBitVec = BitVec.allOnes 32 from by decide]
  simp only [BitVec.getLsbD_and, BitVec.getLsbD_xor, BitVec.getLsbD_ofNat, BitVec.getLsbD_allOnes, hi, decide_true, Bool.true_and]
  cases a.testBit i <;> cases b.testBit i <;> rfl
theorem andN_of {a b : Nat} (h : sB a b) : andN a b = 0 := by
  rw [i32_0]
  intro i hi
  rw [andN_bit a b i hi]
  cases ha : a.testBit i with
  | false => rfl
  | true => rw [h i ha]; rfl
theorem andN_to {a b : Nat} (ha : a ≤ 65535) (h : andN a b = 0) : sB a b := by
  intro i hi
  have h32 : i < 32 := by
    rcases Nat.lt_or_ge i 32 with q | q
    · exact q
    · have := Nat.testBit_lt_two_pow (x := a) (i := i) (Nat.lt_of_lt_of_le (show a < 2 ^ 32 by omega) (Nat.pow_le_pow_right (by decide) q))
      rw [this] at hi; cases hi
  have h2 := (i32_0.1 h) i h32
  rw [andN_bit a b i h32, hi] at h2
  cases hb : b.testBit i with
  | true => rfl
  | false => rw [hb] at h2; cases h2
theorem and_sub {a b : Nat} (h : sB b a) : a &&& b = b := by
  apply Nat.eq_of_testBit_eq
  intro i
  rw [Nat.testBit_and]
  cases hb : b.testBit i with
  | false => rw [Bool.and_false]
  | true => rw [h i hb]; rfl
/-- what is learned now was learned before, or told by the text -/
theorem and3_of {n l f : Nat} (h : ∀ i, n.testBit i = true → l.testBit i = true ∨ f.testBit i = true) : nI n &&& (nI l ^^^ (-1)) &&& (nI f ^^^ (-1)) = 0 := by
  rw [i32_0]
  intro i hi
  show ((BitVec.ofNat 32 n) &&& (BitVec.ofNat 32 l ^^^ (-1 : Int32).toBitVec) &&& (BitVec.ofNat 32 f ^^^ (-1 : Int32).toBitVec)).getLsbD i = _
  rw [show (-1 : Int32).toBitVec = BitVec.allOnes 32 from by decide]
  simp only [BitVec.getLsbD_and, BitVec.getLsbD_xor, BitVec.getLsbD_ofNat, BitVec.getLsbD_allOnes, hi, decide_true, Bool.true_and]
  cases hn : n.testBit i with
  | false => rfl
  | true =>
    rcases h i hn with q | q
    · rw [q]; cases f.testBit i <;> rfl
    · rw [q]; cases l.testBit i <;> rfl
/-- what a round learns is met, and a fact -/
theorem round_0 {r a m : Nat} (h1 : sB r m) (h2 : sB r a) : nI r &&& (andN a m ||| (nI a ^^^ (-1))) = 0 := by
  unfold andN
  rw [i32_0]
  intro i hi
  show ((BitVec.ofNat 32 r) &&& (((BitVec.ofNat 32 a) &&& (BitVec.ofNat 32 m ^^^ (-1 : Int32).toBitVec)) ||| (BitVec.ofNat 32 a ^^^ (-1 : Int32).toBitVec))).getLsbD i = _
  rw [show (-1 : Int32).toBitVec = BitVec.allOnes 32 from by decide]
  simp only [BitVec.getLsbD_and, BitVec.getLsbD_or, BitVec.getLsbD_xor, BitVec.getLsbD_ofNat, BitVec.getLsbD_allOnes, hi, decide_true, Bool.true_and]
  cases hr : r.testBit i with
  | false => rfl
  | true => rw [h1 i hr, h2 i hr]; rfl
/-- a fact that is new over more is new over less -/
theorem andN_mono {f a b : Nat} (hf : f ≤ 65535) (h : sB a b) (hn : ¬ andN f b = 0) : ¬ andN f a = 0 := fun q => hn (andN_of (sB_tr (andN_to hf q) h))
theorem nI_ge5 {n : Nat} (h : n < 2147483648) : ¬ nI n < (-5 : Int32) := by
  intro q
  rw [Int32.lt_iff_toInt_lt, nI_toInt (by omega), show (-5 : Int32).toInt = -5 from by decide] at q
  omega
theorem sub_ge5 {a b : Nat} (h : b ≤ a) (ha : a ≤ 16) : ¬ nI a - nI b < (-5 : Int32) := by
  rw [pk_sub h]
  exact nI_ge5 (by omega)
theorem sub_bk (x y : Int32) : x = y + (x - y) := by rw [Int32.add_comm, Int32.sub_add_cancel]
