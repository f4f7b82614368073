/-! what the pad says: signs, numbers, letters, entries, as functions of the pad's row, its length and a place -/
def i2n (x : Int32) : Nat := x.toBitVec.toNat
theorem nI_i2n (x : Int32) : x = nI (i2n x) := by
  apply Int32.toBitVec_inj.1
  show x.toBitVec = BitVec.ofNat 32 x.toBitVec.toNat
  simp
abbrev sgQ (pd : Nat → Nat) (n lo hi p : Nat) : Prop := p < n ∧ lo ≤ pd p ∧ pd p ≤ hi
def dgF (pd : Nat → Nat) (n hi : Nat) : Nat → Nat → Nat → Nat × Nat
  | 0, v, p => (v, p)
  | f + 1, v, p => if 0 < v ∧ sgQ pd n 48 57 p ∧ 10 * v + pd p - 48 ≤ hi then dgF pd n hi f (10 * v + pd p - 48) (p + 1) else (v, p)
def dgP (pd : Nat → Nat) (n hi v p : Nat) : Nat × Nat := dgF pd n hi (n - p) v p
theorem dgP_y {pd : Nat → Nat} {n hi v p : Nat} (h : 0 < v ∧ sgQ pd n 48 57 p ∧ 10 * v + pd p - 48 ≤ hi) : dgP pd n hi v p = dgP pd n hi (10 * v + pd p - 48) (p + 1) := by
  unfold dgP
  have h1 := h.2.1.1
  rw [show n - p = (n - (p + 1)) + 1 from by omega]
  exact if_pos h
theorem dgP_n {pd : Nat → Nat} {n hi v p : Nat} (h : ¬ (0 < v ∧ sgQ pd n 48 57 p ∧ 10 * v + pd p - 48 ≤ hi)) : dgP pd n hi v p = (v, p) := by
  unfold dgP
  cases n - p with
  | zero => rfl
  | succ f => exact if_neg h
theorem dgF_le {pd : Nat → Nat} {n hi : Nat} : ∀ (f v p : Nat), v ≤ hi → p ≤ n → (dgF pd n hi f v p).1 ≤ hi ∧ (dgF pd n hi f v p).2 ≤ n ∧ p ≤ (dgF pd n hi f v p).2
  | 0, v, p, h1, h2 => ⟨h1, h2, Nat.le_refl _⟩
  | f + 1, v, p, h1, h2 => by
    by_cases h : 0 < v ∧ sgQ pd n 48 57 p ∧ 10 * v + pd p - 48 ≤ hi
    · have e : dgF pd n hi (f + 1) v p = dgF pd n hi f (10 * v + pd p - 48) (p + 1) := if_pos h
      rw [e]
      have h3 := h.2.1.1
      obtain ⟨g1, g2, g3⟩ := dgF_le (pd := pd) (n := n) (hi := hi) f (10 * v + pd p - 48) (p + 1) h.2.2 (by omega)
      exact ⟨g1, g2, by omega⟩
    · have e : dgF pd n hi (f + 1) v p = (v, p) := if_neg h
      rw [e]
      exact ⟨h1, h2, Nat.le_refl _⟩
theorem dgP_le {pd : Nat → Nat} {n hi v p : Nat} (h1 : v ≤ hi) (h2 : p ≤ n) : (dgP pd n hi v p).1 ≤ hi ∧ (dgP pd n hi v p).2 ≤ n ∧ p ≤ (dgP pd n hi v p).2 := dgF_le _ v p h1 h2
def ltF (pd : Nat → Nat) (n : Nat) : Nat → Nat → Nat → Nat → Nat × Nat
  | 0, a, x, p => (a, p)
  | f + 1, a, x, p => if sgQ pd n x 112 p then ltF pd n f (a ||| 2 ^ (pd p - 97)) (pd p + 1) (p + 1) else (a, p)
def ltP (pd : Nat → Nat) (n a x p : Nat) : Nat × Nat := ltF pd n (n - p) a x p
theorem ltP_y {pd : Nat → Nat} {n a x p : Nat} (h : sgQ pd n x 112 p) : ltP pd n a x p = ltP pd n (a ||| 2 ^ (pd p - 97)) (pd p + 1) (p + 1) := by
  unfold ltP
  have h1 := h.1
  rw [show n - p = (n - (p + 1)) + 1 from by omega]
  exact if_pos h
theorem ltP_n {pd : Nat → Nat} {n a x p : Nat} (h : ¬ sgQ pd n x 112 p) : ltP pd n a x p = (a, p) := by
  unfold ltP
  cases n - p with
  | zero => rfl
  | succ f => exact if_neg h
theorem pow_le16 {k : Nat} (h : k ≤ 15) : 2 ^ k ≤ 65535 := by
  have h1 : 2 ^ k ≤ 2 ^ 15 := Nat.pow_le_pow_right (by decide) h
  have h2 : 2 ^ 15 = 32768 := by decide
  omega
theorem ltF_le {pd : Nat → Nat} {n : Nat} : ∀ (f a x p : Nat), a ≤ 65535 → 97 ≤ x → p ≤ n → (ltF pd n f a x p).1 ≤ 65535 ∧ (ltF pd n f a x p).2 ≤ n ∧ p ≤ (ltF pd n f a x p).2
  | 0, a, x, p, h1, _, h2 => ⟨h1, h2, Nat.le_refl _⟩
  | f + 1, a, x, p, h1, hx, h2 => by
    by_cases h : sgQ pd n x 112 p
    · have e : ltF pd n (f + 1) a x p = ltF pd n f (a ||| 2 ^ (pd p - 97)) (pd p + 1) (p + 1) := if_pos h
      rw [e]
      obtain ⟨h3, h4, h5⟩ := h
      obtain ⟨g1, g2, g3⟩ := ltF_le (pd := pd) (n := n) f (a ||| 2 ^ (pd p - 97)) (pd p + 1) (p + 1) (or_le h1 (pow_le16 (by omega))) (by omega) (by omega)
      exact ⟨g1, g2, by omega⟩
    · have e : ltF pd n (f + 1) a x p = (a, p) := if_neg h
      rw [e]
      exact ⟨h1, h2, Nat.le_refl _⟩
theorem ltP_le {pd : Nat → Nat} {n p : Nat} (h : p ≤ n) : (ltP pd n 0 97 p).1 ≤ 65535 ∧ (ltP pd n 0 97 p).2 ≤ n ∧ p ≤ (ltP pd n 0 97 p).2 := ltF_le _ 0 97 p (by omega) (by omega) h
/-- an entry: whether it is one of a caption, the exhibit, its numbers, its facts; and the place behind it -/
abbrev EntT : Type := Nat × Nat × Nat × Nat × Nat × Nat
abbrev EntR : Type := Nat ⊕ (EntT × Nat)
def entC2 (pd : Nat → Nat) (n e t : Nat) (d : Nat × Nat) : EntR := if sgQ pd n 61 61 d.2 then .inr ((1, e, t, d.1, 0, (ltP pd n 0 97 (d.2 + 1)).1), (ltP pd n 0 97 (d.2 + 1)).2) else .inl d.2
def entC (pd : Nat → Nat) (n e p : Nat) : EntR := if sgQ pd n 48 52 p then (if sgQ pd n 43 43 (p + 1) then (if sgQ pd n 49 57 (p + 2) then entC2 pd n e (pd p - 48) (dgP pd n 30 (pd (p + 2) - 48) (p + 3)) else .inl (p + 2)) else .inl (p + 1)) else .inl p
def entT5 (e w s z : Nat) (f : Nat × Nat) : EntR := if f.1 = 0 then .inl f.2 else .inr ((0, e, w, s, z, f.1), f.2)
def entT4 (pd : Nat → Nat) (n e w s : Nat) (c : Nat × Nat) : EntR := if sgQ pd n 61 61 c.2 then entT5 e w s c.1 (ltP pd n 0 97 (c.2 + 1)) else .inl c.2
def entT3 (pd : Nat → Nat) (n e w : Nat) (b : Nat × Nat) : EntR := if sgQ pd n 47 47 b.2 then (if sgQ pd n 48 57 (b.2 + 1) then entT4 pd n e w b.1 (dgP pd n 999 (pd (b.2 + 1) - 48) (b.2 + 2)) else .inl (b.2 + 1)) else .inl b.2
def entT2 (pd : Nat → Nat) (n e : Nat) (a : Nat × Nat) : EntR := if sgQ pd n 47 47 a.2 then (if sgQ pd n 48 57 (a.2 + 1) then entT3 pd n e a.1 (dgP pd n 999 (pd (a.2 + 1) - 48) (a.2 + 2)) else .inl (a.2 + 1)) else .inl a.2
def entT1 (pd : Nat → Nat) (n e p : Nat) : EntR := if sgQ pd n 48 57 p then entT2 pd n e (dgP pd n 999 (pd p - 48) (p + 1)) else .inl p
def entF (pd : Nat → Nat) (n p : Nat) : EntR := if sgQ pd n 48 55 p then (if sgQ pd n 46 46 (p + 1) then entC pd n (pd p - 48) (p + 2) else if sgQ pd n 58 58 (p + 1) then entT1 pd n (pd p - 48) (p + 2) else .inl (p + 1)) else .inl p
/-- the fault of a pad from an entry's place on; none -/
def padF (pd : Nat → Nat) (n : Nat) : Nat → Nat → Option Nat
  | 0, p => some p
  | f + 1, p => match entF pd n p with
    | .inl q => some q
    | .inr (_, q) => if q < n then (if sgQ pd n 59 59 q then padF pd n f (q + 1) else some q) else none
theorem zA_shl1 : ∀ k : Nat, k < 16 → nI 1 <<< (nI k &&& 31) = nI (2 ^ k) := by decide +kernel
