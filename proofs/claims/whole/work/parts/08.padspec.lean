/-! what the pad says: signs, numbers, letters, entries, as functions of the pad's row, its length and a place -/
def i2n (x : Int32) : Nat := x.toBitVec.toNat
theorem nI_i2n (x : Int32) : x = nI (i2n x) := by
  apply Int32.toBitVec_inj.1
  show x.toBitVec = BitVec.ofNat 32 x.toBitVec.toNat
  simp
abbrev sgQ (pd : Nat → Nat) (n lo hi p : Nat) : Prop := p < n ∧ lo ≤ pd p ∧ pd p ≤ hi
def dgF (pd : Nat → Nat) (n hi : Nat) : Nat → Nat → Nat → Nat × Nat
  | 0, v, p => (v, p)
  | f + 1, v, p => if 0 < v ∧ sgQ pd n 48 57 p ∧ 10 * v + pd p - 48 ≤ hi then dgF pd n hi f (10 * v + pd p - 48) (p + 1) else (v, p)
def dgP (pd : Nat → Nat) (n hi v p : Nat) : Nat × Nat := dgF pd n hi (n - p) v p
theorem dgP_y {pd : Nat → Nat} {n hi v p : Nat} (h : 0 < v ∧ sgQ pd n 48 57 p ∧ 10 * v + pd p - 48 ≤ hi) : dgP pd n hi v p = dgP pd n hi (10 * v + pd p - 48) (p + 1) := by
  unfold dgP
  have h1 := h.2.1.1
  rw [show n - p = (n - (p + 1)) + 1 from by omega]
  exact if_pos h
theorem dgP_n {pd : Nat → Nat} {n hi v p : Nat} (h : ¬ (0 < v ∧ sgQ pd n 48 57 p ∧ 10 * v + pd p - 48 ≤ hi)) : dgP pd n hi v p = (v, p) := by
  unfold dgP
  cases n - p with
  | zero => rfl
  | succ f => exact if_neg h
theorem dgF_le {pd : Nat → Nat} {n hi : Nat} : ∀ (f v p : Nat), v ≤ hi → p ≤ n → (dgF pd n hi f v p).1 ≤ hi ∧ (dgF pd n hi f v p).2 ≤ n ∧ p ≤ (dgF pd n hi f v p).2
  | 0, v, p, h1, h2 => ⟨h1, h2, Nat.le_refl _⟩
  | f + 1, v, p, h1, h2 => by
    by_cases h : 0 < v ∧ sgQ pd n 48 57 p ∧ 10 * v + pd p - 48 ≤ hi
    · have e : dgF pd n hi (f + 1) v p = dgF pd n hi f (10 * v + pd p - 48) (p + 1) := if_pos h
      rw [e]
      have h3 := h.2.1.1
      obtain ⟨g1, g2, g3⟩ := dgF_le (pd := pd) (n := n) (hi := hi) f (10 * v + pd p - 48) (p + 1) h.2.2 (by omega)
      exact ⟨g1, g2, by omega⟩
    · have e : dgF pd n hi (f + 1) v p = (v, p) := if_neg h
      rw [e]
      exact ⟨h1, h2, Nat.le_refl _⟩
theorem dgP_le {pd : Nat → Nat} {n hi v p : Nat} (h1 : v ≤ hi) (h2 : p ≤ n) : (dgP pd n hi v p).1 ≤ hi ∧ (dgP pd n hi v p).2 ≤ n ∧ p ≤ (dgP pd n hi v p).2 := dgF_le _ v p h1 h2
def ltF (pd : Nat → Nat) (n : Nat) : Nat → Nat → Nat → Nat → Nat × Nat
  | 0, a, x, p => (a, p)
  | f + 1, a, x, p => if sgQ pd n x 112 p then ltF pd n f (a ||| 2 ^ (pd p - 97)) (pd p + 1) (p + 1) else (a, p)
def ltP (pd : Nat → Nat) (n a x p : Nat) : Nat × Nat := ltF pd n (n - p) a x p
theorem ltP_y {pd : Nat → Nat} {n a x p : Nat} (h : sgQ pd n x 112 p) : ltP pd n a x p = ltP pd n (a ||| 2 ^ (pd p - 97)) (pd p + 1) (p + 1) := by
  unfold ltP
  have h1 := h.1
  rw [show n - p = (n - (p + 1)) + 1 from by omega]
  exact if_pos h
theorem ltP_n {pd : Nat → Nat} {n a x p : Nat} (h : ¬ sgQ pd n x 112 p) : ltP pd n a x p = (a, p) := by
  unfold ltP
  cases n - p with
  | zero => rfl
  | succ f => exact if_neg h
theorem pow_le16 {k : Nat} (h : k ≤ 15) : 2 ^ k ≤ 65535 := by
  have h1 : 2 ^ k ≤ 2 ^ 15 := Nat.pow_le_pow_right (by decide) h
  have h2 : 2 ^ 15 = 32768 := by decide
  omega
theorem ltF_le {pd : Nat → Nat} {n : Nat} : ∀ (f a x p : Nat), a ≤ 65535 → 97 ≤ x → p ≤ n → (ltF pd n f a x p).1 ≤ 65535 ∧ (ltF pd n f a x p).2 ≤ n ∧ p ≤ (ltF pd n f a x p).2
  | 0, a, x, p, h1, _, h2 => ⟨h1, h2, Nat.le_refl _⟩
  | f + 1, a, x, p, h1, hx, h2 => by
    by_cases h : sgQ pd n x 112 p
    · have e : ltF pd n (f + 1) a x p = ltF pd n f (a ||| 2 ^ (pd p - 97)) (pd p + 1) (p + 1) := if_pos h
      rw [e]
      obtain ⟨h3, h4, h5⟩ := h
      obtain ⟨g1, g2, g3⟩ := ltF_le (pd := pd) (n := n) f (a ||| 2 ^ (pd p - 97)) (pd p + 1) (p + 1) (or_le h1 (pow_le16 (by omega))) (by omega) (by omega)
      exact ⟨g1, g2, by omega⟩
    · have e : ltF pd n (f + 1) a x p = (a, p) := if_neg h
      rw [e]
      exact ⟨h1, h2, Nat.le_refl _⟩
theorem ltP_le {pd : Nat → Nat} {n p : Nat} (h : p ≤ n) : (ltP pd n 0 97 p).1 ≤ 65535 ∧ (ltP pd n 0 97 p).2 ≤ n ∧ p ≤ (ltP pd n 0 97 p).2 := ltF_le _ 0 97 p (by omega) (by omega) h
/-- an entry: whether it is one of a caption, the exhibit, its numbers, its facts; and the place behind it -/
abbrev EntT : Type := Nat × Nat × Nat × Nat × Nat × Nat
abbrev EntR : Type := Nat ⊕ (EntT × Nat)
def entC2 (pd : Nat → Nat) (n e t : Nat) (d : Nat × Nat) : EntR := if sgQ pd n 61 61 d.2 then .inr ((1, e, t, d.1, 0, (ltP pd n 0 97 (d.2 + 1)).1), (ltP pd n 0 97 (d.2 + 1)).2) else .inl d.2
def entC (pd : Nat → Nat) (n e p : Nat) : EntR := if sgQ pd n 48 52 p then (if sgQ pd n 43 43 (p + 1) then (if sgQ pd n 49 57 (p + 2) then entC2 pd n e (pd p - 48) (dgP pd n 30 (pd (p + 2) - 48) (p + 3)) else .inl (p + 2)) else .inl (p + 1)) else .inl p
def entT5 (e w s z : Nat) (f : Nat × Nat) : EntR := if f.1 = 0 then .inl f.2 else .inr ((0, e, w, s, z, f.1), f.2)
def entT4 (pd : Nat → Nat) (n e w s : Nat) (c : Nat × Nat) : EntR := if sgQ pd n 61 61 c.2 then entT5 e w s c.1 (ltP pd n 0 97 (c.2 + 1)) else .inl c.2
def entT3 (pd : Nat → Nat) (n e w : Nat) (b : Nat × Nat) : EntR := if sgQ pd n 47 47 b.2 then (if sgQ pd n 48 57 (b.2 + 1) then entT4 pd n e w b.1 (dgP pd n 999 (pd (b.2 + 1) - 48) (b.2 + 2)) else .inl (b.2 + 1)) else .inl b.2
def entT2 (pd : Nat → Nat) (n e : Nat) (a : Nat × Nat) : EntR := if sgQ pd n 47 47 a.2 then (if sgQ pd n 48 57 (a.2 + 1) then entT3 pd n e a.1 (dgP pd n 999 (pd (a.2 + 1) - 48) (a.2 + 2)) else .inl (a.2 + 1)) else .inl a.2
def entT1 (pd : Nat → Nat) (n e p : Nat) : EntR := if sgQ pd n 48 57 p then entT2 pd n e (dgP pd n 999 (pd p - 48) (p + 1)) else .inl p
def entF (pd : Nat → Nat) (n p : Nat) : EntR := if sgQ pd n 48 55 p then (if sgQ pd n 46 46 (p + 1) then entC pd n (pd p - 48) (p + 2) else if sgQ pd n 58 58 (p + 1) then entT1 pd n (pd p - 48) (p + 2) else .inl (p + 1)) else .inl p
/-- the fault of a pad from an entry's place on; none -/
def padF (pd : Nat → Nat) (n : Nat) : Nat → Nat → Option Nat
  | 0, p => some p
  | f + 1, p => match entF pd n p with
    | .inl q => some q
    | .inr (_, q) => if q < n then (if sgQ pd n 59 59 q then padF pd n f (q + 1) else some q) else none
theorem padF_go {pd : Nat → Nat} {n f p q : Nat} {i : EntT} (h : entF pd n p = .inr (i, q)) (h1 : q < n) (h2 : sgQ pd n 59 59 q) : padF pd n (f + 1) p = padF pd n f (q + 1) := by
  show (match entF pd n p with | .inl q => some q | .inr (_, q) => if q < n then (if sgQ pd n 59 59 q then padF pd n f (q + 1) else some q) else none) = _
  rw [h]
  exact (if_pos h1).trans (if_pos h2)
theorem padF_end {pd : Nat → Nat} {n f p q : Nat} {i : EntT} (h : entF pd n p = .inr (i, q)) (h1 : ¬ q < n) : padF pd n (f + 1) p = none := by
  show (match entF pd n p with | .inl q => some q | .inr (_, q) => if q < n then (if sgQ pd n 59 59 q then padF pd n f (q + 1) else some q) else none) = _
  rw [h]
  exact if_neg h1
theorem padF_bad1 {pd : Nat → Nat} {n f p q : Nat} (h : entF pd n p = .inl q) : padF pd n (f + 1) p = some q := by
  show (match entF pd n p with | .inl q => some q | .inr (_, q) => if q < n then (if sgQ pd n 59 59 q then padF pd n f (q + 1) else some q) else none) = _
  rw [h]
theorem padF_bad2 {pd : Nat → Nat} {n f p q : Nat} {i : EntT} (h : entF pd n p = .inr (i, q)) (h1 : q < n) (h2 : ¬ sgQ pd n 59 59 q) : padF pd n (f + 1) p = some q := by
  show (match entF pd n p with | .inl q => some q | .inr (_, q) => if q < n then (if sgQ pd n 59 59 q then padF pd n f (q + 1) else some q) else none) = _
  rw [h]
  exact (if_pos h1).trans (if_neg h2)
theorem ltF_ge {pd : Nat → Nat} {n : Nat} : ∀ (f a x p : Nat), a ≤ (ltF pd n f a x p).1
  | 0, a, x, p => Nat.le_refl _
  | f + 1, a, x, p => by
    by_cases h : sgQ pd n x 112 p
    · have e : ltF pd n (f + 1) a x p = ltF pd n f (a ||| 2 ^ (pd p - 97)) (pd p + 1) (p + 1) := if_pos h
      rw [e]
      exact Nat.le_trans Nat.left_le_or (ltF_ge f _ _ _)
    · have e : ltF pd n (f + 1) a x p = (a, p) := if_neg h
      rw [e]
      exact Nat.le_refl _
theorem ltP_0 {pd : Nat → Nat} {n p : Nat} (h : (ltP pd n 0 97 p).1 = 0) : ¬ sgQ pd n 97 112 (ltP pd n 0 97 p).2 := by
  by_cases h2 : sgQ pd n 97 112 p
  · exfalso
    rw [ltP_y h2] at h
    have h3 := ltF_ge (pd := pd) (n := n) (n - (p + 1)) (0 ||| 2 ^ (pd p - 97)) (pd p + 1) (p + 1)
    have h4 : 0 < 2 ^ (pd p - 97) := Nat.pow_pos (by decide)
    have h5 : 0 ||| 2 ^ (pd p - 97) = 2 ^ (pd p - 97) := Nat.zero_or _
    unfold ltP at h
    omega
  · rw [ltP_n h2]
    exact h2
/-- what a text's, a caption's entry meets: why it is refused (0: it isn't), and what it does -/
def tFl (sz : Nat → Nat) (e w s z f : Nat) : Int32 := if ¬ ((1 ≤ w ∧ w ≤ 300) ∧ (1 ≤ s ∧ s ≤ 50 ∧ s ≤ w) ∧ z ≤ w ∧ 1 ≤ f ∧ f ≤ 65535) then -2 else if sz e = 5 then -3 else 0
def cFl (sz : Nat → Nat) (fa ca : Nat → Nat → Nat) (e t w f : Nat) : Int32 := if ¬ t < sz e then -1 else if ¬ ((1 ≤ w ∧ w ≤ 30) ∧ f ≤ 65535) then -2 else if ¬ andN f (fa e t) = 0 then -4 else if ca e t = 3 then -3 else 0
def eFl (sz : Nat → Nat) (fa ca : Nat → Nat → Nat) (i : EntT) : Int32 := if i.1 = 1 then cFl sz fa ca i.2.1 i.2.2.1 i.2.2.2.1 i.2.2.2.2.2 else tFl sz i.2.1 i.2.2.1 i.2.2.2.1 i.2.2.2.2.1 i.2.2.2.2.2
abbrev eFs (sg : Nat → Nat) (i : EntT) : Int32 := eFl (szF sg) (atF sg 3) (atF sg 5) i
def eAd (sg : Nat → Nat) (i : EntT) : Nat → Nat := if i.1 = 1 then addC sg i.2.1 i.2.2.1 i.2.2.2.1 i.2.2.2.2.2 else addT sg i.2.1 i.2.2.1 i.2.2.2.1 i.2.2.2.2.1 i.2.2.2.2.2
/-- the entries done one after the other: the refusal (0: none), how many were done, the row -/
def doF (pd : Nat → Nat) (n : Nat) : Nat → Nat → (Nat → Nat) → Nat → Int32 × Nat × (Nat → Nat)
  | 0, _, sg, m => (0, m, sg)
  | f + 1, p, sg, m => match entF pd n p with
    | .inl _ => (0, m, sg)
    | .inr (i, q) => if eFs sg i = 0 then (if q < n then doF pd n f (q + 1) (eAd sg i) (m + 1) else (0, m + 1, eAd sg i)) else (eFs sg i, m, sg)
theorem doF_go {pd sg : Nat → Nat} {n f p q m : Nat} {i : EntT} (h : entF pd n p = .inr (i, q)) (h1 : eFs sg i = 0) (h2 : q < n) : doF pd n (f + 1) p sg m = doF pd n f (q + 1) (eAd sg i) (m + 1) := by
  show (match entF pd n p with | .inl _ => (0, m, sg) | .inr (i, q) => if eFs sg i = 0 then (if q < n then doF pd n f (q + 1) (eAd sg i) (m + 1) else (0, m + 1, eAd sg i)) else (eFs sg i, m, sg)) = _
  rw [h]
  exact (if_pos h1).trans (if_pos h2)
theorem doF_end {pd sg : Nat → Nat} {n f p q m : Nat} {i : EntT} (h : entF pd n p = .inr (i, q)) (h1 : eFs sg i = 0) (h2 : ¬ q < n) : doF pd n (f + 1) p sg m = (0, m + 1, eAd sg i) := by
  show (match entF pd n p with | .inl _ => (0, m, sg) | .inr (i, q) => if eFs sg i = 0 then (if q < n then doF pd n f (q + 1) (eAd sg i) (m + 1) else (0, m + 1, eAd sg i)) else (eFs sg i, m, sg)) = _
  rw [h]
  exact (if_pos h1).trans (if_neg h2)
theorem doF_stop {pd sg : Nat → Nat} {n f p q m : Nat} {i : EntT} (h : entF pd n p = .inr (i, q)) (h1 : ¬ eFs sg i = 0) : doF pd n (f + 1) p sg m = (eFs sg i, m, sg) := by
  show (match entF pd n p with | .inl _ => (0, m, sg) | .inr (i, q) => if eFs sg i = 0 then (if q < n then doF pd n f (q + 1) (eAd sg i) (m + 1) else (0, m + 1, eAd sg i)) else (eFs sg i, m, sg)) = _
  rw [h]
  exact if_neg h1
theorem tFl_0 {sz : Nat → Nat} {e w s z f : Nat} (h : tFl sz e w s z f = 0) : ((1 ≤ w ∧ w ≤ 300) ∧ (1 ≤ s ∧ s ≤ 50 ∧ s ≤ w) ∧ z ≤ w ∧ 1 ≤ f ∧ f ≤ 65535) ∧ sz e ≠ 5 := by
  unfold tFl at h
  by_cases h1 : ((1 ≤ w ∧ w ≤ 300) ∧ (1 ≤ s ∧ s ≤ 50 ∧ s ≤ w) ∧ z ≤ w ∧ 1 ≤ f ∧ f ≤ 65535)
  · rw [if_neg (fun q => q h1)] at h
    by_cases h2 : sz e = 5
    · rw [if_pos h2] at h; exact absurd h (by decide)
    · exact ⟨h1, h2⟩
  · rw [if_pos h1] at h; exact absurd h (by decide)
theorem cFl_0 {sz : Nat → Nat} {fa ca : Nat → Nat → Nat} {e t w f : Nat} (h : cFl sz fa ca e t w f = 0) : t < sz e ∧ ((1 ≤ w ∧ w ≤ 30) ∧ f ≤ 65535) ∧ andN f (fa e t) = 0 ∧ ca e t ≠ 3 := by
  unfold cFl at h
  by_cases h1 : t < sz e
  · rw [if_neg (fun q => q h1)] at h
    by_cases h2 : (1 ≤ w ∧ w ≤ 30) ∧ f ≤ 65535
    · rw [if_neg (fun q => q h2)] at h
      by_cases h3 : andN f (fa e t) = 0
      · rw [if_neg (fun q => q h3)] at h
        by_cases h4 : ca e t = 3
        · rw [if_pos h4] at h; exact absurd h (by decide)
        · exact ⟨h1, h2, h3, h4⟩
      · rw [if_pos h3] at h; exact absurd h (by decide)
    · rw [if_pos h2] at h; exact absurd h (by decide)
  · rw [if_pos h1] at h; exact absurd h (by decide)
theorem tFl_of {sg : Nat → Nat} {e w s z f : Nat} {r : Int32} (he : e < 8) (hb : w ≤ 999 ∧ s ≤ 999 ∧ z ≤ 999 ∧ f ≤ 65535)
    (h : ((¬ pE (nI e)) ∧ r = (-1)) ∨ (∃ (eX : Nat), eX < 8 ∧ nI e = nI eX ∧ ¬ pTx (nI w) (nI s) (nI z) (nI f) ∧ r = (-2)) ∨ (∃ (eX : Nat) (wX : Nat) (sX : Nat) (zX : Nat) (fX : Nat), eX < 8 ∧ nI e = nI eX ∧ 1 ≤ wX ∧ wX ≤ 300 ∧ 1 ≤ sX ∧ sX ≤ 50 ∧ sX ≤ wX ∧ zX ≤ wX ∧ 1 ≤ fX ∧ fX ≤ 65535 ∧ nI w = nI wX ∧ nI s = nI sX ∧ nI z = nI zX ∧ nI f = nI fX ∧ sg (10 + 76 * eX) = 5 ∧ r = (-3)) ∨ (∃ (eX : Nat) (wX : Nat) (sX : Nat) (zX : Nat) (fX : Nat), eX < 8 ∧ nI e = nI eX ∧ 1 ≤ wX ∧ wX ≤ 300 ∧ 1 ≤ sX ∧ sX ≤ 50 ∧ sX ≤ wX ∧ zX ≤ wX ∧ 1 ≤ fX ∧ fX ≤ 65535 ∧ nI w = nI wX ∧ nI s = nI sX ∧ nI z = nI zX ∧ nI f = nI fX ∧ sg (10 + 76 * eX) < 5 ∧ r = nI 0)) :
    (tFl (szF sg) e w s z f = 0 ∧ r = nI 0) ∨ (¬ tFl (szF sg) e w s z f = 0 ∧ r = tFl (szF sg) e w s z f) := by
  rcases h with ⟨h1, -⟩ | ⟨eX, h1, h2, h3, rfl⟩ | ⟨eX, wX, sX, zX, fX, h1, h2, g1, g2, g3, g4, g5, g6, g7, g8, e1, e2, e3, e4, h3, rfl⟩ | ⟨eX, wX, sX, zX, fX, h1, h2, g1, g2, g3, g4, g5, g6, g7, g8, e1, e2, e3, e4, h3, rfl⟩
  · exact absurd ⟨e, he, rfl⟩ h1
  · have hT : tFl (szF sg) e w s z f = -2 := if_pos (fun q => h3 ⟨w, s, z, f, q.1, q.2.1, q.2.2.1, q.2.2.2, rfl, rfl, rfl, rfl⟩)
    exact Or.inr ⟨by rw [hT]; decide, hT.symm⟩
  all_goals
    have i0 := nI_inj (by omega) (by omega) h2
    have i1 := nI_inj (by omega) (by omega) e1
    have i2 := nI_inj (by omega) (by omega) e2
    have i3 := nI_inj (by omega) (by omega) e3
    have i4 := nI_inj (by omega) (by omega) e4
    subst i0 i1 i2 i3 i4
  · have hT : tFl (szF sg) e w s z f = -3 := (if_neg (fun q => q ⟨⟨g1, g2⟩, ⟨g3, g4, g5⟩, g6, g7, g8⟩)).trans (if_pos h3)
    exact Or.inr ⟨by rw [hT]; decide, hT.symm⟩
  · have hT : tFl (szF sg) e w s z f = 0 := (if_neg (fun q => q ⟨⟨g1, g2⟩, ⟨g3, g4, g5⟩, g6, g7, g8⟩)).trans (if_neg (by show ¬ sg (10 + 76 * e) = 5; omega))
    exact Or.inl ⟨hT, rfl⟩
theorem cFl_of {sg : Nat → Nat} {e t w f : Nat} {r : Int32} (he : e < 8) (hz : ∀ e, e < 8 → sg (10 + 76 * e) ≤ 5) (hb : t ≤ 999 ∧ w ≤ 999 ∧ f ≤ 65535)
    (h : ((¬ pTn (fun e => sg (10 + 76 * e)) (nI e) (nI t)) ∧ r = (-1)) ∨ (∃ (eX : Nat) (tX : Nat), eX < 8 ∧ tX < sg (10 + 76 * eX) ∧ nI e = nI eX ∧ nI t = nI tX ∧ ¬ pCx (nI w) (nI f) ∧ r = (-2)) ∨ (∃ (eX : Nat) (tX : Nat) (wX : Nat) (fX : Nat), eX < 8 ∧ tX < sg (10 + 76 * eX) ∧ nI e = nI eX ∧ nI t = nI tX ∧ 1 ≤ wX ∧ wX ≤ 30 ∧ fX ≤ 65535 ∧ nI w = nI wX ∧ nI f = nI fX ∧ ¬ andN fX (sg (11 + 76 * eX + 15 * tX + 3)) = 0 ∧ r = (-4)) ∨ (∃ (eX : Nat) (tX : Nat) (wX : Nat) (fX : Nat), eX < 8 ∧ tX < sg (10 + 76 * eX) ∧ nI e = nI eX ∧ nI t = nI tX ∧ 1 ≤ wX ∧ wX ≤ 30 ∧ fX ≤ 65535 ∧ nI w = nI wX ∧ nI f = nI fX ∧ andN fX (sg (11 + 76 * eX + 15 * tX + 3)) = 0 ∧ sg (11 + 76 * eX + 15 * tX + 5) = 3 ∧ r = (-3)) ∨ (∃ (eX : Nat) (tX : Nat) (wX : Nat) (fX : Nat), eX < 8 ∧ tX < sg (10 + 76 * eX) ∧ nI e = nI eX ∧ nI t = nI tX ∧ 1 ≤ wX ∧ wX ≤ 30 ∧ fX ≤ 65535 ∧ nI w = nI wX ∧ nI f = nI fX ∧ andN fX (sg (11 + 76 * eX + 15 * tX + 3)) = 0 ∧ sg (11 + 76 * eX + 15 * tX + 5) < 3 ∧ r = nI 0)) :
    (cFl (szF sg) (atF sg 3) (atF sg 5) e t w f = 0 ∧ r = nI 0) ∨ (¬ cFl (szF sg) (atF sg 3) (atF sg 5) e t w f = 0 ∧ r = cFl (szF sg) (atF sg 3) (atF sg 5) e t w f) := by
  have hze := hz e he
  rcases h with ⟨h1, rfl⟩ | ⟨eX, tX, h1, h2, e0, e1, h3, rfl⟩ | ⟨eX, tX, wX, fX, h1, h2, e0, e1, g1, g2, g3, e2, e3, h3, rfl⟩ | ⟨eX, tX, wX, fX, h1, h2, e0, e1, g1, g2, g3, e2, e3, h3, h4, rfl⟩ | ⟨eX, tX, wX, fX, h1, h2, e0, e1, g1, g2, g3, e2, e3, h3, h4, rfl⟩
  · have hT : cFl (szF sg) (atF sg 3) (atF sg 5) e t w f = -1 := if_pos (fun q => h1 ⟨e, t, he, q, rfl, rfl⟩)
    exact Or.inr ⟨by rw [hT]; decide, hT.symm⟩
  all_goals
    have i0 := nI_inj (by omega) (by omega) e0
    have hzX := hz eX h1
    have i1 := nI_inj (by omega) (by omega) e1
    subst i0 i1
  · have hT : cFl (szF sg) (atF sg 3) (atF sg 5) e t w f = -2 := (if_neg (fun q => q h2)).trans (if_pos (fun q => h3 ⟨w, f, q.1, q.2, rfl, rfl⟩))
    exact Or.inr ⟨by rw [hT]; decide, hT.symm⟩
  all_goals
    have i2 := nI_inj (by omega) (by omega) e2
    have i3 := nI_inj (by omega) (by omega) e3
    subst i2 i3
  · have hT : cFl (szF sg) (atF sg 3) (atF sg 5) e t w f = -4 := (if_neg (fun q => q h2)).trans ((if_neg (fun q => q ⟨⟨g1, g2⟩, g3⟩)).trans (if_pos h3))
    exact Or.inr ⟨by rw [hT]; decide, hT.symm⟩
  · have hT : cFl (szF sg) (atF sg 3) (atF sg 5) e t w f = -3 := (if_neg (fun q => q h2)).trans ((if_neg (fun q => q ⟨⟨g1, g2⟩, g3⟩)).trans ((if_neg (fun q => q h3)).trans (if_pos h4)))
    exact Or.inr ⟨by rw [hT]; decide, hT.symm⟩
  · have hT : cFl (szF sg) (atF sg 3) (atF sg 5) e t w f = 0 := (if_neg (fun q => q h2)).trans ((if_neg (fun q => q ⟨⟨g1, g2⟩, g3⟩)).trans ((if_neg (fun q => q h3)).trans (if_neg (by show ¬ sg (11 + 76 * e + 15 * t + 5) = 3; omega))))
    exact Or.inl ⟨hT, rfl⟩
/-! a row behind an act is in order again -/
theorem ix_out {e n e2 t2 w : Nat} (hn : n < 5) (ht : t2 < 5) (hw : w < 15) (h : e2 ≠ e ∨ t2 ≠ n) : ¬ (11 + 76 * e + 15 * n ≤ 11 + 76 * e2 + 15 * t2 + w ∧ 11 + 76 * e2 + 15 * t2 + w < 11 + 76 * e + 15 * n + 15) := by
  rintro ⟨q1, q2⟩
  rcases Nat.lt_trichotomy e e2 with h1 | h1 | h1
  · have : 76 * e + 76 ≤ 76 * e2 := by omega
    omega
  · subst h1
    rcases Nat.lt_trichotomy t2 n with h2 | h2 | h2
    · omega
    · omega
    · omega
  · have : 76 * e2 + 76 ≤ 76 * e := by omega
    omega
theorem ix_mx {e e2 t2 w : Nat} (ht : t2 < 5) (hw : w < 15) : 11 + 76 * e2 + 15 * t2 + w ≠ 10 + 76 * e := by
  intro q
  rcases Nat.lt_trichotomy e e2 with h1 | h1 | h1
  · have : 76 * e + 76 ≤ 76 * e2 := by omega
    omega
  · subst h1; omega
  · have : 76 * e2 + 76 ≤ 76 * e := by omega
    omega
theorem mx_out {e n e2 w : Nat} (hn : n < 5) (hw : w ≤ 15) : ¬ (11 + 76 * e + 15 * n ≤ 10 + 76 * e2 ∧ 10 + 76 * e2 < 11 + 76 * e + 15 * n + w) := by
  rintro ⟨q1, q2⟩
  rcases Nat.lt_trichotomy e e2 with h1 | h1 | h1
  · have : 76 * e + 76 ≤ 76 * e2 := by omega
    omega
  · subst h1; omega
  · have : 76 * e2 + 76 ≤ 76 * e := by omega
    omega
theorem addT_o {sg : Nat → Nat} {e w s z f j : Nat} (h : ¬ (11 + 76 * e + 15 * sg (10 + 76 * e) ≤ j ∧ j < 11 + 76 * e + 15 * sg (10 + 76 * e) + 15)) (h2 : j ≠ 10 + 76 * e) : addT sg e w s z f j = sg j := by
  unfold addT addT0
  rw [arU_n h2, arU_n (by omega), arU_n (by omega), arU_n (by omega), arU_n (by omega), zrF_out h]
theorem addT_v {sg : Nat → Nat} {e w s z f : Nat} : addT sg e w s z f (10 + 76 * e) = sg (10 + 76 * e) + 1 ∧ addT sg e w s z f (11 + 76 * e + 15 * sg (10 + 76 * e) + 0) = w ∧ addT sg e w s z f (11 + 76 * e + 15 * sg (10 + 76 * e) + 1) = s ∧ addT sg e w s z f (11 + 76 * e + 15 * sg (10 + 76 * e) + 2) = z ∧ addT sg e w s z f (11 + 76 * e + 15 * sg (10 + 76 * e) + 3) = f ∧ addT sg e w s z f (11 + 76 * e + 15 * sg (10 + 76 * e) + 4) = 0 ∧ addT sg e w s z f (11 + 76 * e + 15 * sg (10 + 76 * e) + 5) = 0 := by
  unfold addT addT0
  refine ⟨arU_s _ _ _, ?_, ?_, ?_, ?_, ?_, ?_⟩
  · rw [arU_n (by omega), arU_n (by omega), arU_n (by omega), arU_n (by omega), arU_s]
  · rw [arU_n (by omega), arU_n (by omega), arU_n (by omega), arU_s]
  · rw [arU_n (by omega), arU_n (by omega), arU_s]
  · rw [arU_n (by omega), arU_s]
  · rw [arU_n (by omega), arU_n (by omega), arU_n (by omega), arU_n (by omega), arU_n (by omega), zrF_in (by omega) (by omega)]
  · rw [arU_n (by omega), arU_n (by omega), arU_n (by omega), arU_n (by omega), arU_n (by omega), zrF_in (by omega) (by omega)]
theorem txOK_of {sg s2 : Nat → Nat} {e t : Nat} (h : ∀ w, w < 15 → s2 (11 + 76 * e + 15 * t + w) = sg (11 + 76 * e + 15 * t + w)) (hT : txOK sg e t) : txOK s2 e t := by
  unfold txOK at hT ⊢
  rw [h 0 (by omega), h 1 (by omega), h 2 (by omega), h 3 (by omega), h 5 (by omega)]
  obtain ⟨t1, t2, t3, t4, t5, t6⟩ := hT
  refine ⟨t1, t2, t3, t4, t5, fun c hc2 => ?_⟩
  rw [h _ (by omega), h _ (by omega)]
  exact t6 c hc2
theorem mOK_of {sg s2 : Nat → Nat} (hM : mOK sg) (h : ∀ j, j < 10 → s2 j = sg j) (h5 : ∀ e, e < 8 → s2 (10 + 76 * e) ≤ 5) (hT : ∀ e t, e < 8 → t < s2 (10 + 76 * e) → txOK s2 e t) : mOK s2 := by
  refine ⟨?_, h5, hT⟩
  rw [h 0 (by omega), h 1 (by omega), h 2 (by omega), h 3 (by omega), h 4 (by omega), h 5 (by omega), h 6 (by omega)]
  exact hM.1
theorem mOK_addT {sg : Nat → Nat} {e w s z f : Nat} (hM : mOK sg) (he : e < 8) (hn : sg (10 + 76 * e) < 5) (hw : 1 ≤ w ∧ w ≤ 300) (hs : 1 ≤ s ∧ s ≤ 50) (hz : z ≤ w) (hf : 1 ≤ f ∧ f ≤ 65535) : mOK (addT sg e w s z f) := by
  obtain ⟨v0, v1, v2, v3, v4, -, v6⟩ := addT_v (sg := sg) (e := e) (w := w) (s := s) (z := z) (f := f)
  have hsz : ∀ e2, e2 ≠ e → addT sg e w s z f (10 + 76 * e2) = sg (10 + 76 * e2) := fun e2 h => addT_o (mx_out hn (Nat.le_refl _)) (by omega)
  refine mOK_of hM (fun j hj => addT_o (by omega) (by omega)) (fun e2 he2 => ?_) (fun e2 t2 he2 ht2 => ?_)
  · by_cases h : e2 = e
    · subst h; rw [v0]; omega
    · rw [hsz e2 h]; exact hM.2.1 e2 he2
  · by_cases h : e2 = e ∧ t2 = sg (10 + 76 * e)
    · obtain ⟨rfl, rfl⟩ := h
      unfold txOK
      rw [v1, v2, v3, v4, v6]
      exact ⟨hw, hs, hz, hf, by omega, fun c hc => absurd hc (Nat.not_lt_zero _)⟩
    · have ht3 : t2 < sg (10 + 76 * e2) := by
        by_cases h2 : e2 = e
        · subst h2; rw [v0] at ht2; omega
        · rw [hsz e2 h2] at ht2; exact ht2
      have h5 := hM.2.1 e2 he2
      exact txOK_of (fun w2 hw2 => addT_o (ix_out hn (by omega) hw2 (by omega)) (ix_mx (by omega) hw2)) (hM.2.2 e2 t2 he2 ht3)
theorem addC_o {sg : Nat → Nat} {e t w f j : Nat} (h : ¬ (11 + 76 * e + 15 * t + (6 + 3 * sg (11 + 76 * e + 15 * t + 5)) ≤ j ∧ j < 11 + 76 * e + 15 * t + (6 + 3 * sg (11 + 76 * e + 15 * t + 5) + 3))) (h2 : j ≠ 11 + 76 * e + 15 * t + 5) : addC sg e t w f j = sg j := by
  unfold addC addC0
  rw [arU_n h2, arU_n (by omega), arU_n (by omega), arU_n (by omega)]
theorem addC_v {sg : Nat → Nat} {e t w f : Nat} : addC sg e t w f (11 + 76 * e + 15 * t + 5) = sg (11 + 76 * e + 15 * t + 5) + 1 ∧ addC sg e t w f (11 + 76 * e + 15 * t + (6 + 3 * sg (11 + 76 * e + 15 * t + 5) + 0)) = w ∧ addC sg e t w f (11 + 76 * e + 15 * t + (6 + 3 * sg (11 + 76 * e + 15 * t + 5) + 1)) = f ∧ addC sg e t w f (11 + 76 * e + 15 * t + (6 + 3 * sg (11 + 76 * e + 15 * t + 5) + 2)) = 0 := by
  unfold addC addC0
  refine ⟨arU_s _ _ _, ?_, ?_, ?_⟩
  · rw [arU_n (by omega), arU_n (by omega), arU_n (by omega), arU_s]
  · rw [arU_n (by omega), arU_n (by omega), arU_s]
  · rw [arU_n (by omega), arU_s]
theorem mOK_addC {sg : Nat → Nat} {e t w f : Nat} (hM : mOK sg) (he : e < 8) (ht : t < sg (10 + 76 * e)) (hc : sg (11 + 76 * e + 15 * t + 5) < 3) (hw : 1 ≤ w ∧ w ≤ 30) (hf : f ≤ 65535) : mOK (addC sg e t w f) := by
  obtain ⟨v0, v1, v2, v3⟩ := addC_v (sg := sg) (e := e) (t := t) (w := w) (f := f)
  have h5 := hM.2.1 e he
  have hsz : ∀ e2, addC sg e t w f (10 + 76 * e2) = sg (10 + 76 * e2) := fun e2 => by
    have h9 := mx_out (e := e) (n := t) (e2 := e2) (w := 15) (by omega) (Nat.le_refl _)
    exact addC_o (by omega) (by omega)
  refine mOK_of hM (fun j hj => addC_o (by omega) (by omega)) (fun e2 he2 => by rw [hsz]; exact hM.2.1 e2 he2) (fun e2 t2 he2 ht2 => ?_)
  rw [hsz] at ht2
  have h52 := hM.2.1 e2 he2
  have hT := hM.2.2 e2 t2 he2 ht2
  by_cases h : e2 = e ∧ t2 = t
  · obtain ⟨rfl, rfl⟩ := h
    have r : ∀ j, j < 5 → addC sg e2 t2 w f (11 + 76 * e2 + 15 * t2 + j) = sg (11 + 76 * e2 + 15 * t2 + j) := fun j hj => addC_o (by omega) (by omega)
    unfold txOK at hT ⊢
    rw [r 0 (by omega), r 1 (by omega), r 2 (by omega), r 3 (by omega), v0]
    obtain ⟨t1, t2b, t3, t4, t5, t6⟩ := hT
    refine ⟨t1, t2b, t3, t4, by omega, fun c hc2 => ?_⟩
    by_cases hcc : c = sg (11 + 76 * e2 + 15 * t2 + 5)
    · subst hcc
      rw [v1, v2]
      exact ⟨hw.1, hw.2, hf⟩
    · rw [addC_o (by omega) (by omega), addC_o (by omega) (by omega)]
      exact t6 c (by omega)
  · refine txOK_of (fun w2 hw2 => ?_) hT
    have h9 := ix_out (e := e) (n := t) (e2 := e2) (t2 := t2) (w := w2) (by omega) (by omega) hw2 (by omega)
    exact addC_o (by omega) (by omega)
theorem mOK_eAd {sg : Nat → Nat} {i : EntT} (hM : mOK sg) (he : i.2.1 < 8) (h : eFs sg i = 0) : mOK (eAd sg i) := by
  unfold eFs eFl at h
  unfold eAd
  by_cases hc : i.1 = 1
  · rw [if_pos hc] at h ⊢
    obtain ⟨h1, h2, h3, h4⟩ := cFl_0 h
    have hT := hM.2.2 _ _ he h1
    have h5 := hT.2.2.2.2.1
    exact mOK_addC hM he h1 (by have h4 : ¬ sg (11 + 76 * i.2.1 + 15 * i.2.2.1 + 5) = 3 := h4; omega) h2.1 h2.2
  · rw [if_neg hc] at h ⊢
    obtain ⟨⟨h1, h2, h3, h4⟩, h5⟩ := tFl_0 h
    have h6 := hM.2.1 _ he
    exact mOK_addT hM he (by have h5 : ¬ sg (10 + 76 * i.2.1) = 5 := h5; omega) h1 ⟨h2.1, h2.2.1⟩ h3 h4
/-- a contract that says less -/
theorem Met_post {l : Launch} {y : MethodName} {ws : List Cond} {rm : Room} {Pc : Array Value → State → Prop} {Qc Qd : Array Value → State → Outcome → State → Prop} {mc ms : Nat} {free : Addr → Prop} (h : Met l y ws rm Pc Qc mc ms free) (hi : ∀ a s o t, Qc a s o t → Qd a s o t) : Met l y ws rm Pc Qd mc ms free := by
  intro p e ha hc hk s m args below hf hap hP hq
  obtain ⟨t, o, h1, h2, h3, h4, h5⟩ := h p e ha hc hk s m args below hf hap hP hq
  exact ⟨t, o, h1, h2, h3, hi _ _ _ _ h4, h5⟩
theorem zA_shl1 : ∀ k : Nat, k < 16 → nI 1 <<< (nI k &&& 31) = nI (2 ^ k) := by decide +kernel
