/-! numbers, and what the texts of the carousel are as functions -/
theorem in_yes {x : Int32} {lo hi : Nat} (hlo : lo < 1000000) (hhi : hi < 1000000) (h1 : ¬ x < nI lo) (h2 : ¬ nI hi < x) : ∃ n : Nat, lo ≤ n ∧ n ≤ hi ∧ x = nI n := by
  rw [Int32.lt_iff_toInt_lt, nI_toInt (by omega)] at h1 h2
  refine ⟨x.toInt.toNat, by omega, by omega, Int32.toInt_inj.mp ?_⟩
  rw [nI_toInt (by omega)]
  omega
theorem in_no1 {x : Int32} {lo hi : Nat} (hlo : lo < 1000000) (hhi : hi < 1000000) (h1 : x < nI lo) : ¬ ∃ n : Nat, lo ≤ n ∧ n ≤ hi ∧ x = nI n := by
  rintro ⟨n, h2, h3, rfl⟩
  have := (nI_ltI (by omega) (by omega)).mp h1
  omega
theorem in_no2 {x : Int32} {lo hi : Nat} (hlo : lo < 1000000) (hhi : hi < 1000000) (h1 : nI hi < x) : ¬ ∃ n : Nat, lo ≤ n ∧ n ≤ hi ∧ x = nI n := by
  rintro ⟨n, h2, h3, rfl⟩
  have := (nI_ltI (by omega) (by omega)).mp h1
  omega
theorem int_yes {x : Int32} {n : Nat} (hn : n < 1000000) (h1 : ¬ x < nI 0) (h2 : ¬ nI n - nI 1 < x) : ∃ k : Nat, k < n ∧ x = nI k := by
  rw [Int32.lt_iff_toInt_lt] at h1 h2
  rw [nI_toInt (by omega)] at h1
  rw [pk_sub_toInt (by omega) (by omega)] at h2
  refine ⟨x.toInt.toNat, by omega, Int32.toInt_inj.mp ?_⟩
  rw [nI_toInt (by omega)]
  omega
theorem int_no1 {x : Int32} {n : Nat} (hn : n < 1000000) (h1 : x < nI 0) : ¬ ∃ k : Nat, k < n ∧ x = nI k := by
  rintro ⟨k, h2, rfl⟩
  have := (nI_ltI (by omega) (by omega)).mp h1
  omega
theorem int_no2 {x : Int32} {n : Nat} (hn : n < 1000000) (h1 : nI n - nI 1 < x) : ¬ ∃ k : Nat, k < n ∧ x = nI k := by
  rintro ⟨k, h2, rfl⟩
  rw [Int32.lt_iff_toInt_lt, pk_sub_toInt (by omega) (by omega), nI_toInt (by omega)] at h1
  omega
theorem nI_inj {a b : Nat} (ha : a < 2147483648) (hb : b < 2147483648) (h : nI a = nI b) : a = b := (nI_eq ha hb).mp h
theorem zA_sl : ∀ n, n < 32 → ((nI n &&& 31).toBitVec.smod 32).toNat = n := by decide +kernel
theorem zA_shr {v k : Nat} (hv : v < 2147483648) (hk : k < 32) : nI v >>> (nI k &&& 31) = nI (v / 2 ^ k) := pk_shrN hv _ k (zA_sl k hk)
theorem zA_one (v : Nat) : nI (v &&& 1) = nI (v % 2) := by rw [Nat.and_one_is_mod]
/-- the bits of a number below a place -/
def bitsN (v : Nat) : Nat → Nat
  | 0 => 0
  | k + 1 => bitsN v k + v / 2 ^ k % 2
theorem bitsN_le (v : Nat) : ∀ k, bitsN v k ≤ k
  | 0 => Nat.le_refl 0
  | k + 1 => by
    show bitsN v k + v / 2 ^ k % 2 ≤ k + 1
    have h1 := bitsN_le v k
    have h2 : v / 2 ^ k % 2 < 2 := Nat.mod_lt _ (by decide)
    omega
/-! where the reference keeps what -/
abbrev mx (e : Nat) : Nat := 10 + 76 * e
abbrev ix (e t w : Nat) : Nat := 11 + 76 * e + 15 * t + w
abbrev cx (e t c w : Nat) : Nat := 11 + 76 * e + 15 * t + (6 + 3 * c + w)
def rdg (sg : Nat → Nat) (e t : Nat) : Nat := 4 + sg (11 + 76 * e + 15 * t + 0) / (2 * sg (11 + 76 * e + 15 * t + 1)) + 30 * sg (11 + 76 * e + 15 * t + 2) / sg (11 + 76 * e + 15 * t + 0)
def pTn (sz : Nat → Nat) (x y : Int32) : Prop := ∃ e t : Nat, e < 8 ∧ t < sz e ∧ x = nI e ∧ y = nI t
def pCp (sz : Nat → Nat) (cs : Nat → Nat → Nat) (x y z : Int32) : Prop := ∃ e t k : Nat, e < 8 ∧ t < sz e ∧ k < cs e t ∧ x = nI e ∧ y = nI t ∧ z = nI k
theorem pTn_no {sz : Nat → Nat} {e1 : Nat} {y : Int32} (he : e1 < 8) (h : ¬ ∃ k : Nat, k < sz e1 ∧ y = nI k) : ¬ pTn sz (nI e1) y := by
  rintro ⟨e, t, q1, q2, q3, q4⟩
  have h9 := nI_inj (by omega) (by omega) q3
  subst h9
  exact h ⟨t, q2, q4⟩
theorem pCp_no {sz : Nat → Nat} {cs : Nat → Nat → Nat} {e1 t1 : Nat} {z : Int32} (he : e1 < 8) (ht : t1 < 1000000) (hs : ∀ e t, e < 8 → t < sz e → t < 1000000) (h : ¬ ∃ k : Nat, k < cs e1 t1 ∧ z = nI k) : ¬ pCp sz cs (nI e1) (nI t1) z := by
  rintro ⟨e, t, k, q1, q2, q3, q4, q5, q6⟩
  have h8 := nI_inj (by omega) (by omega) q4
  subst h8
  have h9 := nI_inj (by omega) (by have := hs e1 t q1 q2; omega) q5
  subst h9
  exact h ⟨k, q3, q6⟩
def txOK (sg : Nat → Nat) (e t : Nat) : Prop :=
  (1 ≤ sg (11 + 76 * e + 15 * t + 0) ∧ sg (11 + 76 * e + 15 * t + 0) ≤ 300) ∧ (1 ≤ sg (11 + 76 * e + 15 * t + 1) ∧ sg (11 + 76 * e + 15 * t + 1) ≤ 50) ∧ sg (11 + 76 * e + 15 * t + 2) ≤ sg (11 + 76 * e + 15 * t + 0) ∧ (1 ≤ sg (11 + 76 * e + 15 * t + 3) ∧ sg (11 + 76 * e + 15 * t + 3) ≤ 65535) ∧ sg (11 + 76 * e + 15 * t + 5) ≤ 3 ∧ ∀ c, c < sg (11 + 76 * e + 15 * t + 5) → 1 ≤ sg (11 + 76 * e + 15 * t + (6 + 3 * c + 0)) ∧ sg (11 + 76 * e + 15 * t + (6 + 3 * c + 0)) ≤ 30 ∧ sg (11 + 76 * e + 15 * t + (6 + 3 * c + 1)) ≤ 65535
def mOK (sg : Nat → Nat) : Prop :=
  (sg 0 < 8 ∧ sg 1 ≤ 60 ∧ sg 2 ≤ 1 ∧ (sg 2 = 1 → (4 ≤ sg 3 ∧ sg 3 ≤ 99) ∧ 30 ≤ sg 4 ∧ sg 4 ≤ 400) ∧ sg 5 ≤ 9999 ∧ sg 6 ≤ 65535) ∧ (∀ e, e < 8 → sg (10 + 76 * e) ≤ 5) ∧ ∀ e t, e < 8 → t < sg (10 + 76 * e) → txOK sg e t
theorem rdg_le {sg : Nat → Nat} {e t : Nat} (h : txOK sg e t) : 4 ≤ rdg sg e t ∧ rdg sg e t ≤ 400 := by
  obtain ⟨⟨h1, h2⟩, ⟨h3, h4⟩, h5, -⟩ := h
  unfold rdg
  generalize sg (11 + 76 * e + 15 * t + 0) = w at *
  generalize sg (11 + 76 * e + 15 * t + 1) = s at *
  generalize sg (11 + 76 * e + 15 * t + 2) = z at *
  have a1 : w / (2 * s) ≤ w := Nat.div_le_self _ _
  have a2 : 30 * z / w ≤ 30 := by
    apply Nat.le_of_lt_succ
    rw [Nat.div_lt_iff_lt_mul (by omega)]
    omega
  generalize w / (2 * s) = q1 at *
  generalize 30 * z / w = q2 at *
  omega
/-! what a reader is shown: the one with the greatest reading age among those that fit, else the least -/
def lsStep (rd : Nat → Nat) (t : Nat) : Option Nat → Option Nat
  | none => some t
  | some l => if rd t < rd l then some t else some l
def ftStep (rd wd : Nat → Nat) (ag t : Nat) : Option Nat → Option Nat
  | none => if rd t ≤ ag then some t else none
  | some f => if rd t ≤ ag ∧ (rd f < rd t ∨ (rd f = rd t ∧ wd t < wd f)) then some t else some f
def lsA (rd : Nat → Nat) : Nat → Option Nat
  | 0 => none
  | t + 1 => lsStep rd t (lsA rd t)
def ftA (rd wd : Nat → Nat) (ag : Nat) : Nat → Option Nat
  | 0 => none
  | t + 1 => ftStep rd wd ag t (ftA rd wd ag t)
def shA (rd wd : Nat → Nat) (ag n : Nat) : Option Nat := match ftA rd wd ag n with
  | none => lsA rd n
  | some f => some f
def enc : Option Nat → Int32
  | none => -5
  | some t => nI t
theorem lsA_lt {rd : Nat → Nat} : ∀ (n : Nat) {l : Nat}, lsA rd n = some l → l < n
  | 0, l, h => by cases h
  | n + 1, l, h => by
    have h : lsStep rd n (lsA rd n) = some l := h
    cases hq : lsA rd n with
    | none => rw [hq] at h; cases h; exact Nat.lt_succ_self _
    | some k =>
      have hk := lsA_lt n hq
      rw [hq] at h
      unfold lsStep at h
      simp only at h
      split at h <;> (cases h; omega)
theorem ftA_lt {rd wd : Nat → Nat} {ag : Nat} : ∀ (n : Nat) {l : Nat}, ftA rd wd ag n = some l → l < n
  | 0, l, h => by cases h
  | n + 1, l, h => by
    have h : ftStep rd wd ag n (ftA rd wd ag n) = some l := h
    cases hq : ftA rd wd ag n with
    | none =>
      rw [hq] at h
      unfold ftStep at h
      simp only at h
      split at h
      · cases h; omega
      · cases h
    | some k =>
      have hk := ftA_lt n hq
      rw [hq] at h
      unfold ftStep at h
      simp only at h
      split at h <;> (cases h; omega)
theorem shA_lt {rd wd : Nat → Nat} {ag n l : Nat} (h : shA rd wd ag n = some l) : l < n := by
  unfold shA at h
  cases hq : ftA rd wd ag n with
  | none => rw [hq] at h; exact lsA_lt n h
  | some k => rw [hq] at h; cases h; exact ftA_lt n hq
theorem lsA_some {rd : Nat → Nat} : ∀ (n : Nat), 0 < n → ∃ l, lsA rd n = some l
  | 0, h => absurd h (Nat.lt_irrefl _)
  | n + 1, _ => by
    show ∃ l, lsStep rd n (lsA rd n) = some l
    cases lsA rd n with
    | none => exact ⟨_, rfl⟩
    | some k =>
      unfold lsStep
      simp only
      split
      · exact ⟨_, rfl⟩
      · exact ⟨_, rfl⟩
abbrev shT (sg : Nat → Nat) (e ag : Nat) : Option Nat := shA (rdg sg e) (fun t => sg (11 + 76 * e + 15 * t + 0)) ag (sg (10 + 76 * e))
theorem enc_ne {t : Nat} (h : t < 1000000) : ¬ nI t = -5 := by
  intro q
  have h1 := congrArg Int32.toInt q
  rw [nI_toInt (by omega), show (-5 : Int32).toInt = -5 from by decide] at h1
  omega
