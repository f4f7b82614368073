/-! numbers, and what the texts of the carousel are as functions -/
theorem in_yes {x : Int32} {lo hi : Nat} (hlo : lo < 1000000) (hhi : hi < 1000000) (h1 : ¬ x < nI lo) (h2 : ¬ nI hi < x) : ∃ n : Nat, lo ≤ n ∧ n ≤ hi ∧ x = nI n := by
  rw [Int32.lt_iff_toInt_lt, nI_toInt (by omega)] at h1 h2
  refine ⟨x.toInt.toNat, by omega, by omega, Int32.toInt_inj.mp ?_⟩
  rw [nI_toInt (by omega)]
  omega
theorem in_no1 {x : Int32} {lo hi : Nat} (hlo : lo < 1000000) (hhi : hi < 1000000) (h1 : x < nI lo) : ¬ ∃ n : Nat, lo ≤ n ∧ n ≤ hi ∧ x = nI n := by
  rintro ⟨n, h2, h3, rfl⟩
  have := (nI_ltI (by omega) (by omega)).mp h1
  omega
theorem in_no2 {x : Int32} {lo hi : Nat} (hlo : lo < 1000000) (hhi : hi < 1000000) (h1 : nI hi < x) : ¬ ∃ n : Nat, lo ≤ n ∧ n ≤ hi ∧ x = nI n := by
  rintro ⟨n, h2, h3, rfl⟩
  have := (nI_ltI (by omega) (by omega)).mp h1
  omega
theorem int_yes {x : Int32} {n : Nat} (hn : n < 1000000) (h1 : ¬ x < nI 0) (h2 : ¬ nI n - nI 1 < x) : ∃ k : Nat, k < n ∧ x = nI k := by
  rw [Int32.lt_iff_toInt_lt] at h1 h2
  rw [nI_toInt (by omega)] at h1
  rw [pk_sub_toInt (by omega) (by omega)] at h2
  refine ⟨x.toInt.toNat, by omega, Int32.toInt_inj.mp ?_⟩
  rw [nI_toInt (by omega)]
  omega
theorem int_no1 {x : Int32} {n : Nat} (hn : n < 1000000) (h1 : x < nI 0) : ¬ ∃ k : Nat, k < n ∧ x = nI k := by
  rintro ⟨k, h2, rfl⟩
  have := (nI_ltI (by omega) (by omega)).mp h1
  omega
theorem int_no2 {x : Int32} {n : Nat} (hn : n < 1000000) (h1 : nI n - nI 1 < x) : ¬ ∃ k : Nat, k < n ∧ x = nI k := by
  rintro ⟨k, h2, rfl⟩
  rw [Int32.lt_iff_toInt_lt, pk_sub_toInt (by omega) (by omega), nI_toInt (by omega)] at h1
  omega
theorem nI_inj {a b : Nat} (ha : a < 2147483648) (hb : b < 2147483648) (h : nI a = nI b) : a = b := (nI_eq ha hb).mp h
theorem zA_sl : ∀ n, n < 32 → ((nI n &&& 31).toBitVec.smod 32).toNat = n := by decide +kernel
theorem zA_shr {v k : Nat} (hv : v < 2147483648) (hk : k < 32) : nI v >>> (nI k &&& 31) = nI (v / 2 ^ k) := pk_shrN hv _ k (zA_sl k hk)
theorem zA_one (v : Nat) : nI (v &&& 1) = nI (v % 2) := by rw [Nat.and_one_is_mod]
/-- the bits of a number below a place -/
def bitsN (v : Nat) : Nat → Nat
  | 0 => 0
  | k + 1 => bitsN v k + v / 2 ^ k % 2
theorem bitsN_le (v : Nat) : ∀ k, bitsN v k ≤ k
  | 0 => Nat.le_refl 0
  | k + 1 => by
    show bitsN v k + v / 2 ^ k % 2 ≤ k + 1
    have h1 := bitsN_le v k
    have h2 : v / 2 ^ k % 2 < 2 := Nat.mod_lt _ (by decide)
    omega
/-! where the reference keeps what -/
abbrev mx (e : Nat) : Nat := 10 + 76 * e
abbrev ix (e t w : Nat) : Nat := 11 + 76 * e + 15 * t + w
abbrev cx (e t c w : Nat) : Nat := 11 + 76 * e + 15 * t + (6 + 3 * c + w)
def rdg (sg : Nat → Nat) (e t : Nat) : Nat := 4 + sg (11 + 76 * e + 15 * t + 0) / (2 * sg (11 + 76 * e + 15 * t + 1)) + 30 * sg (11 + 76 * e + 15 * t + 2) / sg (11 + 76 * e + 15 * t + 0)
def pTn (sz : Nat → Nat) (x y : Int32) : Prop := ∃ e t : Nat, e < 8 ∧ t < sz e ∧ x = nI e ∧ y = nI t
def pCp (sz : Nat → Nat) (cs : Nat → Nat → Nat) (x y z : Int32) : Prop := ∃ e t k : Nat, e < 8 ∧ t < sz e ∧ k < cs e t ∧ x = nI e ∧ y = nI t ∧ z = nI k
theorem pTn_no {sz : Nat → Nat} {e1 : Nat} {y : Int32} (he : e1 < 8) (h : ¬ ∃ k : Nat, k < sz e1 ∧ y = nI k) : ¬ pTn sz (nI e1) y := by
  rintro ⟨e, t, q1, q2, q3, q4⟩
  have h9 := nI_inj (by omega) (by omega) q3
  subst h9
  exact h ⟨t, q2, q4⟩
theorem pCp_no {sz : Nat → Nat} {cs : Nat → Nat → Nat} {e1 t1 : Nat} {z : Int32} (he : e1 < 8) (ht : t1 < 1000000) (hs : ∀ e t, e < 8 → t < sz e → t < 1000000) (h : ¬ ∃ k : Nat, k < cs e1 t1 ∧ z = nI k) : ¬ pCp sz cs (nI e1) (nI t1) z := by
  rintro ⟨e, t, k, q1, q2, q3, q4, q5, q6⟩
  have h8 := nI_inj (by omega) (by omega) q4
  subst h8
  have h9 := nI_inj (by omega) (by have := hs e1 t q1 q2; omega) q5
  subst h9
  exact h ⟨k, q3, q6⟩
def txOK (sg : Nat → Nat) (e t : Nat) : Prop :=
  (1 ≤ sg (11 + 76 * e + 15 * t + 0) ∧ sg (11 + 76 * e + 15 * t + 0) ≤ 300) ∧ (1 ≤ sg (11 + 76 * e + 15 * t + 1) ∧ sg (11 + 76 * e + 15 * t + 1) ≤ 50) ∧ sg (11 + 76 * e + 15 * t + 2) ≤ sg (11 + 76 * e + 15 * t + 0) ∧ (1 ≤ sg (11 + 76 * e + 15 * t + 3) ∧ sg (11 + 76 * e + 15 * t + 3) ≤ 65535) ∧ sg (11 + 76 * e + 15 * t + 5) ≤ 3 ∧ ∀ c, c < sg (11 + 76 * e + 15 * t + 5) → 1 ≤ sg (11 + 76 * e + 15 * t + (6 + 3 * c + 0)) ∧ sg (11 + 76 * e + 15 * t + (6 + 3 * c + 0)) ≤ 30 ∧ sg (11 + 76 * e + 15 * t + (6 + 3 * c + 1)) ≤ 65535
def mOK (sg : Nat → Nat) : Prop :=
  (sg 0 < 8 ∧ sg 1 ≤ 60 ∧ sg 2 ≤ 1 ∧ (sg 2 = 1 → (4 ≤ sg 3 ∧ sg 3 ≤ 99) ∧ 30 ≤ sg 4 ∧ sg 4 ≤ 400) ∧ sg 5 ≤ 9999 ∧ sg 6 ≤ 65535) ∧ (∀ e, e < 8 → sg (10 + 76 * e) ≤ 5) ∧ ∀ e t, e < 8 → t < sg (10 + 76 * e) → txOK sg e t
theorem rdg_le {sg : Nat → Nat} {e t : Nat} (h : txOK sg e t) : 4 ≤ rdg sg e t ∧ rdg sg e t ≤ 400 := by
  obtain ⟨⟨h1, h2⟩, ⟨h3, h4⟩, h5, -⟩ := h
  unfold rdg
  generalize sg (11 + 76 * e + 15 * t + 0) = w at *
  generalize sg (11 + 76 * e + 15 * t + 1) = s at *
  generalize sg (11 + 76 * e + 15 * t + 2) = z at *
  have a1 : w / (2 * s) ≤ w := Nat.div_le_self _ _
  have a2 : 30 * z / w ≤ 30 := by
    apply Nat.le_of_lt_succ
    rw [Nat.div_lt_iff_lt_mul (by omega)]
    omega
  generalize w / (2 * s) = q1 at *
  generalize 30 * z / w = q2 at *
  omega
theorem ix_sep {e t w e2 t2 w2 : Nat} (ht : t < 5) (hw : w < 15) (ht2 : t2 < 5) (hw2 : w2 < 15) (h : w ≠ w2) : 11 + 76 * e + 15 * t + w ≠ 11 + 76 * e2 + 15 * t2 + w2 := by
  intro q
  rcases Nat.lt_trichotomy e e2 with h1 | h1 | h1
  · have : 76 * e + 76 ≤ 76 * e2 := by omega
    omega
  · subst h1
    rcases Nat.lt_trichotomy t t2 with h2 | h2 | h2
    · omega
    · subst h2; omega
    · omega
  · have : 76 * e2 + 76 ≤ 76 * e := by omega
    omega
/-! what a reader is shown: the one with the greatest reading age among those that fit, else the least -/
def lsStep (rd : Nat → Nat) (t : Nat) : Option Nat → Option Nat
  | none => some t
  | some l => if rd t < rd l then some t else some l
def ftStep (rd wd : Nat → Nat) (ag t : Nat) : Option Nat → Option Nat
  | none => if rd t ≤ ag then some t else none
  | some f => if rd t ≤ ag ∧ (rd f < rd t ∨ (rd f = rd t ∧ wd t < wd f)) then some t else some f
def lsA (rd : Nat → Nat) : Nat → Option Nat
  | 0 => none
  | t + 1 => lsStep rd t (lsA rd t)
def ftA (rd wd : Nat → Nat) (ag : Nat) : Nat → Option Nat
  | 0 => none
  | t + 1 => ftStep rd wd ag t (ftA rd wd ag t)
def shA (rd wd : Nat → Nat) (ag n : Nat) : Option Nat := match ftA rd wd ag n with
  | none => lsA rd n
  | some f => some f
def enc : Option Nat → Int32
  | none => -5
  | some t => nI t
theorem lsA_lt {rd : Nat → Nat} : ∀ (n : Nat) {l : Nat}, lsA rd n = some l → l < n
  | 0, l, h => by cases h
  | n + 1, l, h => by
    have h : lsStep rd n (lsA rd n) = some l := h
    cases hq : lsA rd n with
    | none => rw [hq] at h; cases h; exact Nat.lt_succ_self _
    | some k =>
      have hk := lsA_lt n hq
      rw [hq] at h
      unfold lsStep at h
      simp only at h
      split at h <;> (cases h; omega)
theorem ftA_lt {rd wd : Nat → Nat} {ag : Nat} : ∀ (n : Nat) {l : Nat}, ftA rd wd ag n = some l → l < n
  | 0, l, h => by cases h
  | n + 1, l, h => by
    have h : ftStep rd wd ag n (ftA rd wd ag n) = some l := h
    cases hq : ftA rd wd ag n with
    | none =>
      rw [hq] at h
      unfold ftStep at h
      simp only at h
      split at h
      · cases h; omega
      · cases h
    | some k =>
      have hk := ftA_lt n hq
      rw [hq] at h
      unfold ftStep at h
      simp only at h
      split at h <;> (cases h; omega)
theorem shA_lt {rd wd : Nat → Nat} {ag n l : Nat} (h : shA rd wd ag n = some l) : l < n := by
  unfold shA at h
  cases hq : ftA rd wd ag n with
  | none => rw [hq] at h; exact lsA_lt n h
  | some k => rw [hq] at h; cases h; exact ftA_lt n hq
theorem lsA_some {rd : Nat → Nat} : ∀ (n : Nat), 0 < n → ∃ l, lsA rd n = some l
  | 0, h => absurd h (Nat.lt_irrefl _)
  | n + 1, _ => by
    show ∃ l, lsStep rd n (lsA rd n) = some l
    cases lsA rd n with
    | none => exact ⟨_, rfl⟩
    | some k =>
      unfold lsStep
      simp only
      split
      · exact ⟨_, rfl⟩
      · exact ⟨_, rfl⟩
abbrev shT (sg : Nat → Nat) (e ag : Nat) : Option Nat := shA (rdg sg e) (fun t => sg (11 + 76 * e + 15 * t + 0)) ag (sg (10 + 76 * e))
theorem enc_ne {t : Nat} (h : t < 1000000) : ¬ nI t = -5 := by
  intro q
  have h1 := congrArg Int32.toInt q
  rw [nI_toInt (by omega), show (-5 : Int32).toInt = -5 from by decide] at h1
  omega

/-! rows that are copied, shifted, emptied, place by place -/
def cpF (d q : Nat → Nat) (o w k : Nat) : Nat → Nat := fun j => if o ≤ j ∧ j < o + k then q (w + (j - o)) else d j
theorem cpF_0 (d q : Nat → Nat) (o w : Nat) : d = cpF d q o w 0 := by
  funext j
  unfold cpF
  rw [if_neg (by omega)]
theorem cpF_s {d q : Nat → Nat} {o w k i x : Nat} (hi : i = o + k) (hx : x = q (w + k)) : arU (cpF d q o w k) i x = cpF d q o w (k + 1) := by
  subst hi hx
  funext j
  unfold arU cpF
  by_cases h : j = o + k
  · subst h
    rw [if_pos rfl, if_pos (by omega), show w + (o + k - o) = w + k from by omega]
  · rw [if_neg h]
    by_cases h2 : o ≤ j ∧ j < o + k
    · rw [if_pos h2, if_pos (by omega)]
    · rw [if_neg h2, if_neg (by omega)]
theorem cpF_in {d q : Nat → Nat} {o w k j : Nat} (h1 : o ≤ j) (h2 : j < o + k) : cpF d q o w k j = q (w + (j - o)) := if_pos ⟨h1, h2⟩
theorem cpF_out {d q : Nat → Nat} {o w k j : Nat} (h : ¬ (o ≤ j ∧ j < o + k)) : cpF d q o w k j = d j := if_neg h
/-- a row whose places from o on hold, as far as k, what lay w places behind them -/
def sfF (d : Nat → Nat) (o w k : Nat) : Nat → Nat := fun j => if o ≤ j ∧ j < o + k then d (j + w) else d j
theorem sfF_0 (d : Nat → Nat) (o w : Nat) : d = sfF d o w 0 := by
  funext j
  unfold sfF
  rw [if_neg (by omega)]
theorem sfF_s {d : Nat → Nat} {o w k i x : Nat} (hi : i = o + k) (hx : x = d (o + k + w)) : arU (sfF d o w k) i x = sfF d o w (k + 1) := by
  subst hi hx
  funext j
  unfold arU sfF
  by_cases h : j = o + k
  · subst h
    rw [if_pos rfl, if_pos (by omega)]
  · rw [if_neg h]
    by_cases h2 : o ≤ j ∧ j < o + k
    · rw [if_pos h2, if_pos (by omega)]
    · rw [if_neg h2, if_neg (by omega)]
theorem sfF_in {d : Nat → Nat} {o w k j : Nat} (h1 : o ≤ j) (h2 : j < o + k) : sfF d o w k j = d (j + w) := if_pos ⟨h1, h2⟩
theorem sfF_out {d : Nat → Nat} {o w k j : Nat} (h : ¬ (o ≤ j ∧ j < o + k)) : sfF d o w k j = d j := if_neg h
/-- a row with zeros from o on, as far as k -/
def zrF (d : Nat → Nat) (o k : Nat) : Nat → Nat := fun j => if o ≤ j ∧ j < o + k then 0 else d j
theorem zrF_0 (d : Nat → Nat) (o : Nat) : d = zrF d o 0 := by
  funext j
  unfold zrF
  rw [if_neg (by omega)]
theorem zrF_s {d : Nat → Nat} {o k i : Nat} (hi : i = o + k) : arU (zrF d o k) i 0 = zrF d o (k + 1) := by
  subst hi
  funext j
  unfold arU zrF
  by_cases h : j = o + k
  · subst h
    rw [if_pos rfl, if_pos (by omega)]
  · rw [if_neg h]
    by_cases h2 : o ≤ j ∧ j < o + k
    · rw [if_pos h2, if_pos (by omega)]
    · rw [if_neg h2, if_neg (by omega)]
/-- what the reference keeps of the states that were: at most four, the oldest goes -/
def knB (kn : Nat) (be sg : Nat → Nat) : Nat → Nat := if kn = 4 then cpF (sfF be 0 618 1854) sg (618 * 3) 0 618 else cpF be sg (618 * kn) 0 618
def knK (kn : Nat) : Nat := if kn = 4 then 4 else kn + 1
theorem knK_le {kn : Nat} (h : kn ≤ 4) : knK kn ≤ 4 := by
  unfold knK
  by_cases h2 : kn = 4
  · rw [if_pos h2]; omega
  · rw [if_neg h2]; omega
/-- a text added, a caption added, in the reference's row -/
def addT0 (sg : Nat → Nat) (e n w s z f : Nat) : Nat → Nat := arU (arU (arU (arU (zrF sg (11 + 76 * e + 15 * n) 15) (11 + 76 * e + 15 * n + 0) w) (11 + 76 * e + 15 * n + 1) s) (11 + 76 * e + 15 * n + 2) z) (11 + 76 * e + 15 * n + 3) f
def addT (sg : Nat → Nat) (e w s z f : Nat) : Nat → Nat := arU (addT0 sg e (sg (10 + 76 * e)) w s z f) (10 + 76 * e) (sg (10 + 76 * e) + 1)
def addC0 (sg : Nat → Nat) (e t n w f : Nat) : Nat → Nat := arU (arU (arU sg (11 + 76 * e + 15 * t + (6 + 3 * n + 0)) w) (11 + 76 * e + 15 * t + (6 + 3 * n + 1)) f) (11 + 76 * e + 15 * t + (6 + 3 * n + 2)) 0
def addC (sg : Nat → Nat) (e t w f : Nat) : Nat → Nat := arU (addC0 sg e t (sg (11 + 76 * e + 15 * t + 5)) w f) (11 + 76 * e + 15 * t + 5) (sg (11 + 76 * e + 15 * t + 5) + 1)
theorem zrF_out {d : Nat → Nat} {o k j : Nat} (h : ¬ (o ≤ j ∧ j < o + k)) : zrF d o k j = d j := if_neg h
theorem zrF_in {d : Nat → Nat} {o k j : Nat} (h1 : o ≤ j) (h2 : j < o + k) : zrF d o k j = 0 := if_pos ⟨h1, h2⟩
def rmT (sg : Nat → Nat) (e t : Nat) : Nat → Nat := arU (sfF sg (11 + 76 * e + 15 * t + 0) 15 (15 * (sg (10 + 76 * e) - 1 - t))) (10 + 76 * e) (sg (10 + 76 * e) - 1)
/-- facts of one set that the other doesn't have -/
def andN (a b : Nat) : Int32 := nI a &&& (nI b ^^^ (-1))
/-- a text that is read -/
def secs (w pa : Nat) : Nat := (60 * w + pa - 1) / pa
def rdT (sg : Nat → Nat) (t : Nat) : Nat → Nat := arU (arU (arU (arU sg 5 (sg 5 - secs (sg (11 + 76 * sg 0 + 15 * t + 0)) (sg 4))) 6 (sg 6 ||| sg (11 + 76 * sg 0 + 15 * t + 3))) (11 + 76 * sg 0 + 15 * t + 4) (sg (11 + 76 * sg 0 + 15 * t + 4) + 1)) 8 (sg 8 + 1)
theorem secs_le {w pa : Nat} (hw : w ≤ 300) (hp : 30 ≤ pa) : secs w pa ≤ 1000 := by
  unfold secs
  have h : (60 * w + pa - 1) / pa < 1001 := by
    rw [Nat.div_lt_iff_lt_mul (by omega)]
    have : 1001 * 30 ≤ 1001 * pa := Nat.mul_le_mul_left _ hp
    omega
  omega
abbrev canR (sg : Nat → Nat) (t : Nat) : Prop := ¬ andN (sg (11 + 76 * sg 0 + 15 * t + 3)) (sg 6) = 0 ∧ secs (sg (11 + 76 * sg 0 + 15 * t + 0)) (sg 4) ≤ sg 5
/-- a caption that is touched, its text apart -/
def cpT (sg : Nat → Nat) (t k : Nat) : Nat → Nat := arU (arU (arU (arU sg 5 (sg 5 - secs (sg (11 + 76 * sg 0 + 15 * t + (6 + 3 * k + 0))) (sg 4))) 6 (sg 6 ||| sg (11 + 76 * sg 0 + 15 * t + (6 + 3 * k + 1)))) (11 + 76 * sg 0 + 15 * t + (6 + 3 * k + 2)) (sg (11 + 76 * sg 0 + 15 * t + (6 + 3 * k + 2)) + 1)) 9 (sg 9 + 1)
def tcT (sg : Nat → Nat) (t k : Nat) : Nat → Nat := if canR (cpT sg t k) t then rdT (cpT sg t k) t else cpT sg t k
def enT (sg : Nat → Nat) (ag pa se : Nat) : Nat → Nat := arU (arU (arU (arU (arU (arU sg 2 1) 3 ag) 4 pa) 5 se) 6 0) 7 (sg 7 + 1)
/-- the text that the visitor is shown -/
def sN (sg : Nat → Nat) : Option Nat := if sg 2 = 0 then none else shT sg (sg 0) (sg 3)
theorem sN_some {sg : Nat → Nat} {t : Nat} (hM : mOK sg) (h : sN sg = some t) : sg 2 = 1 ∧ t < sg (10 + 76 * sg 0) := by
  unfold sN at h
  by_cases h0 : sg 2 = 0
  · rw [if_pos h0] at h; cases h
  · rw [if_neg h0] at h
    have := hM.1.2.2.1
    exact ⟨by omega, shA_lt h⟩
theorem enc_cases {r : Int32} {o : Option Nat} (h : r = enc o) : (o = none ∧ r = (-5)) ∨ (∃ t : Nat, o = some t ∧ r = nI t) := by
  cases o with
  | none => exact Or.inl ⟨rfl, h⟩
  | some t => exact Or.inr ⟨t, rfl, h⟩
theorem mOK_cpy {sg s2 : Nat → Nat} (h : ∀ j, j < 618 → s2 j = sg j) (hM : mOK sg) : mOK s2 := by
  obtain ⟨⟨a1, a2, a3, a4, a5, a6⟩, hb, hc⟩ := hM
  refine ⟨?_, fun e he => ?_, fun e t he ht => ?_⟩
  · rw [h 0 (by omega), h 1 (by omega), h 2 (by omega), h 3 (by omega), h 4 (by omega), h 5 (by omega), h 6 (by omega)]
    exact ⟨a1, a2, a3, a4, a5, a6⟩
  · rw [h _ (by omega)]; exact hb e he
  · rw [h _ (by omega)] at ht
    have h5 := hb e he
    have hT := hc e t he ht
    unfold txOK at hT ⊢
    rw [h _ (by omega), h _ (by omega), h _ (by omega), h _ (by omega), h _ (by omega)]
    obtain ⟨t1, t2, t3, t4, t5, t6⟩ := hT
    refine ⟨t1, t2, t3, t4, t5, fun c hc2 => ?_⟩
    rw [h _ (by omega), h _ (by omega)]
    exact t6 c hc2
/-- a row in which the visitor's numbers and counts of readings alone are others -/
theorem mOK_vis {sg s2 : Nat → Nat} (hM : mOK sg) (hv : s2 0 < 8 ∧ s2 1 ≤ 60 ∧ s2 2 ≤ 1 ∧ (s2 2 = 1 → (4 ≤ s2 3 ∧ s2 3 ≤ 99) ∧ 30 ≤ s2 4 ∧ s2 4 ≤ 400) ∧ s2 5 ≤ 9999 ∧ s2 6 ≤ 65535) (hs : ∀ e, e < 8 → s2 (10 + 76 * e) = sg (10 + 76 * e))
    (h : ∀ e t, e < 8 → t < 5 → s2 (11 + 76 * e + 15 * t + 0) = sg (11 + 76 * e + 15 * t + 0) ∧ s2 (11 + 76 * e + 15 * t + 1) = sg (11 + 76 * e + 15 * t + 1) ∧ s2 (11 + 76 * e + 15 * t + 2) = sg (11 + 76 * e + 15 * t + 2) ∧ s2 (11 + 76 * e + 15 * t + 3) = sg (11 + 76 * e + 15 * t + 3) ∧ s2 (11 + 76 * e + 15 * t + 5) = sg (11 + 76 * e + 15 * t + 5) ∧ ∀ c, c < 3 → s2 (11 + 76 * e + 15 * t + (6 + 3 * c + 0)) = sg (11 + 76 * e + 15 * t + (6 + 3 * c + 0)) ∧ s2 (11 + 76 * e + 15 * t + (6 + 3 * c + 1)) = sg (11 + 76 * e + 15 * t + (6 + 3 * c + 1))) : mOK s2 := by
  obtain ⟨-, hb, hc⟩ := hM
  refine ⟨hv, fun e he => by rw [hs e he]; exact hb e he, fun e t he ht => ?_⟩
  rw [hs e he] at ht
  have h5 := hb e he
  obtain ⟨g0, g1, g2, g3, g5, g6⟩ := h e t he (by omega)
  have hT := hc e t he ht
  unfold txOK at hT ⊢
  rw [g0, g1, g2, g3, g5]
  obtain ⟨t1, t2, t3, t4, t5, t6⟩ := hT
  refine ⟨t1, t2, t3, t4, t5, fun c hc2 => ?_⟩
  obtain ⟨g7, g8⟩ := g6 c (by omega)
  rw [g7, g8]
  exact t6 c hc2
theorem or_le {a b : Nat} (ha : a ≤ 65535) (hb : b ≤ 65535) : a ||| b ≤ 65535 := by
  have := Nat.or_lt_two_pow (n := 16) (x := a) (y := b) (by omega) (by omega)
  omega
theorem mOK_cpT {sg : Nat → Nat} {t k : Nat} (hM : mOK sg) (ht : t < sg (10 + 76 * sg 0)) (hk : k < sg (11 + 76 * sg 0 + 15 * t + 5)) : mOK (cpT sg t k) := by
  have h0 := hM.1.1
  have h5 := hM.2.1 _ h0
  have hT := hM.2.2 _ t h0 ht
  have hk3 := hT.2.2.2.2.1
  have hc := hT.2.2.2.2.2 k hk
  obtain ⟨a1, a2, a3, a4, a5, a6⟩ := hM.1
  have r : ∀ j, j ≠ 5 → j ≠ 6 → j ≠ 9 → j ≠ 11 + 76 * sg 0 + 15 * t + (6 + 3 * k + 2) → cpT sg t k j = sg j := fun j h1 h2 h3 h4 => by
    unfold cpT
    rw [arU_n h3, arU_n h4, arU_n h2, arU_n h1]
  refine mOK_vis hM ⟨?_, ?_, ?_, ?_, ?_, ?_⟩ (fun e he => ?_) (fun e t2 he ht2 => ⟨?_, ?_, ?_, ?_, ?_, fun c hc3 => ⟨?_, ?_⟩⟩)
  · rw [r 0 (by omega) (by omega) (by omega) (by omega)]; exact a1
  · rw [r 1 (by omega) (by omega) (by omega) (by omega)]; exact a2
  · rw [r 2 (by omega) (by omega) (by omega) (by omega)]; exact a3
  · rw [r 2 (by omega) (by omega) (by omega) (by omega), r 3 (by omega) (by omega) (by omega) (by omega), r 4 (by omega) (by omega) (by omega) (by omega)]; exact a4
  · unfold cpT
    rw [arU_n (by omega), arU_n (by omega), arU_n (by omega), arU_s]; omega
  · unfold cpT
    rw [arU_n (by omega), arU_n (by omega), arU_s]; exact or_le a6 hc.2.2
  all_goals (rw [r _ (by omega) (by omega) (by omega) (by first | exact ix_sep (by omega) (by omega) (by omega) (by omega) (by omega) | omega)])
theorem mOK_rdT {sg : Nat → Nat} {t : Nat} (hM : mOK sg) (ht : t < sg (10 + 76 * sg 0)) : mOK (rdT sg t) := by
  have h0 := hM.1.1
  have h5 := hM.2.1 _ h0
  have hT := hM.2.2 _ t h0 ht
  obtain ⟨a1, a2, a3, a4, a5, a6⟩ := hM.1
  have r : ∀ j, j ≠ 5 → j ≠ 6 → j ≠ 8 → j ≠ 11 + 76 * sg 0 + 15 * t + 4 → rdT sg t j = sg j := fun j h1 h2 h3 h4 => by
    unfold rdT
    rw [arU_n h3, arU_n h4, arU_n h2, arU_n h1]
  refine mOK_vis hM ⟨?_, ?_, ?_, ?_, ?_, ?_⟩ (fun e he => ?_) (fun e t2 he ht2 => ⟨?_, ?_, ?_, ?_, ?_, fun c hc3 => ⟨?_, ?_⟩⟩)
  · rw [r 0 (by omega) (by omega) (by omega) (by omega)]; exact a1
  · rw [r 1 (by omega) (by omega) (by omega) (by omega)]; exact a2
  · rw [r 2 (by omega) (by omega) (by omega) (by omega)]; exact a3
  · rw [r 2 (by omega) (by omega) (by omega) (by omega), r 3 (by omega) (by omega) (by omega) (by omega), r 4 (by omega) (by omega) (by omega) (by omega)]; exact a4
  · unfold rdT
    rw [arU_n (by omega), arU_n (by omega), arU_n (by omega), arU_s]; omega
  · unfold rdT
    rw [arU_n (by omega), arU_n (by omega), arU_s]; exact or_le a6 hT.2.2.2.1.2
  all_goals (rw [r _ (by omega) (by omega) (by omega) (by first | exact ix_sep (by omega) (by omega) (by omega) (by omega) (by omega) | omega)])
theorem mOK_enT {sg : Nat → Nat} {ag pa se : Nat} (hM : mOK sg) (h1 : 4 ≤ ag ∧ ag ≤ 99) (h2 : 30 ≤ pa ∧ pa ≤ 400) (h3 : se ≤ 9999) : mOK (enT sg ag pa se) := by
  obtain ⟨a1, a2, a3, a4, a5, a6⟩ := hM.1
  have r : ∀ j, (j < 2 ∨ 7 < j) → enT sg ag pa se j = sg j := fun j h => by
    unfold enT
    rw [arU_n (by omega), arU_n (by omega), arU_n (by omega), arU_n (by omega), arU_n (by omega), arU_n (by omega)]
  have e2 : enT sg ag pa se 2 = 1 := rfl
  have e3 : enT sg ag pa se 3 = ag := rfl
  have e4 : enT sg ag pa se 4 = pa := rfl
  have e5 : enT sg ag pa se 5 = se := rfl
  have e6 : enT sg ag pa se 6 = 0 := rfl
  refine mOK_vis hM ⟨?_, ?_, ?_, ?_, ?_, ?_⟩ (fun e he => ?_) (fun e t2 he ht2 => ⟨?_, ?_, ?_, ?_, ?_, fun c hc3 => ⟨?_, ?_⟩⟩)
  · rw [r 0 (by omega)]; exact a1
  · rw [r 1 (by omega)]; exact a2
  · rw [e2]; omega
  · rw [e3, e4]; exact fun _ => ⟨h1, h2⟩
  · rw [e5]; exact h3
  · rw [e6]; omega
  all_goals (rw [r _ (by omega)])
theorem sw_in {n : Nat} (x : Int32) : (∃ k : Nat, k < n ∧ x = nI k) ∨ ¬ ∃ k : Nat, k < n ∧ x = nI k := Classical.em _
theorem sw_out {n : Nat} {x : Int32} {hi : Int} (hn : n < 1000000) (h : ¬ ∃ k : Nat, k < n ∧ x = nI k) (hh : (n : Int) = hi + 1) : x.toInt < 0 ∨ hi < x.toInt := by
  rcases Int.lt_or_le x.toInt 0 with h1 | h1
  · exact Or.inl h1
  · refine Or.inr (Int.not_le.mp fun h2 => h ⟨x.toInt.toNat, by omega, Int32.toInt_inj.mp ?_⟩)
    rw [nI_toInt (by omega)]
    omega
/-- what a caption's touch leaves as it is -/
theorem cpT_o {sg : Nat → Nat} {t k j : Nat} (h1 : j ≠ 5) (h2 : j ≠ 6) (h3 : j ≠ 9) (h4 : j ≠ 11 + 76 * sg 0 + 15 * t + (6 + 3 * k + 2)) : cpT sg t k j = sg j := by
  unfold cpT
  rw [arU_n h3, arU_n h4, arU_n h2, arU_n h1]
theorem cpT_ok {sg : Nat → Nat} {t k : Nat} (hM : mOK sg) (hs : sg 2 = 1 ∧ t < sg (10 + 76 * sg 0)) : cpT sg t k 2 = 1 ∧ t < cpT sg t k (10 + 76 * cpT sg t k 0) := by
  have h0 := hM.1.1
  have e0 : cpT sg t k 0 = sg 0 := cpT_o (by omega) (by omega) (by omega) (by omega)
  rw [e0, cpT_o (by omega) (by omega) (by omega) (by omega), cpT_o (by omega) (by omega) (by omega) (by omega)]
  exact hs
theorem enT_ok {sg : Nat → Nat} {a b c : Nat} : enT sg a b c 2 = 1 := rfl
/-- the carousel turned by one place, or by seven -/
def tuT (sg : Nat → Nat) (d : Nat) : Nat → Nat := arU (arU sg 0 ((sg 0 + d) % 8)) 5 (sg 5 - sg 1)
def sumN (f : Nat → Nat) : Nat → Nat
  | 0 => 0
  | k + 1 => sumN f k + f k
def smF (acc : Nat) (f : Nat → Nat) : Nat → Nat
  | 0 => acc
  | k + 1 => smF acc f k + f k
def orF (acc : Nat) (f : Nat → Nat) : Nat → Nat
  | 0 => acc
  | k + 1 => orF acc f k ||| f k
/-- captions, texts that nobody read, facts, in all exhibits below one -/
def capS (sz : Nat → Nat) (g : Nat → Nat → Nat) : Nat → Nat
  | 0 => 0
  | e + 1 => smF (capS sz g e) (g e) (sz e)
def allF (sz : Nat → Nat) (g : Nat → Nat → Nat) : Nat → Nat
  | 0 => 0
  | e + 1 => orF (allF sz g e) (g e) (sz e)
abbrev szF (sg : Nat → Nat) : Nat → Nat := fun e => sg (10 + 76 * e)
abbrev atF (sg : Nat → Nat) (w : Nat) : Nat → Nat → Nat := fun e t => sg (11 + 76 * e + 15 * t + w)
abbrev nrF (g : Nat → Nat → Nat) : Nat → Nat → Nat := fun e t => if nI (g e t) = 0 then 1 else 0
/-- facts that an age meets -/
def metF (sh : Nat → Option Nat) (g : Nat → Nat → Nat) : Nat → Nat
  | 0 => 0
  | e + 1 => metF sh g e ||| (match sh e with | none => 0 | some t => g e t)
/-- a round: what is left, what is learned -/
def rnStep (tu pa : Nat) (o : Option Nat) (fa wo : Nat → Nat) (q : Nat × Nat) : Nat × Nat := match o with
  | none => (q.1 - tu, q.2)
  | some t => if ¬ andN (fa t) q.2 = 0 ∧ secs (wo t) pa ≤ q.1 then (q.1 - secs (wo t) pa - tu, q.2 ||| fa t) else (q.1 - tu, q.2)
def rnS (tu pa se : Nat) (o : Nat → Option Nat) (fa wo : Nat → Nat → Nat) : Nat → Nat × Nat
  | 0 => (se, 0)
  | k + 1 => rnStep tu pa (o k) (fa k) (wo k) (rnS tu pa se o fa wo k)
theorem zA_0and (x : Int32) : nI 0 &&& x = 0 := by
  rw [nI_0]
  apply Int32.toBitVec_inj.1
  show 0#32 &&& x.toBitVec = 0#32
  simp
/-- the ages that are shown a text, from 4 on -/
def agM (P : Nat → Bool) : Nat → Nat
  | 0 => 0
  | k + 1 => if P (4 + k) = true then agM P k + 1 else agM P k
def agL (P : Nat → Bool) : Nat → Option Nat
  | 0 => none
  | k + 1 => if P (4 + k) = true then (if agM P k = 0 then some (4 + k) else agL P k) else agL P k
def agG (P : Nat → Bool) : Nat → Option Nat
  | 0 => none
  | k + 1 => if P (4 + k) = true then some (4 + k) else agG P k
theorem agM_le (P : Nat → Bool) : ∀ k, agM P k ≤ k
  | 0 => Nat.le_refl 0
  | k + 1 => by
    show (if P (4 + k) = true then agM P k + 1 else agM P k) ≤ k + 1
    have := agM_le P k
    split <;> omega
abbrev agP (o : Nat → Option Nat) (t : Nat) : Nat → Bool := fun a => decide (o a = some t)
theorem zp_mk {a b a2 b2 : Nat} (h1 : a = a2) (h2 : b = b2) : (a, b) = (a2, b2) := by subst h1; subst h2; rfl
theorem orF_le {acc : Nat} {f : Nat → Nat} (ha : acc ≤ 65535) : ∀ (n : Nat), (∀ j, j < n → f j ≤ 65535) → orF acc f n ≤ 65535
  | 0, _ => ha
  | n + 1, h => or_le (orF_le ha n (fun j hj => h j (by omega))) (h n (by omega))
theorem allF_le {sz : Nat → Nat} {g : Nat → Nat → Nat} (h : ∀ e t, e < 8 → t < sz e → g e t ≤ 65535) : ∀ n, n ≤ 8 → allF sz g n ≤ 65535
  | 0, _ => Nat.zero_le _
  | n + 1, hn => orF_le (allF_le h n (by omega)) _ (fun j hj => h n j (by omega) hj)
/-- what may be a visitor -/
def pVi (x y z : Int32) : Prop := ∃ a b c : Nat, 4 ≤ a ∧ a ≤ 99 ∧ 30 ≤ b ∧ b ≤ 400 ∧ 1 ≤ c ∧ c ≤ 9999 ∧ x = nI a ∧ y = nI b ∧ z = nI c
/-- what may be a text -/
def pE (x : Int32) : Prop := ∃ e : Nat, e < 8 ∧ x = nI e
def pTx (w s z f : Int32) : Prop := ∃ w1 s1 z1 f1 : Nat, (1 ≤ w1 ∧ w1 ≤ 300) ∧ (1 ≤ s1 ∧ s1 ≤ 50 ∧ s1 ≤ w1) ∧ z1 ≤ w1 ∧ (1 ≤ f1 ∧ f1 ≤ 65535) ∧ w = nI w1 ∧ s = nI s1 ∧ z = nI z1 ∧ f = nI f1
theorem pTx_w {w s z f : Int32} (h : ¬ ∃ n : Nat, 1 ≤ n ∧ n ≤ 300 ∧ w = nI n) : ¬ pTx w s z f := fun ⟨w1, _, _, _, h1, _, _, _, e1, _⟩ => h ⟨w1, h1.1, h1.2, e1⟩
theorem pTx_s {w1 m : Nat} {s z f : Int32} (hw : w1 ≤ 300) (hm : m = if w1 < 50 then w1 else 50) (h : ¬ ∃ n : Nat, 1 ≤ n ∧ n ≤ m ∧ s = nI n) : ¬ pTx (nI w1) s z f := by
  rintro ⟨w2, s2, z2, f2, h1, h2, h3, h4, e1, e2, e3, e4⟩
  have h9 := nI_inj (by omega) (by omega) e1
  subst h9
  refine h ⟨s2, h2.1, ?_, e2⟩
  rw [hm]
  split <;> omega
theorem pTx_z {w1 : Nat} {s z f : Int32} (hw : w1 ≤ 300) (h : ¬ ∃ n : Nat, 0 ≤ n ∧ n ≤ w1 ∧ z = nI n) : ¬ pTx (nI w1) s z f := by
  rintro ⟨w2, s2, z2, f2, h1, h2, h3, h4, e1, e2, e3, e4⟩
  have h9 := nI_inj (by omega) (by omega) e1
  subst h9
  exact h ⟨z2, Nat.zero_le _, h3, e3⟩
theorem pTx_f {w s z f : Int32} (h : ¬ ∃ n : Nat, 1 ≤ n ∧ n ≤ 65535 ∧ f = nI n) : ¬ pTx w s z f := fun ⟨_, _, _, f1, _, _, _, h4, _, _, _, e4⟩ => h ⟨f1, h4.1, h4.2, e4⟩
/-- what may be a caption, apart from its text -/
def pCx (w f : Int32) : Prop := ∃ w1 f1 : Nat, (1 ≤ w1 ∧ w1 ≤ 30) ∧ f1 ≤ 65535 ∧ w = nI w1 ∧ f = nI f1
abbrev wdF (sg : Nat → Nat) (e : Nat) : Nat → Nat := fun t => sg (11 + 76 * e + 15 * t + 0)
theorem zd_gt {a b : Nat} (ha : a < 1000000) (hb : b < 1000000) : 0 < nI a - nI b ↔ b < a := by
  rw [Int32.lt_iff_toInt_lt, pk_sub_toInt (by omega) (by omega), show (0 : Int32).toInt = 0 from by decide]
  omega
theorem zd_eq {a b : Nat} (ha : a < 1000000) (hb : b < 1000000) : nI a - nI b = 0 ↔ a = b := by
  rw [← Int32.toInt_inj, pk_sub_toInt (by omega) (by omega), show (0 : Int32).toInt = 0 from by decide]
  omega
theorem enc_shA {rd wd : Nat → Nat} {ag n : Nat} (hn : n < 1000000) : enc (shA rd wd ag n) = if enc (ftA rd wd ag n) = -5 then enc (lsA rd n) else enc (ftA rd wd ag n) := by
  unfold shA
  cases hq : ftA rd wd ag n with
  | none => exact (if_pos rfl).symm
  | some f =>
    have := ftA_lt n hq
    exact (if_neg (enc_ne (by omega))).symm
