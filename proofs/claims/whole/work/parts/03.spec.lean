/-! numbers, and what the texts of the carousel are as functions -/
theorem in_yes {x : Int32} {lo hi : Nat} (hlo : lo < 1000000) (hhi : hi < 1000000) (h1 : ¬ x < nI lo) (h2 : ¬ nI hi < x) : ∃ n : Nat, lo ≤ n ∧ n ≤ hi ∧ x = nI n := by
  rw [Int32.lt_iff_toInt_lt, nI_toInt (by omega)] at h1 h2
  refine ⟨x.toInt.toNat, by omega, by omega, Int32.toInt_inj.mp ?_⟩
  rw [nI_toInt (by omega)]
  omega
theorem in_no1 {x : Int32} {lo hi : Nat} (hlo : lo < 1000000) (hhi : hi < 1000000) (h1 : x < nI lo) : ¬ ∃ n : Nat, lo ≤ n ∧ n ≤ hi ∧ x = nI n := by
  rintro ⟨n, h2, h3, rfl⟩
  have := (nI_ltI (by omega) (by omega)).mp h1
  omega
theorem in_no2 {x : Int32} {lo hi : Nat} (hlo : lo < 1000000) (hhi : hi < 1000000) (h1 : nI hi < x) : ¬ ∃ n : Nat, lo ≤ n ∧ n ≤ hi ∧ x = nI n := by
  rintro ⟨n, h2, h3, rfl⟩
  have := (nI_ltI (by omega) (by omega)).mp h1
  omega
theorem int_yes {x : Int32} {n : Nat} (hn : n < 1000000) (h1 : ¬ x < nI 0) (h2 : ¬ nI n - nI 1 < x) : ∃ k : Nat, k < n ∧ x = nI k := by
  rw [Int32.lt_iff_toInt_lt] at h1 h2
  rw [nI_toInt (by omega)] at h1
  rw [pk_sub_toInt (by omega) (by omega)] at h2
  refine ⟨x.toInt.toNat, by omega, Int32.toInt_inj.mp ?_⟩
  rw [nI_toInt (by omega)]
  omega
theorem int_no1 {x : Int32} {n : Nat} (hn : n < 1000000) (h1 : x < nI 0) : ¬ ∃ k : Nat, k < n ∧ x = nI k := by
  rintro ⟨k, h2, rfl⟩
  have := (nI_ltI (by omega) (by omega)).mp h1
  omega
theorem int_no2 {x : Int32} {n : Nat} (hn : n < 1000000) (h1 : nI n - nI 1 < x) : ¬ ∃ k : Nat, k < n ∧ x = nI k := by
  rintro ⟨k, h2, rfl⟩
  rw [Int32.lt_iff_toInt_lt, pk_sub_toInt (by omega) (by omega), nI_toInt (by omega)] at h1
  omega
theorem nI_inj {a b : Nat} (ha : a < 2147483648) (hb : b < 2147483648) (h : nI a = nI b) : a = b := (nI_eq ha hb).mp h
theorem zA_sl : ∀ n, n < 32 → ((nI n &&& 31).toBitVec.smod 32).toNat = n := by decide +kernel
theorem zA_shr {v k : Nat} (hv : v < 2147483648) (hk : k < 32) : nI v >>> (nI k &&& 31) = nI (v / 2 ^ k) := pk_shrN hv _ k (zA_sl k hk)
theorem zA_one (v : Nat) : nI (v &&& 1) = nI (v % 2) := by rw [Nat.and_one_is_mod]
/-- the bits of a number below a place -/
def bitsN (v : Nat) : Nat → Nat
  | 0 => 0
  | k + 1 => bitsN v k + v / 2 ^ k % 2
theorem bitsN_le (v : Nat) : ∀ k, bitsN v k ≤ k
  | 0 => Nat.le_refl 0
  | k + 1 => by
    show bitsN v k + v / 2 ^ k % 2 ≤ k + 1
    have h1 := bitsN_le v k
    have h2 : v / 2 ^ k % 2 < 2 := Nat.mod_lt _ (by decide)
    omega
/-! where the reference keeps what -/
abbrev mx (e : Nat) : Nat := 10 + 76 * e
abbrev ix (e t w : Nat) : Nat := 11 + 76 * e + 15 * t + w
abbrev cx (e t c w : Nat) : Nat := 11 + 76 * e + 15 * t + (6 + 3 * c + w)
def rdg (sg : Nat → Nat) (e t : Nat) : Nat := 4 + sg (11 + 76 * e + 15 * t + 0) / (2 * sg (11 + 76 * e + 15 * t + 1)) + 30 * sg (11 + 76 * e + 15 * t + 2) / sg (11 + 76 * e + 15 * t + 0)
def pTn (sz : Nat → Nat) (x y : Int32) : Prop := ∃ e t : Nat, e < 8 ∧ t < sz e ∧ x = nI e ∧ y = nI t
def pCp (sz : Nat → Nat) (cs : Nat → Nat → Nat) (x y z : Int32) : Prop := ∃ e t k : Nat, e < 8 ∧ t < sz e ∧ k < cs e t ∧ x = nI e ∧ y = nI t ∧ z = nI k
theorem pTn_no {sz : Nat → Nat} {e1 : Nat} {y : Int32} (he : e1 < 8) (h : ¬ ∃ k : Nat, k < sz e1 ∧ y = nI k) : ¬ pTn sz (nI e1) y := by
  rintro ⟨e, t, q1, q2, q3, q4⟩
  have h9 := nI_inj (by omega) (by omega) q3
  subst h9
  exact h ⟨t, q2, q4⟩
theorem pCp_no {sz : Nat → Nat} {cs : Nat → Nat → Nat} {e1 t1 : Nat} {z : Int32} (he : e1 < 8) (ht : t1 < 1000000) (hs : ∀ e t, e < 8 → t < sz e → t < 1000000) (h : ¬ ∃ k : Nat, k < cs e1 t1 ∧ z = nI k) : ¬ pCp sz cs (nI e1) (nI t1) z := by
  rintro ⟨e, t, k, q1, q2, q3, q4, q5, q6⟩
  have h8 := nI_inj (by omega) (by omega) q4
  subst h8
  have h9 := nI_inj (by omega) (by have := hs e1 t q1 q2; omega) q5
  subst h9
  exact h ⟨k, q3, q6⟩
def txOK (sg : Nat → Nat) (e t : Nat) : Prop :=
  (1 ≤ sg (11 + 76 * e + 15 * t + 0) ∧ sg (11 + 76 * e + 15 * t + 0) ≤ 300) ∧ (1 ≤ sg (11 + 76 * e + 15 * t + 1) ∧ sg (11 + 76 * e + 15 * t + 1) ≤ 50) ∧ sg (11 + 76 * e + 15 * t + 2) ≤ sg (11 + 76 * e + 15 * t + 0) ∧ (1 ≤ sg (11 + 76 * e + 15 * t + 3) ∧ sg (11 + 76 * e + 15 * t + 3) ≤ 65535) ∧ sg (11 + 76 * e + 15 * t + 5) ≤ 3 ∧ ∀ c, c < sg (11 + 76 * e + 15 * t + 5) → 1 ≤ sg (11 + 76 * e + 15 * t + (6 + 3 * c + 0)) ∧ sg (11 + 76 * e + 15 * t + (6 + 3 * c + 0)) ≤ 30 ∧ sg (11 + 76 * e + 15 * t + (6 + 3 * c + 1)) ≤ 65535
def mOK (sg : Nat → Nat) : Prop :=
  (sg 0 < 8 ∧ sg 1 ≤ 60 ∧ sg 2 ≤ 1 ∧ (sg 2 = 1 → (4 ≤ sg 3 ∧ sg 3 ≤ 99) ∧ 30 ≤ sg 4 ∧ sg 4 ≤ 400) ∧ sg 5 ≤ 9999 ∧ sg 6 ≤ 65535) ∧ (∀ e, e < 8 → sg (10 + 76 * e) ≤ 5) ∧ ∀ e t, e < 8 → t < sg (10 + 76 * e) → txOK sg e t
theorem rdg_le {sg : Nat → Nat} {e t : Nat} (h : txOK sg e t) : 4 ≤ rdg sg e t ∧ rdg sg e t ≤ 400 := by
  obtain ⟨⟨h1, h2⟩, ⟨h3, h4⟩, h5, -⟩ := h
  unfold rdg
  generalize sg (11 + 76 * e + 15 * t + 0) = w at *
  generalize sg (11 + 76 * e + 15 * t + 1) = s at *
  generalize sg (11 + 76 * e + 15 * t + 2) = z at *
  have a1 : w / (2 * s) ≤ w := Nat.div_le_self _ _
  have a2 : 30 * z / w ≤ 30 := by
    apply Nat.le_of_lt_succ
    rw [Nat.div_lt_iff_lt_mul (by omega)]
    omega
  generalize w / (2 * s) = q1 at *
  generalize 30 * z / w = q2 at *
  omega
/-! what a reader is shown: the one with the greatest reading age among those that fit, else the least -/
def lsStep (rd : Nat → Nat) (t : Nat) : Option Nat → Option Nat
  | none => some t
  | some l => if rd t < rd l then some t else some l
def ftStep (rd wd : Nat → Nat) (ag t : Nat) : Option Nat → Option Nat
  | none => if rd t ≤ ag then some t else none
  | some f => if rd t ≤ ag ∧ (rd f < rd t ∨ (rd f = rd t ∧ wd t < wd f)) then some t else some f
def lsA (rd : Nat → Nat) : Nat → Option Nat
  | 0 => none
  | t + 1 => lsStep rd t (lsA rd t)
def ftA (rd wd : Nat → Nat) (ag : Nat) : Nat → Option Nat
  | 0 => none
  | t + 1 => ftStep rd wd ag t (ftA rd wd ag t)
def shA (rd wd : Nat → Nat) (ag n : Nat) : Option Nat := match ftA rd wd ag n with
  | none => lsA rd n
  | some f => some f
def enc : Option Nat → Int32
  | none => -5
  | some t => nI t
theorem lsA_lt {rd : Nat → Nat} : ∀ (n : Nat) {l : Nat}, lsA rd n = some l → l < n
  | 0, l, h => by cases h
  | n + 1, l, h => by
    have h : lsStep rd n (lsA rd n) = some l := h
    cases hq : lsA rd n with
    | none => rw [hq] at h; cases h; exact Nat.lt_succ_self _
    | some k =>
      have hk := lsA_lt n hq
      rw [hq] at h
      unfold lsStep at h
      simp only at h
      split at h <;> (cases h; omega)
theorem ftA_lt {rd wd : Nat → Nat} {ag : Nat} : ∀ (n : Nat) {l : Nat}, ftA rd wd ag n = some l → l < n
  | 0, l, h => by cases h
  | n + 1, l, h => by
    have h : ftStep rd wd ag n (ftA rd wd ag n) = some l := h
    cases hq : ftA rd wd ag n with
    | none =>
      rw [hq] at h
      unfold ftStep at h
      simp only at h
      split at h
      · cases h; omega
      · cases h
    | some k =>
      have hk := ftA_lt n hq
      rw [hq] at h
      unfold ftStep at h
      simp only at h
      split at h <;> (cases h; omega)
theorem shA_lt {rd wd : Nat → Nat} {ag n l : Nat} (h : shA rd wd ag n = some l) : l < n := by
  unfold shA at h
  cases hq : ftA rd wd ag n with
  | none => rw [hq] at h; exact lsA_lt n h
  | some k => rw [hq] at h; cases h; exact ftA_lt n hq
theorem lsA_some {rd : Nat → Nat} : ∀ (n : Nat), 0 < n → ∃ l, lsA rd n = some l
  | 0, h => absurd h (Nat.lt_irrefl _)
  | n + 1, _ => by
    show ∃ l, lsStep rd n (lsA rd n) = some l
    cases lsA rd n with
    | none => exact ⟨_, rfl⟩
    | some k =>
      unfold lsStep
      simp only
      split
      · exact ⟨_, rfl⟩
      · exact ⟨_, rfl⟩
abbrev shT (sg : Nat → Nat) (e ag : Nat) : Option Nat := shA (rdg sg e) (fun t => sg (11 + 76 * e + 15 * t + 0)) ag (sg (10 + 76 * e))
theorem enc_ne {t : Nat} (h : t < 1000000) : ¬ nI t = -5 := by
  intro q
  have h1 := congrArg Int32.toInt q
  rw [nI_toInt (by omega), show (-5 : Int32).toInt = -5 from by decide] at h1
  omega

/-! rows that are copied, shifted, emptied, place by place -/
def cpF (d q : Nat → Nat) (o w k : Nat) : Nat → Nat := fun j => if o ≤ j ∧ j < o + k then q (w + (j - o)) else d j
theorem cpF_0 (d q : Nat → Nat) (o w : Nat) : d = cpF d q o w 0 := by
  funext j
  unfold cpF
  rw [if_neg (by omega)]
theorem cpF_s {d q : Nat → Nat} {o w k i x : Nat} (hi : i = o + k) (hx : x = q (w + k)) : arU (cpF d q o w k) i x = cpF d q o w (k + 1) := by
  subst hi hx
  funext j
  unfold arU cpF
  by_cases h : j = o + k
  · subst h
    rw [if_pos rfl, if_pos (by omega), show w + (o + k - o) = w + k from by omega]
  · rw [if_neg h]
    by_cases h2 : o ≤ j ∧ j < o + k
    · rw [if_pos h2, if_pos (by omega)]
    · rw [if_neg h2, if_neg (by omega)]
theorem cpF_in {d q : Nat → Nat} {o w k j : Nat} (h1 : o ≤ j) (h2 : j < o + k) : cpF d q o w k j = q (w + (j - o)) := if_pos ⟨h1, h2⟩
theorem cpF_out {d q : Nat → Nat} {o w k j : Nat} (h : ¬ (o ≤ j ∧ j < o + k)) : cpF d q o w k j = d j := if_neg h
/-- a row whose places from o on hold, as far as k, what lay w places behind them -/
def sfF (d : Nat → Nat) (o w k : Nat) : Nat → Nat := fun j => if o ≤ j ∧ j < o + k then d (j + w) else d j
theorem sfF_0 (d : Nat → Nat) (o w : Nat) : d = sfF d o w 0 := by
  funext j
  unfold sfF
  rw [if_neg (by omega)]
theorem sfF_s {d : Nat → Nat} {o w k i x : Nat} (hi : i = o + k) (hx : x = sfF d o w k (o + k + w)) : arU (sfF d o w k) i x = sfF d o w (k + 1) := by
  subst hi hx
  funext j
  unfold arU sfF
  by_cases h : j = o + k
  · subst h
    rw [if_pos rfl, if_neg (by omega), if_pos (by omega)]
  · rw [if_neg h]
    by_cases h2 : o ≤ j ∧ j < o + k
    · rw [if_pos h2, if_pos (by omega)]
    · rw [if_neg h2, if_neg (by omega)]
theorem sfF_in {d : Nat → Nat} {o w k j : Nat} (h1 : o ≤ j) (h2 : j < o + k) : sfF d o w k j = d (j + w) := if_pos ⟨h1, h2⟩
theorem sfF_out {d : Nat → Nat} {o w k j : Nat} (h : ¬ (o ≤ j ∧ j < o + k)) : sfF d o w k j = d j := if_neg h
/-- a row with zeros from o on, as far as k -/
def zrF (d : Nat → Nat) (o k : Nat) : Nat → Nat := fun j => if o ≤ j ∧ j < o + k then 0 else d j
theorem zrF_0 (d : Nat → Nat) (o : Nat) : d = zrF d o 0 := by
  funext j
  unfold zrF
  rw [if_neg (by omega)]
theorem zrF_s {d : Nat → Nat} {o k i : Nat} (hi : i = o + k) : arU (zrF d o k) i 0 = zrF d o (k + 1) := by
  subst hi
  funext j
  unfold arU zrF
  by_cases h : j = o + k
  · subst h
    rw [if_pos rfl, if_pos (by omega)]
  · rw [if_neg h]
    by_cases h2 : o ≤ j ∧ j < o + k
    · rw [if_pos h2, if_pos (by omega)]
    · rw [if_neg h2, if_neg (by omega)]
/-- what the reference keeps of the states that were: at most four, the oldest goes -/
def knB (kn : Nat) (be sg : Nat → Nat) : Nat → Nat := if kn = 4 then cpF (sfF be 0 618 1854) sg (618 * 3) 0 618 else cpF be sg (618 * kn) 0 618
def knK (kn : Nat) : Nat := if kn = 4 then 4 else kn + 1
theorem knK_le {kn : Nat} (h : kn ≤ 4) : knK kn ≤ 4 := by
  unfold knK
  by_cases h2 : kn = 4
  · rw [if_pos h2]; omega
  · rw [if_neg h2]; omega
/-- a text added, a caption added, in the reference's row -/
def addT0 (sg : Nat → Nat) (e n w s z f : Nat) : Nat → Nat := arU (arU (arU (arU (zrF sg (11 + 76 * e + 15 * n) 15) (11 + 76 * e + 15 * n + 0) w) (11 + 76 * e + 15 * n + 1) s) (11 + 76 * e + 15 * n + 2) z) (11 + 76 * e + 15 * n + 3) f
def addT (sg : Nat → Nat) (e w s z f : Nat) : Nat → Nat := arU (addT0 sg e (sg (10 + 76 * e)) w s z f) (10 + 76 * e) (addT0 sg e (sg (10 + 76 * e)) w s z f (10 + 76 * e) + 1)
def addC0 (sg : Nat → Nat) (e t n w f : Nat) : Nat → Nat := arU (arU (arU sg (11 + 76 * e + 15 * t + (6 + 3 * n + 0)) w) (11 + 76 * e + 15 * t + (6 + 3 * n + 1)) f) (11 + 76 * e + 15 * t + (6 + 3 * n + 2)) 0
def addC (sg : Nat → Nat) (e t w f : Nat) : Nat → Nat := arU (addC0 sg e t (sg (11 + 76 * e + 15 * t + 5)) w f) (11 + 76 * e + 15 * t + 5) (addC0 sg e t (sg (11 + 76 * e + 15 * t + 5)) w f (11 + 76 * e + 15 * t + 5) + 1)
/-- what may be a text -/
def pE (x : Int32) : Prop := ∃ e : Nat, e < 8 ∧ x = nI e
def pTx (w s z f : Int32) : Prop := ∃ w1 s1 z1 f1 : Nat, (1 ≤ w1 ∧ w1 ≤ 300) ∧ (1 ≤ s1 ∧ s1 ≤ 50 ∧ s1 ≤ w1) ∧ z1 ≤ w1 ∧ (1 ≤ f1 ∧ f1 ≤ 65535) ∧ w = nI w1 ∧ s = nI s1 ∧ z = nI z1 ∧ f = nI f1
theorem pTx_w {w s z f : Int32} (h : ¬ ∃ n : Nat, 1 ≤ n ∧ n ≤ 300 ∧ w = nI n) : ¬ pTx w s z f := fun ⟨w1, _, _, _, h1, _, _, _, e1, _⟩ => h ⟨w1, h1.1, h1.2, e1⟩
theorem pTx_s {w1 m : Nat} {s z f : Int32} (hw : w1 ≤ 300) (hm : m = if w1 < 50 then w1 else 50) (h : ¬ ∃ n : Nat, 1 ≤ n ∧ n ≤ m ∧ s = nI n) : ¬ pTx (nI w1) s z f := by
  rintro ⟨w2, s2, z2, f2, h1, h2, h3, h4, e1, e2, e3, e4⟩
  have h9 := nI_inj (by omega) (by omega) e1
  subst h9
  refine h ⟨s2, h2.1, ?_, e2⟩
  rw [hm]
  split <;> omega
theorem pTx_z {w1 : Nat} {s z f : Int32} (hw : w1 ≤ 300) (h : ¬ ∃ n : Nat, 0 ≤ n ∧ n ≤ w1 ∧ z = nI n) : ¬ pTx (nI w1) s z f := by
  rintro ⟨w2, s2, z2, f2, h1, h2, h3, h4, e1, e2, e3, e4⟩
  have h9 := nI_inj (by omega) (by omega) e1
  subst h9
  exact h ⟨z2, Nat.zero_le _, h3, e3⟩
theorem pTx_f {w s z f : Int32} (h : ¬ ∃ n : Nat, 1 ≤ n ∧ n ≤ 65535 ∧ f = nI n) : ¬ pTx w s z f := fun ⟨_, _, _, f1, _, _, _, h4, _, _, _, e4⟩ => h ⟨f1, h4.1, h4.2, e4⟩
/-- what may be a caption, apart from its text -/
def pCx (w f : Int32) : Prop := ∃ w1 f1 : Nat, (1 ≤ w1 ∧ w1 ≤ 30) ∧ f1 ≤ 65535 ∧ w = nI w1 ∧ f = nI f1
abbrev wdF (sg : Nat → Nat) (e : Nat) : Nat → Nat := fun t => sg (11 + 76 * e + 15 * t + 0)
theorem zd_gt {a b : Nat} (ha : a < 1000000) (hb : b < 1000000) : 0 < nI a - nI b ↔ b < a := by
  rw [Int32.lt_iff_toInt_lt, pk_sub_toInt (by omega) (by omega), show (0 : Int32).toInt = 0 from by decide]
  omega
theorem zd_eq {a b : Nat} (ha : a < 1000000) (hb : b < 1000000) : nI a - nI b = 0 ↔ a = b := by
  rw [← Int32.toInt_inj, pk_sub_toInt (by omega) (by omega), show (0 : Int32).toInt = 0 from by decide]
  omega
theorem enc_shA {rd wd : Nat → Nat} {ag n : Nat} (hn : n < 1000000) : enc (shA rd wd ag n) = if enc (ftA rd wd ag n) = -5 then enc (lsA rd n) else enc (ftA rd wd ag n) := by
  unfold shA
  cases hq : ftA rd wd ag n with
  | none => exact (if_pos rfl).symm
  | some f =>
    have := ftA_lt n hq
    exact (if_neg (enc_ne (by omega))).symm
