/-! what is shown, and the ages that are shown a text -/
theorem ftA_max {rd wd : Nat → Nat} {ag : Nat} : ∀ n, (ftA rd wd ag n = none → ∀ t, t < n → ag < rd t) ∧ ∀ f, ftA rd wd ag n = some f → rd f ≤ ag ∧ ∀ t, t < n → rd t ≤ ag → rd t ≤ rd f
  | 0 => ⟨fun _ t ht => absurd ht (Nat.not_lt_zero _), fun f h => by cases h⟩
  | n + 1 => by
    obtain ⟨i1, i2⟩ := ftA_max (rd := rd) (wd := wd) (ag := ag) n
    have e : ftA rd wd ag (n + 1) = ftStep rd wd ag n (ftA rd wd ag n) := rfl
    rw [e]
    cases hq : ftA rd wd ag n with
    | none =>
      have i3 := i1 hq
      unfold ftStep
      simp only
      split
      · rename_i hc
        refine ⟨fun h => by (cases h), fun f h => ?_⟩
        cases h
        refine ⟨hc, fun t ht hl => ?_⟩
        by_cases h2 : t = n
        · subst h2; exact Nat.le_refl _
        · have := i3 t (by omega); omega
      · rename_i hc
        refine ⟨fun _ t ht => ?_, fun f h => by cases h⟩
        by_cases h2 : t = n
        · subst h2; omega
        · exact i3 t (by omega)
    | some k =>
      obtain ⟨i3, i4⟩ := i2 k hq
      unfold ftStep
      simp only
      split
      · rename_i hc
        refine ⟨fun h => by (cases h), fun f h => ?_⟩
        cases h
        refine ⟨hc.1, fun t ht hl => ?_⟩
        by_cases h2 : t = n
        · subst h2; exact Nat.le_refl _
        · have := i4 t (by omega) hl; omega
      · rename_i hc
        refine ⟨fun h => by (cases h), fun f h => ?_⟩
        cases h
        refine ⟨i3, fun t ht hl => ?_⟩
        by_cases h2 : t = n
        · subst h2; omega
        · exact i4 t (by omega) hl
theorem lsA_min {rd : Nat → Nat} : ∀ n l, lsA rd n = some l → ∀ t, t < n → rd l ≤ rd t
  | 0, l, h => by cases h
  | n + 1, l, h => by
    have e : lsA rd (n + 1) = lsStep rd n (lsA rd n) := rfl
    rw [e] at h
    intro t ht
    cases hq : lsA rd n with
    | none =>
      rw [hq] at h
      cases h
      have h0 : n = 0 := by
        rcases Nat.eq_zero_or_pos n with q | q
        · exact q
        · obtain ⟨z, hz⟩ := lsA_some (rd := rd) n q
          rw [hz] at hq; cases hq
      have : t = n := by omega
      subst this
      exact Nat.le_refl _
    | some k =>
      have i := lsA_min n k hq
      rw [hq] at h
      unfold lsStep at h
      simp only at h
      split at h
      · rename_i hc
        cases h
        by_cases h2 : t = n
        · subst h2; exact Nat.le_refl _
        · have := i t (by omega); omega
      · rename_i hc
        cases h
        by_cases h2 : t = n
        · subst h2; omega
        · exact i t (by omega)
theorem shT_0 {sg : Nat → Nat} {e ag : Nat} (h : shT sg e ag = none) : sg (10 + 76 * e) = 0 := by
  rcases Nat.eq_zero_or_pos (sg (10 + 76 * e)) with q | q
  · exact q
  · obtain ⟨l, hl⟩ := lsA_some (rd := rdg sg e) _ q
    have h : shA (rdg sg e) (fun t => sg (11 + 76 * e + 15 * t + 0)) ag (sg (10 + 76 * e)) = none := h
    unfold shA at h
    split at h
    · rw [hl] at h; cases h
    · cases h
theorem shT_s {sg : Nat → Nat} {e ag : Nat} (h : 0 < sg (10 + 76 * e)) : ∃ s, shT sg e ag = some s ∧ s < sg (10 + 76 * e) := by
  cases hq : shT sg e ag with
  | none => have := shT_0 hq; omega
  | some s => exact ⟨s, rfl, shA_lt hq⟩
theorem sh_hi {sg : Nat → Nat} {e ag s : Nat} (h : shT sg e ag = some s) (hb : ag < rdg sg e s) {t : Nat} (ht : t < sg (10 + 76 * e)) : rdg sg e s ≤ rdg sg e t := by
  have h : shA (rdg sg e) (fun t => sg (11 + 76 * e + 15 * t + 0)) ag (sg (10 + 76 * e)) = some s := h
  unfold shA at h
  split at h
  · exact lsA_min _ _ h t ht
  · rename_i f hf
    cases h
    have := ((ftA_max (rd := rdg sg e) (wd := fun t => sg (11 + 76 * e + 15 * t + 0)) (ag := ag) _).2 _ hf).1
    omega
theorem sh_lo {sg : Nat → Nat} {e ag s : Nat} (h : shT sg e ag = some s) (hb : rdg sg e s ≤ ag) {t : Nat} (ht : t < sg (10 + 76 * e)) (hl : rdg sg e t ≤ ag) : rdg sg e t ≤ rdg sg e s := by
  have hs := shA_lt h
  have h : shA (rdg sg e) (fun t => sg (11 + 76 * e + 15 * t + 0)) ag (sg (10 + 76 * e)) = some s := h
  unfold shA at h
  split at h
  · rename_i hf
    have := (ftA_max (rd := rdg sg e) (wd := fun t => sg (11 + 76 * e + 15 * t + 0)) (ag := ag) _).1 hf s hs
    omega
  · rename_i f hf
    cases h
    exact ((ftA_max (rd := rdg sg e) (wd := fun t => sg (11 + 76 * e + 15 * t + 0)) (ag := ag) _).2 _ hf).2 t ht hl
/-- how many ages are shown the texts below one -/
abbrev agS (o : Nat → Option Nat) : Nat → Nat := sumN (fun t => agM (agP o t) 96)
theorem sumN_1 {f g : Nat → Nat} {t0 : Nat} (h : ∀ t, t ≠ t0 → g t = f t) (h0 : g t0 = f t0 + 1) : ∀ n, sumN g n = sumN f n + (if t0 < n then 1 else 0)
  | 0 => rfl
  | n + 1 => by
    have i := sumN_1 h h0 n
    show sumN g n + g n = sumN f n + f n + _
    rw [i]
    by_cases q : n = t0
    · subst q
      rw [h0, if_neg (Nat.lt_irrefl _), if_pos (Nat.lt_succ_self _)]
      omega
    · rw [h n q]
      by_cases q2 : t0 < n
      · rw [if_pos q2, if_pos (by omega)]; omega
      · rw [if_neg q2, if_neg (by omega)]; omega
theorem sumN_0 : ∀ n, sumN (fun _ => 0) n = 0
  | 0 => rfl
  | n + 1 => by show sumN (fun _ => 0) n + 0 = 0; rw [sumN_0 n]
theorem agM_sum {o : Nat → Option Nat} {n : Nat} : ∀ k, (∀ a, 4 ≤ a → a < 4 + k → ∃ t, o a = some t ∧ t < n) → sumN (fun t => agM (agP o t) k) n = k
  | 0, _ => sumN_0 n
  | k + 1, h => by
    have i := agM_sum (o := o) (n := n) k (fun a h1 h2 => h a h1 (by omega))
    obtain ⟨t0, h1, h2⟩ := h (4 + k) (by omega) (by omega)
    have e : sumN (fun t => agM (agP o t) (k + 1)) n = sumN (fun t => agM (agP o t) k) n + (if t0 < n then 1 else 0) := by
      refine sumN_1 (fun t ht => ?_) ?_ n
      · show (if agP o t (4 + k) = true then agM (agP o t) k + 1 else agM (agP o t) k) = agM (agP o t) k
        refine if_neg (fun q => ht ?_)
        have q2 : o (4 + k) = some t := of_decide_eq_true q
        rw [h1] at q2
        exact (Option.some.inj q2).symm
      · show (if agP o t0 (4 + k) = true then agM (agP o t0) k + 1 else agM (agP o t0) k) = agM (agP o t0) k + 1
        exact if_pos (decide_eq_true h1)
    rw [e, i, if_pos h2]
theorem agS_96 {sg : Nat → Nat} {e : Nat} (h : 0 < sg (10 + 76 * e)) : agS (fun a => shT sg e a) (sg (10 + 76 * e)) = 96 := agM_sum 96 (fun a _ _ => shT_s h)
theorem agL_0 {P : Nat → Bool} : ∀ k, agL P k = none → agM P k = 0
  | 0, _ => rfl
  | k + 1, h => by
    have h : (if P (4 + k) = true then (if agM P k = 0 then some (4 + k) else agL P k) else agL P k) = none := h
    show (if P (4 + k) = true then agM P k + 1 else agM P k) = 0
    by_cases q : P (4 + k) = true
    · rw [if_pos q] at h
      by_cases q2 : agM P k = 0
      · rw [if_pos q2] at h; cases h
      · rw [if_neg q2] at h; exact absurd (agL_0 k h) q2
    · rw [if_neg q] at h ⊢
      exact agL_0 k h
theorem agL_c {P : Nat → Bool} : ∀ k, agL P k = none → ∀ a, 4 ≤ a → a < 4 + k → ¬ P a = true
  | 0, _, a, h1, h2 => by omega
  | k + 1, h, a, h1, h2 => by
    have h : (if P (4 + k) = true then (if agM P k = 0 then some (4 + k) else agL P k) else agL P k) = none := h
    by_cases q : P (4 + k) = true
    · rw [if_pos q] at h
      by_cases q2 : agM P k = 0
      · rw [if_pos q2] at h; cases h
      · rw [if_neg q2] at h; exact absurd (agL_0 k h) q2
    · rw [if_neg q] at h
      rcases Nat.lt_or_ge a (4 + k) with q3 | q3
      · exact agL_c k h a h1 q3
      · rw [show a = 4 + k from by omega]; exact q
theorem agL_1 {P : Nat → Bool} : ∀ k l, agL P k = some l → 0 < agM P k ∧ 4 ≤ l ∧ l < 4 + k ∧ ∀ a, 4 ≤ a → a < 4 + k → P a = true → l ≤ a
  | 0, l, h => by cases h
  | k + 1, l, h => by
    have h : (if P (4 + k) = true then (if agM P k = 0 then some (4 + k) else agL P k) else agL P k) = some l := h
    show 0 < (if P (4 + k) = true then agM P k + 1 else agM P k) ∧ _
    by_cases q : P (4 + k) = true
    · rw [if_pos q] at h ⊢
      by_cases q2 : agM P k = 0
      · rw [if_pos q2] at h
        cases h
        refine ⟨by omega, by omega, by omega, fun a h1 h2 h3 => ?_⟩
        rcases Nat.lt_or_ge a (4 + k) with q3 | q3
        · exfalso
          cases hq : agL P k with
          | none => exact agL_c k hq a h1 q3 h3
          | some z => have := (agL_1 k z hq).1; omega
        · omega
      · rw [if_neg q2] at h
        obtain ⟨i1, i2, i3, i4⟩ := agL_1 k l h
        refine ⟨by omega, i2, by omega, fun a h1 h2 h3 => ?_⟩
        rcases Nat.lt_or_ge a (4 + k) with q3 | q3
        · exact i4 a h1 q3 h3
        · omega
    · rw [if_neg q] at h ⊢
      obtain ⟨i1, i2, i3, i4⟩ := agL_1 k l h
      refine ⟨i1, i2, by omega, fun a h1 h2 h3 => ?_⟩
      rcases Nat.lt_or_ge a (4 + k) with q3 | q3
      · exact i4 a h1 q3 h3
      · rw [show a = 4 + k from by omega] at h3; exact absurd h3 q
theorem agG_1 {P : Nat → Bool} : ∀ k a, 4 ≤ a → a < 4 + k → P a = true → ∃ g, agG P k = some g ∧ a ≤ g ∧ g < 4 + k
  | 0, a, h1, h2, _ => by omega
  | k + 1, a, h1, h2, h3 => by
    show ∃ g, (if P (4 + k) = true then some (4 + k) else agG P k) = some g ∧ _
    by_cases q : P (4 + k) = true
    · rw [if_pos q]
      exact ⟨_, rfl, by omega, by omega⟩
    · rw [if_neg q]
      rcases Nat.lt_or_ge a (4 + k) with q3 | q3
      · obtain ⟨g, i1, i2, i3⟩ := agG_1 k a h1 q3 h3
        exact ⟨g, i1, i2, by omega⟩
      · rw [show a = 4 + k from by omega] at h3; exact absurd h3 q
theorem agX {sg : Nat → Nat} {e t ag : Nat} (h4 : 4 ≤ ag) (h99 : ag ≤ 99) (h : shT sg e ag = some t) : (∃ l, agL (agP (fun a => shT sg e a) t) 96 = some l ∧ 4 ≤ l ∧ l ≤ ag) ∧ ∃ g, agG (agP (fun a => shT sg e a) t) 96 = some g ∧ ag ≤ g ∧ g ≤ 99 := by
  have hp : agP (fun a => shT sg e a) t ag = true := decide_eq_true h
  constructor
  · cases hq : agL (agP (fun a => shT sg e a) t) 96 with
    | none => exact absurd hp (agL_c 96 hq ag h4 (by omega))
    | some l =>
      obtain ⟨i1, i2, i3, i4⟩ := agL_1 96 l hq
      exact ⟨l, rfl, i2, i4 ag h4 (by omega) hp⟩
  · obtain ⟨g, i1, i2, i3⟩ := agG_1 96 ag h4 (by omega) hp
    exact ⟨g, i1, i2, by omega⟩
theorem metF_in {sh : Nat → Option Nat} {g : Nat → Nat → Nat} {e t : Nat} (h : sh e = some t) : ∀ n, e < n → sB (g e t) (metF sh g n)
  | 0, q => absurd q (Nat.not_lt_zero _)
  | n + 1, q => by
    show sB (g e t) (metF sh g n ||| (match sh n with | none => 0 | some t => g n t))
    by_cases c : e = n
    · subst c
      rw [h]
      exact sB_r _ _
    · exact sB_tr (metF_in h n (by omega)) (sB_l _ _)
theorem orF_in {acc : Nat} {f : Nat → Nat} {t : Nat} : ∀ n, t < n → sB (f t) (orF acc f n)
  | 0, q => absurd q (Nat.not_lt_zero _)
  | n + 1, q => by
    show sB (f t) (orF acc f n ||| f n)
    by_cases c : t = n
    · subst c; exact sB_r _ _
    · exact sB_tr (orF_in n (by omega)) (sB_l _ _)
theorem orF_acc {acc : Nat} {f : Nat → Nat} : ∀ n, sB acc (orF acc f n)
  | 0 => sB_rf _
  | n + 1 => sB_tr (orF_acc n) (sB_l _ _)
theorem allF_in {sz : Nat → Nat} {g : Nat → Nat → Nat} {e t : Nat} (ht : t < sz e) : ∀ n, e < n → sB (g e t) (allF sz g n)
  | 0, q => absurd q (Nat.not_lt_zero _)
  | n + 1, q => by
    show sB (g e t) (orF (allF sz g n) (g n) (sz n))
    by_cases c : e = n
    · subst c; exact orF_in (f := g e) _ ht
    · exact sB_tr (allF_in ht n (by omega)) (orF_acc _)
theorem rnS_in {tu pa se U : Nat} {o : Nat → Option Nat} {fa wo : Nat → Nat → Nat} (h : ∀ j t, o j = some t → sB (fa j t) U) : ∀ k, sB (rnS tu pa se o fa wo k).2 U
  | 0 => sB_0 _
  | k + 1 => by
    have i := rnS_in (tu := tu) (pa := pa) (se := se) (o := o) (fa := fa) (wo := wo) h k
    show sB (rnStep tu pa (o k) (fa k) (wo k) (rnS tu pa se o fa wo k)).2 U
    generalize rnS tu pa se o fa wo k = q at i
    unfold rnStep
    cases ho : o k with
    | none => exact i
    | some t =>
      simp only
      split
      · exact sB_or i (h k t ho)
      · exact i
theorem rn_0 {sg : Nat → Nat} {ag pa se : Nat} : nI (rnX sg ag pa se 8).2 &&& (andN (allF (szF sg) (atF sg 3) 8) (metF (fun e => shT sg e ag) (atF sg 3) 8) ||| (nI (allF (szF sg) (atF sg 3) 8) ^^^ (-1))) = 0 := by
  refine round_0 (rnS_in (fun j t h => ?_) 8) (rnS_in (fun j t h => ?_) 8)
  · exact metF_in (sh := fun e => shT sg e ag) (g := atF sg 3) (e := (sg 0 + j) % 8) h 8 (Nat.mod_lt _ (by decide))
  · exact allF_in (sz := szF sg) (g := atF sg 3) (e := (sg 0 + j) % 8) (shA_lt h) 8 (Nat.mod_lt _ (by decide))
