/-! what the pad says: signs, numbers, letters, entries, as functions of the pad's row, its length and a place -/
/-! a row behind an act is in order again -/
theorem ix_out {e n e2 t2 w : Nat} (hn : n < 5) (ht : t2 < 5) (hw : w < 15) (h : e2 ≠ e ∨ t2 ≠ n) : ¬ (11 + 76 * e + 15 * n ≤ 11 + 76 * e2 + 15 * t2 + w ∧ 11 + 76 * e2 + 15 * t2 + w < 11 + 76 * e + 15 * n + 15) := by
  rintro ⟨q1, q2⟩
  rcases Nat.lt_trichotomy e e2 with h1 | h1 | h1
  · have : 76 * e + 76 ≤ 76 * e2 := by omega
    omega
  · subst h1
    rcases Nat.lt_trichotomy t2 n with h2 | h2 | h2
    · omega
    · omega
    · omega
  · have : 76 * e2 + 76 ≤ 76 * e := by omega
    omega
theorem ix_mx {e e2 t2 w : Nat} (ht : t2 < 5) (hw : w < 15) : 11 + 76 * e2 + 15 * t2 + w ≠ 10 + 76 * e := by
  intro q
  rcases Nat.lt_trichotomy e e2 with h1 | h1 | h1
  · have : 76 * e + 76 ≤ 76 * e2 := by omega
    omega
  · subst h1; omega
  · have : 76 * e2 + 76 ≤ 76 * e := by omega
    omega
theorem mx_out {e n e2 w : Nat} (hn : n < 5) (hw : w ≤ 15) : ¬ (11 + 76 * e + 15 * n ≤ 10 + 76 * e2 ∧ 10 + 76 * e2 < 11 + 76 * e + 15 * n + w) := by
  rintro ⟨q1, q2⟩
  rcases Nat.lt_trichotomy e e2 with h1 | h1 | h1
  · have : 76 * e + 76 ≤ 76 * e2 := by omega
    omega
  · subst h1; omega
  · have : 76 * e2 + 76 ≤ 76 * e := by omega
    omega
theorem addT_o {sg : Nat → Nat} {e w s z f j : Nat} (h : ¬ (11 + 76 * e + 15 * sg (10 + 76 * e) ≤ j ∧ j < 11 + 76 * e + 15 * sg (10 + 76 * e) + 15)) (h2 : j ≠ 10 + 76 * e) : addT sg e w s z f j = sg j := by
  unfold addT addT0
  rw [arU_n h2, arU_n (by omega), arU_n (by omega), arU_n (by omega), arU_n (by omega), zrF_out h]
theorem addT_v {sg : Nat → Nat} {e w s z f : Nat} : addT sg e w s z f (10 + 76 * e) = sg (10 + 76 * e) + 1 ∧ addT sg e w s z f (11 + 76 * e + 15 * sg (10 + 76 * e) + 0) = w ∧ addT sg e w s z f (11 + 76 * e + 15 * sg (10 + 76 * e) + 1) = s ∧ addT sg e w s z f (11 + 76 * e + 15 * sg (10 + 76 * e) + 2) = z ∧ addT sg e w s z f (11 + 76 * e + 15 * sg (10 + 76 * e) + 3) = f ∧ addT sg e w s z f (11 + 76 * e + 15 * sg (10 + 76 * e) + 4) = 0 ∧ addT sg e w s z f (11 + 76 * e + 15 * sg (10 + 76 * e) + 5) = 0 := by
  unfold addT addT0
  refine ⟨arU_s _ _ _, ?_, ?_, ?_, ?_, ?_, ?_⟩
  · rw [arU_n (by omega), arU_n (by omega), arU_n (by omega), arU_n (by omega), arU_s]
  · rw [arU_n (by omega), arU_n (by omega), arU_n (by omega), arU_s]
  · rw [arU_n (by omega), arU_n (by omega), arU_s]
  · rw [arU_n (by omega), arU_s]
  · rw [arU_n (by omega), arU_n (by omega), arU_n (by omega), arU_n (by omega), arU_n (by omega), zrF_in (by omega) (by omega)]
  · rw [arU_n (by omega), arU_n (by omega), arU_n (by omega), arU_n (by omega), arU_n (by omega), zrF_in (by omega) (by omega)]
theorem txOK_of {sg s2 : Nat → Nat} {e t : Nat} (h : ∀ w, w < 15 → s2 (11 + 76 * e + 15 * t + w) = sg (11 + 76 * e + 15 * t + w)) (hT : txOK sg e t) : txOK s2 e t := by
  unfold txOK at hT ⊢
  rw [h 0 (by omega), h 1 (by omega), h 2 (by omega), h 3 (by omega), h 5 (by omega)]
  obtain ⟨t1, t2, t3, t4, t5, t6⟩ := hT
  refine ⟨t1, t2, t3, t4, t5, fun c hc2 => ?_⟩
  rw [h _ (by omega), h _ (by omega)]
  exact t6 c hc2
theorem mOK_of {sg s2 : Nat → Nat} (hM : mOK sg) (h : ∀ j, j < 10 → s2 j = sg j) (h5 : ∀ e, e < 8 → s2 (10 + 76 * e) ≤ 5) (hT : ∀ e t, e < 8 → t < s2 (10 + 76 * e) → txOK s2 e t) : mOK s2 := by
  refine ⟨?_, h5, hT⟩
  rw [h 0 (by omega), h 1 (by omega), h 2 (by omega), h 3 (by omega), h 4 (by omega), h 5 (by omega), h 6 (by omega)]
  exact hM.1
theorem mOK_addT {sg : Nat → Nat} {e w s z f : Nat} (hM : mOK sg) (he : e < 8) (hn : sg (10 + 76 * e) < 5) (hw : 1 ≤ w ∧ w ≤ 300) (hs : 1 ≤ s ∧ s ≤ 50) (hz : z ≤ w) (hf : 1 ≤ f ∧ f ≤ 65535) : mOK (addT sg e w s z f) := by
  obtain ⟨v0, v1, v2, v3, v4, -, v6⟩ := addT_v (sg := sg) (e := e) (w := w) (s := s) (z := z) (f := f)
  have hsz : ∀ e2, e2 ≠ e → addT sg e w s z f (10 + 76 * e2) = sg (10 + 76 * e2) := fun e2 h => addT_o (mx_out hn (Nat.le_refl _)) (by omega)
  refine mOK_of hM (fun j hj => addT_o (by omega) (by omega)) (fun e2 he2 => ?_) (fun e2 t2 he2 ht2 => ?_)
  · by_cases h : e2 = e
    · subst h; rw [v0]; omega
    · rw [hsz e2 h]; exact hM.2.1 e2 he2
  · by_cases h : e2 = e ∧ t2 = sg (10 + 76 * e)
    · obtain ⟨rfl, rfl⟩ := h
      unfold txOK
      rw [v1, v2, v3, v4, v6]
      exact ⟨hw, hs, hz, hf, by omega, fun c hc => absurd hc (Nat.not_lt_zero _)⟩
    · have ht3 : t2 < sg (10 + 76 * e2) := by
        by_cases h2 : e2 = e
        · subst h2; rw [v0] at ht2; omega
        · rw [hsz e2 h2] at ht2; exact ht2
      have h5 := hM.2.1 e2 he2
      exact txOK_of (fun w2 hw2 => addT_o (ix_out hn (by omega) hw2 (by omega)) (ix_mx (by omega) hw2)) (hM.2.2 e2 t2 he2 ht3)
theorem addC_o {sg : Nat → Nat} {e t w f j : Nat} (h : ¬ (11 + 76 * e + 15 * t + (6 + 3 * sg (11 + 76 * e + 15 * t + 5)) ≤ j ∧ j < 11 + 76 * e + 15 * t + (6 + 3 * sg (11 + 76 * e + 15 * t + 5) + 3))) (h2 : j ≠ 11 + 76 * e + 15 * t + 5) : addC sg e t w f j = sg j := by
  unfold addC addC0
  rw [arU_n h2, arU_n (by omega), arU_n (by omega), arU_n (by omega)]
theorem addC_v {sg : Nat → Nat} {e t w f : Nat} : addC sg e t w f (11 + 76 * e + 15 * t + 5) = sg (11 + 76 * e + 15 * t + 5) + 1 ∧ addC sg e t w f (11 + 76 * e + 15 * t + (6 + 3 * sg (11 + 76 * e + 15 * t + 5) + 0)) = w ∧ addC sg e t w f (11 + 76 * e + 15 * t + (6 + 3 * sg (11 + 76 * e + 15 * t + 5) + 1)) = f ∧ addC sg e t w f (11 + 76 * e + 15 * t + (6 + 3 * sg (11 + 76 * e + 15 * t + 5) + 2)) = 0 := by
  unfold addC addC0
  refine ⟨arU_s _ _ _, ?_, ?_, ?_⟩
  · rw [arU_n (by omega), arU_n (by omega), arU_n (by omega), arU_s]
  · rw [arU_n (by omega), arU_n (by omega), arU_s]
  · rw [arU_n (by omega), arU_s]
theorem mOK_addC {sg : Nat → Nat} {e t w f : Nat} (hM : mOK sg) (he : e < 8) (ht : t < sg (10 + 76 * e)) (hc : sg (11 + 76 * e + 15 * t + 5) < 3) (hw : 1 ≤ w ∧ w ≤ 30) (hf : f ≤ 65535) : mOK (addC sg e t w f) := by
  obtain ⟨v0, v1, v2, v3⟩ := addC_v (sg := sg) (e := e) (t := t) (w := w) (f := f)
  have h5 := hM.2.1 e he
  have hsz : ∀ e2, addC sg e t w f (10 + 76 * e2) = sg (10 + 76 * e2) := fun e2 => by
    have h9 := mx_out (e := e) (n := t) (e2 := e2) (w := 15) (by omega) (Nat.le_refl _)
    exact addC_o (by omega) (by omega)
  refine mOK_of hM (fun j hj => addC_o (by omega) (by omega)) (fun e2 he2 => by rw [hsz]; exact hM.2.1 e2 he2) (fun e2 t2 he2 ht2 => ?_)
  rw [hsz] at ht2
  have h52 := hM.2.1 e2 he2
  have hT := hM.2.2 e2 t2 he2 ht2
  by_cases h : e2 = e ∧ t2 = t
  · obtain ⟨rfl, rfl⟩ := h
    have r : ∀ j, j < 5 → addC sg e2 t2 w f (11 + 76 * e2 + 15 * t2 + j) = sg (11 + 76 * e2 + 15 * t2 + j) := fun j hj => addC_o (by omega) (by omega)
    unfold txOK at hT ⊢
    rw [r 0 (by omega), r 1 (by omega), r 2 (by omega), r 3 (by omega), v0]
    obtain ⟨t1, t2b, t3, t4, t5, t6⟩ := hT
    refine ⟨t1, t2b, t3, t4, by omega, fun c hc2 => ?_⟩
    by_cases hcc : c = sg (11 + 76 * e2 + 15 * t2 + 5)
    · subst hcc
      rw [v1, v2]
      exact ⟨hw.1, hw.2, hf⟩
    · rw [addC_o (by omega) (by omega), addC_o (by omega) (by omega)]
      exact t6 c (by omega)
  · refine txOK_of (fun w2 hw2 => ?_) hT
    have h9 := ix_out (e := e) (n := t) (e2 := e2) (t2 := t2) (w := w2) (by omega) (by omega) hw2 (by omega)
    exact addC_o (by omega) (by omega)
