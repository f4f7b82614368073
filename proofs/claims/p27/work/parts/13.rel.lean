/-! the class's rows beside the reference's -/
theorem lt_yes {x : Int32} {n : Nat} (hn : n < 1000000) (h1 : ¬ x < 0) (h2 : x < nI n) : ∃ k : Nat, k < n ∧ x = nI k := by
  obtain ⟨j, hj, rfl⟩ := nI_of h1
  exact ⟨j, (nI_ltI hj (by omega)).mp h2, rfl⟩
theorem lt_no1 {x : Int32} {n : Nat} (hn : n < 1000000) (h1 : x < 0) : ¬ ∃ k : Nat, k < n ∧ x = nI k := by
  rintro ⟨k, h2, rfl⟩
  exact absurd h1 (nI_pos (by omega))
theorem lt_no2 {x : Int32} {n : Nat} (hn : n < 1000000) (h1 : ¬ x < nI n) : ¬ ∃ k : Nat, k < n ∧ x = nI k := by
  rintro ⟨k, h2, rfl⟩
  exact h1 ((nI_ltI (by omega) (by omega)).mpr h2)
theorem in_yesL {x : Int32} {lo hi : Nat} (hlo : lo < 1000000) (hhi : hi < 1000000) (h1 : ¬ x < nI lo) (h2 : x ≤ nI hi) : ∃ n : Nat, lo ≤ n ∧ n ≤ hi ∧ x = nI n := in_yes hlo hhi h1 (Int32.not_lt.mpr h2)
theorem in_no3 {x : Int32} {lo hi : Nat} (hlo : lo < 1000000) (hhi : hi < 1000000) (h1 : ¬ x ≤ nI hi) : ¬ ∃ n : Nat, lo ≤ n ∧ n ≤ hi ∧ x = nI n := in_no2 hlo hhi (Int32.not_le.mp h1)
theorem in_yes0 {x : Int32} {hi : Nat} (hhi : hi < 1000000) (h1 : ¬ x < 0) (h2 : x ≤ nI hi) : ∃ n : Nat, 0 ≤ n ∧ n ≤ hi ∧ x = nI n := in_yesL (by omega) hhi (by rw [nI_0]; exact h1) h2
theorem in_no0 {x : Int32} {hi : Nat} (hhi : hi < 1000000) (h1 : x < 0) : ¬ ∃ n : Nat, 0 ≤ n ∧ n ≤ hi ∧ x = nI n := in_no1 (by omega) hhi (by rw [nI_0]; exact h1)
theorem in_yes0g {x : Int32} {hi : Nat} (hhi : hi < 1000000) (h1 : ¬ x < 0) (h2 : ¬ nI hi < x) : ∃ n : Nat, 0 ≤ n ∧ n ≤ hi ∧ x = nI n := in_yes (by omega) hhi (by rw [nI_0]; exact h1) h2
def rRel (sc sg : Nat → Nat) (e t : Nat) : Prop :=
  sc ((e * 5 + t) * 16 + 0) = sg (11 + 76 * e + 15 * t + 0) ∧ sc ((e * 5 + t) * 16 + 1) = sg (11 + 76 * e + 15 * t + 1) ∧ sc ((e * 5 + t) * 16 + 2) = sg (11 + 76 * e + 15 * t + 2) ∧ sc ((e * 5 + t) * 16 + 3) = sg (11 + 76 * e + 15 * t + 3) ∧ sc ((e * 5 + t) * 16 + 4) = rdg sg e t ∧ sc ((e * 5 + t) * 16 + 5) = sg (11 + 76 * e + 15 * t + 5) ∧ sc ((e * 5 + t) * 16 + 6) = sg (11 + 76 * e + 15 * t + 4) ∧
  ∀ c, c < 3 → c < sg (11 + 76 * e + 15 * t + 5) → sc ((e * 5 + t) * 16 + 7 + c * 3 + 0) = sg (11 + 76 * e + 15 * t + (6 + 3 * c + 0)) ∧ sc ((e * 5 + t) * 16 + 7 + c * 3 + 1) = sg (11 + 76 * e + 15 * t + (6 + 3 * c + 1)) ∧ sc ((e * 5 + t) * 16 + 7 + c * 3 + 2) = sg (11 + 76 * e + 15 * t + (6 + 3 * c + 2))
def sRel (sz sc sg : Nat → Nat) : Prop := (∀ e, e < 8 → sz e = sg (10 + 76 * e)) ∧ ∀ e t, e < 8 → t < sg (10 + 76 * e) → rRel sc sg e t
theorem rRel_keep {sc s2 sg g2 : Nat → Nat} {e t : Nat} (h : ∀ w, w < 16 → s2 ((e * 5 + t) * 16 + w) = sc ((e * 5 + t) * 16 + w)) (hg : ∀ w, w < 15 → g2 (11 + 76 * e + 15 * t + w) = sg (11 + 76 * e + 15 * t + w)) (hR : rRel sc sg e t) : rRel s2 g2 e t := by
  unfold rRel rdg at hR ⊢
  obtain ⟨r0, r1, r2, r3, r4, r5, r6, r7⟩ := hR
  rw [h 0 (by omega), h 1 (by omega), h 2 (by omega), h 3 (by omega), h 4 (by omega), h 5 (by omega), h 6 (by omega), hg 0 (by omega), hg 1 (by omega), hg 2 (by omega), hg 3 (by omega), hg 4 (by omega), hg 5 (by omega)]
  refine ⟨r0, r1, r2, r3, r4, r5, r6, fun c hc hc2 => ?_⟩
  obtain ⟨q0, q1, q2⟩ := r7 c hc hc2
  refine ⟨?_, ?_, ?_⟩
  · rw [hg _ (by omega), ← q0, Nat.add_assoc, Nat.add_assoc]; exact h (7 + (c * 3 + 0)) (by omega)
  · rw [hg _ (by omega), ← q1, Nat.add_assoc, Nat.add_assoc]; exact h (7 + (c * 3 + 1)) (by omega)
  · rw [hg _ (by omega), ← q2, Nat.add_assoc, Nat.add_assoc]; exact h (7 + (c * 3 + 2)) (by omega)
theorem row_out {e t e2 t2 w a b : Nat} (ht : t < 5) (ht2 : t2 < 5) (hw : w < 16) (hb : b ≤ 16) (h : e2 ≠ e ∨ t2 ≠ t) (q1 : (e * 5 + t) * 16 + a ≤ (e2 * 5 + t2) * 16 + w) (q2 : (e2 * 5 + t2) * 16 + w < (e * 5 + t) * 16 + b) : False := by
  rcases Nat.lt_trichotomy e e2 with h1 | h1 | h1
  · have : e * 5 + 5 ≤ e2 * 5 := by omega
    omega
  · subst h1
    rcases Nat.lt_trichotomy t2 t with h2 | h2 | h2 <;> omega
  · have : e2 * 5 + 5 ≤ e * 5 := by omega
    omega
theorem sRel_vis {sz sc sg s2 : Nat → Nat} (h : ∀ j, 10 ≤ j → s2 j = sg j) (hR : sRel sz sc sg) : sRel sz sc s2 := by
  refine ⟨fun e he => by rw [h _ (by omega)]; exact hR.1 e he, fun e t he ht => ?_⟩
  rw [h _ (by omega)] at ht
  exact rRel_keep (fun _ _ => rfl) (fun w _ => h _ (by omega)) (hR.2 e t he ht)
def rowT (sc : Nat → Nat) (e n w s z f : Nat) : Nat → Nat := arU (arU (arU (arU (arU (arU (arU sc ((e * 5 + n) * 16 + 0) w) ((e * 5 + n) * 16 + 1) s) ((e * 5 + n) * 16 + 2) z) ((e * 5 + n) * 16 + 3) f) ((e * 5 + n) * 16 + 4) (4 + w / (2 * s) + 30 * z / w)) ((e * 5 + n) * 16 + 5) 0) ((e * 5 + n) * 16 + 6) 0
theorem rowT_v {sc : Nat → Nat} {e n w s z f : Nat} : rowT sc e n w s z f ((e * 5 + n) * 16 + 0) = w ∧ rowT sc e n w s z f ((e * 5 + n) * 16 + 1) = s ∧ rowT sc e n w s z f ((e * 5 + n) * 16 + 2) = z ∧ rowT sc e n w s z f ((e * 5 + n) * 16 + 3) = f ∧ rowT sc e n w s z f ((e * 5 + n) * 16 + 4) = 4 + w / (2 * s) + 30 * z / w ∧ rowT sc e n w s z f ((e * 5 + n) * 16 + 5) = 0 ∧ rowT sc e n w s z f ((e * 5 + n) * 16 + 6) = 0 := by
  unfold rowT
  refine ⟨?_, ?_, ?_, ?_, ?_, ?_, arU_s _ _ _⟩
  · rw [arU_n (by omega), arU_n (by omega), arU_n (by omega), arU_n (by omega), arU_n (by omega), arU_n (by omega), arU_s]
  · rw [arU_n (by omega), arU_n (by omega), arU_n (by omega), arU_n (by omega), arU_n (by omega), arU_s]
  · rw [arU_n (by omega), arU_n (by omega), arU_n (by omega), arU_n (by omega), arU_s]
  · rw [arU_n (by omega), arU_n (by omega), arU_n (by omega), arU_s]
  · rw [arU_n (by omega), arU_n (by omega), arU_s]
  · rw [arU_n (by omega), arU_s]
theorem rowT_o {sc : Nat → Nat} {e n w s z f j : Nat} (h : ¬ ((e * 5 + n) * 16 + 0 ≤ j ∧ j < (e * 5 + n) * 16 + 16)) : rowT sc e n w s z f j = sc j := by
  unfold rowT
  rw [arU_n (by omega), arU_n (by omega), arU_n (by omega), arU_n (by omega), arU_n (by omega), arU_n (by omega), arU_n (by omega)]
theorem rel_addT {sz sc sg : Nat → Nat} {e w s z f : Nat} (hM : mOK sg) (hR : sRel sz sc sg) (he : e < 8) (hn : sg (10 + 76 * e) < 5) : sRel (arU sz e (sg (10 + 76 * e) + 1)) (rowT sc e (sg (10 + 76 * e)) w s z f) (addT sg e w s z f) := by
  obtain ⟨v0, v1, v2, v3, v4, v5, v6⟩ := addT_v (sg := sg) (e := e) (w := w) (s := s) (z := z) (f := f)
  have hsz : ∀ e2, e2 ≠ e → addT sg e w s z f (10 + 76 * e2) = sg (10 + 76 * e2) := fun e2 h => addT_o (mx_out hn (Nat.le_refl _)) (by omega)
  refine ⟨fun e2 he2 => ?_, fun e2 t2 he2 ht2 => ?_⟩
  · by_cases h : e2 = e
    · subst h; rw [arU_s, v0]
    · rw [arU_n h, hsz e2 h]; exact hR.1 e2 he2
  · by_cases h : e2 = e ∧ t2 = sg (10 + 76 * e)
    · obtain ⟨rfl, rfl⟩ := h
      obtain ⟨w0, w1, w2, w3, w4, w5, w6⟩ := rowT_v (sc := sc) (e := e2) (n := sg (10 + 76 * e2)) (w := w) (s := s) (z := z) (f := f)
      unfold rRel rdg
      rw [w0, w1, w2, w3, w4, w5, w6, v1, v2, v3, v4, v5, v6]
      exact ⟨rfl, rfl, rfl, rfl, rfl, rfl, rfl, fun c _ hc => absurd hc (Nat.not_lt_zero _)⟩
    · have ht3 : t2 < sg (10 + 76 * e2) := by
        by_cases h2 : e2 = e
        · subst h2; rw [v0] at ht2; omega
        · rw [hsz e2 h2] at ht2; exact ht2
      have h5 := hM.2.1 e2 he2
      exact rRel_keep (fun w2 hw2 => rowT_o (fun q => row_out hn (by omega) hw2 (Nat.le_refl _) (by omega) q.1 q.2)) (fun w2 hw2 => addT_o (ix_out hn (by omega) hw2 (by omega)) (ix_mx (by omega) hw2)) (hR.2 e2 t2 he2 ht3)
/-- one number of a text's row is another, on both sides -/
theorem rel_one {sz sc sg : Nat → Nat} {e t k v : Nat} (hM : mOK sg) (hR : sRel sz sc sg) (he : e < 8) (ht : t < sg (10 + 76 * e)) {kc : Nat} (hk : (k = 3 ∧ kc = 3) ∨ (k = 4 ∧ kc = 6)) : sRel sz (arU sc ((e * 5 + t) * 16 + kc) v) (arU sg (11 + 76 * e + 15 * t + k) v) := by
  have h5 := hM.2.1 e he
  have hs : ∀ e2, arU sg (11 + 76 * e + 15 * t + k) v (10 + 76 * e2) = sg (10 + 76 * e2) := fun e2 => arU_n (fun q => ix_mx (e := e2) (e2 := e) (t2 := t) (w := k) (by omega) (by omega) q.symm)
  refine ⟨fun e2 he2 => by rw [hs]; exact hR.1 e2 he2, fun e2 t2 he2 ht2 => ?_⟩
  rw [hs] at ht2
  have h52 := hM.2.1 e2 he2
  have hr := hR.2 e2 t2 he2 ht2
  by_cases h : e2 = e ∧ t2 = t
  · obtain ⟨rfl, rfl⟩ := h
    unfold rRel rdg at hr ⊢
    obtain ⟨r0, r1, r2, r3, r4, r5, r6, r7⟩ := hr
    have a : ∀ w, w ≠ kc → arU sc ((e2 * 5 + t2) * 16 + kc) v ((e2 * 5 + t2) * 16 + w) = sc ((e2 * 5 + t2) * 16 + w) := fun w h => arU_n (by omega)
    have b : ∀ w, w ≠ k → arU sg (11 + 76 * e2 + 15 * t2 + k) v (11 + 76 * e2 + 15 * t2 + w) = sg (11 + 76 * e2 + 15 * t2 + w) := fun w h => arU_n (by omega)
    have c7 : ∀ c, c < 3 → c < arU sg (11 + 76 * e2 + 15 * t2 + k) v (11 + 76 * e2 + 15 * t2 + 5) → arU sc ((e2 * 5 + t2) * 16 + kc) v ((e2 * 5 + t2) * 16 + 7 + c * 3 + 0) = arU sg (11 + 76 * e2 + 15 * t2 + k) v (11 + 76 * e2 + 15 * t2 + (6 + 3 * c + 0)) ∧ arU sc ((e2 * 5 + t2) * 16 + kc) v ((e2 * 5 + t2) * 16 + 7 + c * 3 + 1) = arU sg (11 + 76 * e2 + 15 * t2 + k) v (11 + 76 * e2 + 15 * t2 + (6 + 3 * c + 1)) ∧ arU sc ((e2 * 5 + t2) * 16 + kc) v ((e2 * 5 + t2) * 16 + 7 + c * 3 + 2) = arU sg (11 + 76 * e2 + 15 * t2 + k) v (11 + 76 * e2 + 15 * t2 + (6 + 3 * c + 2)) := by
      intro c hc hc2
      rw [b 5 (by omega)] at hc2
      obtain ⟨q0, q1, q2⟩ := r7 c hc hc2
      exact ⟨(arU_n (by omega)).trans (q0.trans (b _ (by omega)).symm), (arU_n (by omega)).trans (q1.trans (b _ (by omega)).symm), (arU_n (by omega)).trans (q2.trans (b _ (by omega)).symm)⟩
    rcases hk with ⟨rfl, rfl⟩ | ⟨rfl, rfl⟩
    · rw [a 0 (by omega), a 1 (by omega), a 2 (by omega), arU_s, a 4 (by omega), a 5 (by omega), a 6 (by omega), b 0 (by omega), b 1 (by omega), b 2 (by omega), arU_s, b 4 (by omega), b 5 (by omega)]
      rw [b 5 (by omega)] at c7
      exact ⟨r0, r1, r2, rfl, r4, r5, r6, c7⟩
    · rw [a 0 (by omega), a 1 (by omega), a 2 (by omega), a 3 (by omega), a 4 (by omega), a 5 (by omega), arU_s, b 0 (by omega), b 1 (by omega), b 2 (by omega), b 3 (by omega), arU_s, b 5 (by omega)]
      rw [b 5 (by omega)] at c7
      exact ⟨r0, r1, r2, r3, r4, r5, rfl, c7⟩
  · exact rRel_keep (fun w2 hw2 => arU_n (fun q => row_out (e := e) (t := t) (e2 := e2) (t2 := t2) (a := kc) (b := kc + 1) (by omega) (by omega) hw2 (by omega) (by omega) (by omega) (by omega))) (fun w2 hw2 => arU_n (fun q => ix_out (e := e) (n := t) (e2 := e2) (t2 := t2) (by omega) (by omega) hw2 (by omega) ⟨by omega, by omega⟩)) hr
def rowC (sc : Nat → Nat) (e t n w f : Nat) : Nat → Nat := arU (arU (arU (arU sc ((e * 5 + t) * 16 + 7 + n * 3 + 0) w) ((e * 5 + t) * 16 + 7 + n * 3 + 1) f) ((e * 5 + t) * 16 + 7 + n * 3 + 2) 0) ((e * 5 + t) * 16 + 5) (n + 1)
theorem rel_addC {sz sc sg : Nat → Nat} {e t w f : Nat} (hM : mOK sg) (hR : sRel sz sc sg) (he : e < 8) (ht : t < sg (10 + 76 * e)) (hc : sg (11 + 76 * e + 15 * t + 5) < 3) : sRel sz (rowC sc e t (sg (11 + 76 * e + 15 * t + 5)) w f) (addC sg e t w f) := by
  obtain ⟨v0, v1, v2, v3⟩ := addC_v (sg := sg) (e := e) (t := t) (w := w) (f := f)
  have h5 := hM.2.1 e he
  have hs : ∀ e2, addC sg e t w f (10 + 76 * e2) = sg (10 + 76 * e2) := fun e2 => by
    have h9 := mx_out (e := e) (n := t) (e2 := e2) (w := 15) (by omega) (Nat.le_refl _)
    exact addC_o (by omega) (by omega)
  refine ⟨fun e2 he2 => by rw [hs]; exact hR.1 e2 he2, fun e2 t2 he2 ht2 => ?_⟩
  rw [hs] at ht2
  have h52 := hM.2.1 e2 he2
  have hr := hR.2 e2 t2 he2 ht2
  by_cases h : e2 = e ∧ t2 = t
  · obtain ⟨rfl, rfl⟩ := h
    have hr0 := hr
    unfold rRel rdg at hr ⊢
    obtain ⟨r0, r1, r2, r3, r4, r5, r6, r7⟩ := hr
    generalize hn : sg (11 + 76 * e2 + 15 * t2 + 5) = n at *
    have a : ∀ w2, w2 < 7 → w2 ≠ 5 → rowC sc e2 t2 n w f ((e2 * 5 + t2) * 16 + w2) = sc ((e2 * 5 + t2) * 16 + w2) := fun w2 h1 h2 => by
      unfold rowC
      rw [arU_n (by omega), arU_n (by omega), arU_n (by omega), arU_n (by omega)]
    have a5 : rowC sc e2 t2 n w f ((e2 * 5 + t2) * 16 + 5) = n + 1 := arU_s _ _ _
    have b : ∀ w2, w2 < 5 → addC sg e2 t2 w f (11 + 76 * e2 + 15 * t2 + w2) = sg (11 + 76 * e2 + 15 * t2 + w2) := fun w2 h1 => addC_o (by omega) (by omega)
    rw [a 0 (by omega) (by omega), a 1 (by omega) (by omega), a 2 (by omega) (by omega), a 3 (by omega) (by omega), a 4 (by omega) (by omega), a5, a 6 (by omega) (by omega), b 0 (by omega), b 1 (by omega), b 2 (by omega), b 3 (by omega), b 4 (by omega), v0]
    refine ⟨r0, r1, r2, r3, r4, rfl, r6, fun c hc1 hc2 => ?_⟩
    by_cases hcc : c = n
    · subst hcc
      rw [v1, v2, v3]
      unfold rowC
      refine ⟨?_, ?_, ?_⟩
      · rw [arU_n (by omega), arU_n (by omega), arU_n (by omega), arU_s]
      · rw [arU_n (by omega), arU_n (by omega), arU_s]
      · rw [arU_n (by omega), arU_s]
    · rw [addC_o (by omega) (by omega), addC_o (by omega) (by omega), addC_o (by omega) (by omega)]
      obtain ⟨q0, q1, q2⟩ := r7 c hc1 (by omega)
      rw [← q0, ← q1, ← q2]
      unfold rowC
      refine ⟨?_, ?_, ?_⟩ <;> rw [arU_n (by omega), arU_n (by omega), arU_n (by omega), arU_n (by omega)]
  · have hn3 := hc
    refine rRel_keep (fun w2 hw2 => ?_) (fun w2 hw2 => ?_) hr
    · have hq : ∀ a, a < 16 → (e2 * 5 + t2) * 16 + w2 ≠ (e * 5 + t) * 16 + a := fun a ha q => row_out (e := e) (t := t) (e2 := e2) (t2 := t2) (a := a) (b := a + 1) (by omega) (by omega) hw2 (by omega) (by omega) (by omega) (by omega)
      unfold rowC
      have q0 := hq (7 + sg (11 + 76 * e + 15 * t + 5) * 3 + 0) (by omega)
      have q1 := hq (7 + sg (11 + 76 * e + 15 * t + 5) * 3 + 1) (by omega)
      have q2 := hq (7 + sg (11 + 76 * e + 15 * t + 5) * 3 + 2) (by omega)
      have q3 := hq 5 (by omega)
      rw [arU_n q3, arU_n (by omega), arU_n (by omega), arU_n (by omega)]
    · have h9 := ix_out (e := e) (n := t) (e2 := e2) (t2 := t2) (w := w2) (by omega) (by omega) hw2 (by omega)
      exact addC_o (by omega) (by omega)
theorem rel_cap {sz sc sg : Nat → Nat} {e t k v : Nat} (hM : mOK sg) (hR : sRel sz sc sg) (he : e < 8) (ht : t < sg (10 + 76 * e)) (hk : k < sg (11 + 76 * e + 15 * t + 5)) : sRel sz (arU sc ((e * 5 + t) * 16 + 7 + k * 3 + 2) v) (arU sg (11 + 76 * e + 15 * t + (6 + 3 * k + 2)) v) := by
  have h5 := hM.2.1 e he
  have hc3 := (hM.2.2 e t he ht).2.2.2.2.1
  have hs : ∀ e2, arU sg (11 + 76 * e + 15 * t + (6 + 3 * k + 2)) v (10 + 76 * e2) = sg (10 + 76 * e2) := fun e2 => arU_n (fun q => ix_mx (e := e2) (e2 := e) (t2 := t) (w := 6 + 3 * k + 2) (by omega) (by omega) q.symm)
  refine ⟨fun e2 he2 => by rw [hs]; exact hR.1 e2 he2, fun e2 t2 he2 ht2 => ?_⟩
  rw [hs] at ht2
  have h52 := hM.2.1 e2 he2
  have hr := hR.2 e2 t2 he2 ht2
  by_cases h : e2 = e ∧ t2 = t
  · obtain ⟨rfl, rfl⟩ := h
    unfold rRel rdg at hr ⊢
    obtain ⟨r0, r1, r2, r3, r4, r5, r6, r7⟩ := hr
    rw [arU_n (by omega), arU_n (by omega), arU_n (by omega), arU_n (by omega), arU_n (by omega), arU_n (by omega), arU_n (by omega), arU_n (by omega), arU_n (by omega), arU_n (by omega), arU_n (by omega), arU_n (by omega), arU_n (by omega)]
    refine ⟨r0, r1, r2, r3, r4, r5, r6, fun c hc hc2 => ?_⟩
    obtain ⟨q0, q1, q2⟩ := r7 c hc hc2
    refine ⟨(arU_n (by omega)).trans (q0.trans (arU_n (by omega)).symm), (arU_n (by omega)).trans (q1.trans (arU_n (by omega)).symm), ?_⟩
    by_cases hck : c = k
    · subst hck; rw [arU_s, arU_s]
    · rw [arU_n (by omega), arU_n (by omega)]; exact q2
  · exact rRel_keep (fun w2 hw2 => arU_n (fun q => row_out (e := e) (t := t) (e2 := e2) (t2 := t2) (a := 7 + k * 3 + 2) (b := 7 + k * 3 + 3) (by omega) (by omega) hw2 (by omega) (by omega) (by omega) (by omega))) (fun w2 hw2 => arU_n (fun q => ix_out (e := e) (n := t) (e2 := e2) (t2 := t2) (by omega) (by omega) hw2 (by omega) ⟨by omega, by omega⟩)) hr
theorem rmT_v {sg : Nat → Nat} {e t : Nat} : rmT sg e t (10 + 76 * e) = sg (10 + 76 * e) - 1 := arU_s _ _ _
theorem rmT_mx {sg : Nat → Nat} {e t e2 : Nat} (h5 : sg (10 + 76 * e) ≤ 5) (ht : t < sg (10 + 76 * e)) (h : e2 ≠ e) : rmT sg e t (10 + 76 * e2) = sg (10 + 76 * e2) := by
  unfold rmT
  rw [arU_n (by omega)]
  refine sfF_out (fun q => ?_)
  rcases Nat.lt_trichotomy e e2 with h1 | h1 | h1
  · have : 76 * e + 76 ≤ 76 * e2 := by omega
    omega
  · omega
  · have : 76 * e2 + 76 ≤ 76 * e := by omega
    omega
theorem rmT_lo {sg : Nat → Nat} {e t e2 t2 w : Nat} (h5 : sg (10 + 76 * e) ≤ 5) (ht : t < sg (10 + 76 * e)) (ht2 : t2 < 5) (hw : w < 15) (h : e2 ≠ e ∨ t2 < t) : rmT sg e t (11 + 76 * e2 + 15 * t2 + w) = sg (11 + 76 * e2 + 15 * t2 + w) := by
  unfold rmT
  rw [arU_n (ix_mx ht2 hw)]
  refine sfF_out (fun q => ?_)
  rcases Nat.lt_trichotomy e e2 with h1 | h1 | h1
  · have : 76 * e + 76 ≤ 76 * e2 := by omega
    omega
  · subst h1; omega
  · have : 76 * e2 + 76 ≤ 76 * e := by omega
    omega
theorem rmT_hi {sg : Nat → Nat} {e t t2 w : Nat} (h5 : sg (10 + 76 * e) ≤ 5) (ht : t ≤ t2) (ht2 : t2 < sg (10 + 76 * e) - 1) (hw : w < 15) : rmT sg e t (11 + 76 * e + 15 * t2 + w) = sg (11 + 76 * e + 15 * (t2 + 1) + w) := by
  unfold rmT
  rw [arU_n (ix_mx (by omega) hw), sfF_in (by omega) (by omega)]
  exact congrArg sg (by omega)
theorem mOK_rmT {sg : Nat → Nat} {e t : Nat} (hM : mOK sg) (he : e < 8) (ht : t < sg (10 + 76 * e)) : mOK (rmT sg e t) := by
  have h5 := hM.2.1 e he
  refine mOK_of hM (fun j hj => ?_) (fun e2 he2 => ?_) (fun e2 t2 he2 ht2 => ?_)
  · unfold rmT
    rw [arU_n (by omega)]
    exact sfF_out (by omega)
  · by_cases h : e2 = e
    · subst h; rw [rmT_v]; omega
    · rw [rmT_mx h5 ht h]; exact hM.2.1 e2 he2
  · by_cases h : e2 = e
    · subst h
      rw [rmT_v] at ht2
      by_cases h2 : t2 < t
      · exact txOK_of (fun w hw => rmT_lo h5 ht (by omega) hw (Or.inr h2)) (hM.2.2 e2 t2 he2 (by omega))
      · have hT := hM.2.2 e2 (t2 + 1) he2 (by omega)
        unfold txOK at hT ⊢
        have r : ∀ w, w < 15 → rmT sg e2 t (11 + 76 * e2 + 15 * t2 + w) = sg (11 + 76 * e2 + 15 * (t2 + 1) + w) := fun w hw => rmT_hi h5 (by omega) ht2 hw
        rw [r 0 (by omega), r 1 (by omega), r 2 (by omega), r 3 (by omega), r 5 (by omega)]
        obtain ⟨q1, q2, q3, q4, q5, q6⟩ := hT
        refine ⟨q1, q2, q3, q4, q5, fun c hc => ?_⟩
        rw [r _ (by omega), r _ (by omega)]
        exact q6 c hc
    · rw [rmT_mx h5 ht h] at ht2
      have h52 := hM.2.1 e2 he2
      exact txOK_of (fun w hw => rmT_lo h5 ht (by omega) hw (Or.inl h)) (hM.2.2 e2 t2 he2 ht2)
/-- the class's cells behind a text that goes: what lay behind it comes one row nearer -/
def rowR (sc : Nat → Nat) (e t n : Nat) : Nat → Nat := cpF sc sc ((e * 5 + t) * 16) ((e * 5 + t) * 16 + 16) ((n - 1 - t) * 16)
theorem rel_rmT {sz sc sg : Nat → Nat} {e t : Nat} (hM : mOK sg) (hR : sRel sz sc sg) (he : e < 8) (ht : t < sg (10 + 76 * e)) : sRel (arU sz e (sg (10 + 76 * e) - 1)) (rowR sc e t (sg (10 + 76 * e))) (rmT sg e t) := by
  have h5 := hM.2.1 e he
  refine ⟨fun e2 he2 => ?_, fun e2 t2 he2 ht2 => ?_⟩
  · by_cases h : e2 = e
    · subst h; rw [arU_s, rmT_v]
    · rw [arU_n h, rmT_mx h5 ht h]; exact hR.1 e2 he2
  · have h52 := hM.2.1 e2 he2
    by_cases h : e2 = e
    · subst h
      rw [rmT_v] at ht2
      by_cases h2 : t2 < t
      · exact rRel_keep (fun w hw => cpF_out (by omega)) (fun w hw => rmT_lo h5 ht (by omega) hw (Or.inr h2)) (hR.2 e2 t2 he2 (by omega))
      · have hr := hR.2 e2 (t2 + 1) he2 (by omega)
        have r : ∀ w, w < 15 → rmT sg e2 t (11 + 76 * e2 + 15 * t2 + w) = sg (11 + 76 * e2 + 15 * (t2 + 1) + w) := fun w hw => rmT_hi h5 (by omega) ht2 hw
        have a : ∀ w, w < 16 → rowR sc e2 t (sg (10 + 76 * e2)) ((e2 * 5 + t2) * 16 + w) = sc ((e2 * 5 + (t2 + 1)) * 16 + w) := fun w hw => (cpF_in (by omega) (by omega)).trans (congrArg sc (by omega))
        unfold rRel rdg at hr ⊢
        obtain ⟨r0, r1, r2, r3, r4, r5, r6, r7⟩ := hr
        rw [a 0 (by omega), a 1 (by omega), a 2 (by omega), a 3 (by omega), a 4 (by omega), a 5 (by omega), a 6 (by omega), r 0 (by omega), r 1 (by omega), r 2 (by omega), r 3 (by omega), r 4 (by omega), r 5 (by omega)]
        refine ⟨r0, r1, r2, r3, r4, r5, r6, fun c hc hc2 => ?_⟩
        obtain ⟨q0, q1, q2⟩ := r7 c hc hc2
        rw [r _ (by omega), r _ (by omega), r _ (by omega), ← q0, ← q1, ← q2]
        refine ⟨?_, ?_, ?_⟩
        · rw [Nat.add_assoc, Nat.add_assoc, a (7 + (c * 3 + 0)) (by omega)]; exact congrArg sc (by omega)
        · rw [Nat.add_assoc, Nat.add_assoc, a (7 + (c * 3 + 1)) (by omega)]; exact congrArg sc (by omega)
        · rw [Nat.add_assoc, Nat.add_assoc, a (7 + (c * 3 + 2)) (by omega)]; exact congrArg sc (by omega)
    · rw [rmT_mx h5 ht h] at ht2
      refine rRel_keep (fun w hw => cpF_out (fun q => ?_)) (fun w hw => rmT_lo h5 ht (by omega) hw (Or.inl h)) (hR.2 e2 t2 he2 ht2)
      rcases Nat.lt_trichotomy e e2 with h1 | h1 | h1
      · have : e * 5 + 5 ≤ e2 * 5 := by omega
        omega
      · omega
      · have : e2 * 5 + 5 ≤ e * 5 := by omega
        omega

def pT3 (w s z : Int32) : Prop := ∃ w1 s1 z1 : Nat, (1 ≤ w1 ∧ w1 ≤ 300) ∧ (1 ≤ s1 ∧ s1 ≤ 50 ∧ s1 ≤ w1) ∧ z1 ≤ w1 ∧ w = nI w1 ∧ s = nI s1 ∧ z = nI z1
/-- whether a text is shown rather than an earlier one -/
def fbP (sg : Nat → Nat) (e ag t f : Nat) : Prop := ((ag < rdg sg e t ∨ ag < rdg sg e f) ∧ rdg sg e t < rdg sg e f) ∨ (¬ (ag < rdg sg e t ∨ ag < rdg sg e f) ∧ ((rdg sg e t ≠ rdg sg e f ∧ rdg sg e f < rdg sg e t) ∨ (rdg sg e t = rdg sg e f ∧ sg (11 + 76 * e + 15 * t + 0) < sg (11 + 76 * e + 15 * f + 0))))
theorem ftA_none {rd wd : Nat → Nat} {ag : Nat} : ∀ (n : Nat), ftA rd wd ag n = none → ∀ j, j < n → ag < rd j
  | 0, _, j, hj => absurd hj (Nat.not_lt_zero _)
  | n + 1, h, j, hj => by
    have h : ftStep rd wd ag n (ftA rd wd ag n) = none := h
    cases hq : ftA rd wd ag n with
    | none =>
      rw [hq] at h
      unfold ftStep at h
      simp only at h
      by_cases h1 : rd n ≤ ag
      · rw [if_pos h1] at h; cases h
      · by_cases h2 : j = n
        · subst h2; omega
        · exact ftA_none n hq j (by omega)
    | some k =>
      rw [hq] at h
      unfold ftStep at h
      simp only at h
      split at h <;> cases h
theorem ftA_fit {rd wd : Nat → Nat} {ag : Nat} : ∀ (n : Nat) {f : Nat}, ftA rd wd ag n = some f → rd f ≤ ag
  | 0, f, h => by cases h
  | n + 1, f, h => by
    have h : ftStep rd wd ag n (ftA rd wd ag n) = some f := h
    cases hq : ftA rd wd ag n with
    | none =>
      rw [hq] at h
      unfold ftStep at h
      simp only at h
      split at h
      · cases h; assumption
      · cases h
    | some k =>
      have hk := ftA_fit n hq
      rw [hq] at h
      unfold ftStep at h
      simp only at h
      split at h
      · rename_i hc; cases h; exact hc.1
      · cases h; exact hk
theorem shA_1 {rd wd : Nat → Nat} {ag : Nat} : shA rd wd ag 1 = some 0 := by
  unfold shA
  show (match ftStep rd wd ag 0 none with | none => lsStep rd 0 none | some f => some f) = some 0
  unfold ftStep
  simp only
  by_cases h : rd 0 ≤ ag
  · rw [if_pos h]
  · rw [if_neg h]; rfl
theorem shA_S {sg : Nat → Nat} {e ag k b : Nat} (h : shA (rdg sg e) (wdF sg e) ag k = some b) : (fbP sg e ag k b → shA (rdg sg e) (wdF sg e) ag (k + 1) = some k) ∧ (¬ fbP sg e ag k b → shA (rdg sg e) (wdF sg e) ag (k + 1) = some b) := by
  unfold fbP
  unfold shA at h ⊢
  have e1 : ftA (rdg sg e) (wdF sg e) ag (k + 1) = ftStep (rdg sg e) (wdF sg e) ag k (ftA (rdg sg e) (wdF sg e) ag k) := rfl
  have e2 : lsA (rdg sg e) (k + 1) = lsStep (rdg sg e) k (lsA (rdg sg e) k) := rfl
  rw [e1, e2]
  cases hq : ftA (rdg sg e) (wdF sg e) ag k with
  | none =>
    rw [hq] at h
    have h : lsA (rdg sg e) k = some b := h
    have hb := ftA_none k hq b (lsA_lt k h)
    rw [h]
    unfold ftStep lsStep
    simp only
    by_cases h1 : rdg sg e k ≤ ag
    · rw [if_pos h1]
      exact ⟨fun _ => rfl, fun q => absurd (Or.inl ⟨Or.inr hb, by omega⟩) q⟩
    · rw [if_neg h1]
      by_cases h2 : rdg sg e k < rdg sg e b
      · simp only [if_pos h2]
        exact ⟨fun _ => trivial, fun q => absurd (Or.inl ⟨Or.inr hb, h2⟩) q⟩
      · simp only [if_neg h2]
        exact ⟨fun q => by omega, fun _ => trivial⟩
  | some f =>
    rw [hq] at h
    have h : some f = some b := h
    cases h
    have hb := ftA_fit k hq
    unfold ftStep
    simp only [wdF]
    by_cases h2 : rdg sg e k ≤ ag ∧ (rdg sg e b < rdg sg e k ∨ (rdg sg e b = rdg sg e k ∧ sg (11 + 76 * e + 15 * k + 0) < sg (11 + 76 * e + 15 * b + 0)))
    · rw [if_pos h2]
      exact ⟨fun _ => rfl, fun q => absurd (by omega) q⟩
    · rw [if_neg h2]
      exact ⟨fun q => by omega, fun _ => rfl⟩
theorem shA_y {sg : Nat → Nat} {e ag k b : Nat} (h : shA (rdg sg e) (wdF sg e) ag k = some b) (hf : fbP sg e ag k b) : shA (rdg sg e) (wdF sg e) ag (k + 1) = some k := (shA_S h).1 hf
theorem shA_n {sg : Nat → Nat} {e ag k b : Nat} (h : shA (rdg sg e) (wdF sg e) ag k = some b) (hf : ¬ fbP sg e ag k b) : shA (rdg sg e) (wdF sg e) ag (k + 1) = some b := (shA_S h).2 hf
