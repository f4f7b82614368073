/-! what the entries of a pad leave as it is -/
theorem entF_e {pd : Nat → Nat} {n p q : Nat} {i : EntT} (h : entF pd n p = .inr (i, q)) : i.2.1 < 8 := by
  by_cases h1 : sgQ pd n 48 55 p
  · have h2 : pd p - 48 < 8 := by have := h1.2; omega
    unfold entF at h
    rw [if_pos h1] at h
    split at h
    · unfold entC at h
      split at h
      · split at h
        · split at h
          · unfold entC2 at h
            split at h
            · cases h; exact h2
            · cases h
          · cases h
        · cases h
      · cases h
    · split at h
      · unfold entT1 at h
        split at h
        · unfold entT2 at h
          split at h
          · split at h
            · unfold entT3 at h
              split at h
              · split at h
                · unfold entT4 at h
                  split at h
                  · unfold entT5 at h
                    split at h
                    · cases h
                    · cases h; exact h2
                  · cases h
                · cases h
              · cases h
            · cases h
          · cases h
        · cases h
      · cases h
  · unfold entF at h
    rw [if_neg h1] at h
    cases h
theorem eAd_hi {sg : Nat → Nat} {i : EntT} (hM : mOK sg) (he : i.2.1 < 8) (h : eFs sg i = 0) {j : Nat} (hj : 618 ≤ j) : eAd sg i j = sg j := by
  unfold eFs eFl at h
  unfold eAd
  have h6 := hM.2.1 _ he
  by_cases hc : i.1 = 1
  · rw [if_pos hc] at h ⊢
    obtain ⟨h1, h2, h3, h4⟩ := cFl_0 h
    have hT := hM.2.2 _ _ he h1
    have h5 := hT.2.2.2.2.1
    have h1b : i.2.2.1 < sg (10 + 76 * i.2.1) := h1
    have h4b : ¬ sg (11 + 76 * i.2.1 + 15 * i.2.2.1 + 5) = 3 := h4
    exact addC_o (by omega) (by omega)
  · rw [if_neg hc] at h ⊢
    obtain ⟨-, h5⟩ := tFl_0 h
    have h5b : ¬ sg (10 + 76 * i.2.1) = 5 := h5
    exact addT_o (by omega) (by omega)
theorem doF_ok {pd : Nat → Nat} {n : Nat} : ∀ (f p m : Nat) (sg : Nat → Nat), mOK sg → mOK (doF pd n f p sg m).2.2 ∧ ((doF pd n f p sg m).1 = 0 ∨ (doF pd n f p sg m).1 < 0) ∧ ∀ j, 618 ≤ j → (doF pd n f p sg m).2.2 j = sg j
  | 0, p, m, sg, hM => ⟨hM, Or.inl rfl, fun _ _ => rfl⟩
  | f + 1, p, m, sg, hM => by
    cases he : entF pd n p with
    | inl q =>
      have e : doF pd n (f + 1) p sg m = (0, m, sg) := by
        show (match entF pd n p with | .inl _ => (0, m, sg) | .inr (i, q) => if eFs sg i = 0 then (if q < n then doF pd n f (q + 1) (eAd sg i) (m + 1) else (0, m + 1, eAd sg i)) else (eFs sg i, m, sg)) = _
        rw [he]
      rw [e]
      exact ⟨hM, Or.inl rfl, fun _ _ => rfl⟩
    | inr w =>
      obtain ⟨i, q⟩ := w
      have h8 := entF_e he
      by_cases h0 : eFs sg i = 0
      · have hM2 := mOK_eAd hM h8 h0
        have hh : ∀ j, 618 ≤ j → eAd sg i j = sg j := fun j hj => eAd_hi hM h8 h0 hj
        by_cases hq : q < n
        · rw [doF_go he h0 hq]
          obtain ⟨g1, g2, g3⟩ := doF_ok (pd := pd) (n := n) f (q + 1) (m + 1) (eAd sg i) hM2
          exact ⟨g1, g2, fun j hj => (g3 j hj).trans (hh j hj)⟩
        · rw [doF_end he h0 hq]
          exact ⟨hM2, Or.inl rfl, hh⟩
      · rw [doF_stop he h0]
        refine ⟨hM, Or.inr ?_, fun _ _ => rfl⟩
        show eFs sg i < 0
        unfold eFs eFl at h0 ⊢
        split at h0
        · rename_i hc
          rw [if_pos hc]
          unfold cFl at h0 ⊢
          split
          · decide
          · rename_i h1; rw [if_neg h1] at h0
            split
            · decide
            · rename_i h2; rw [if_neg h2] at h0
              split
              · decide
              · rename_i h3; rw [if_neg h3] at h0
                split
                · decide
                · rename_i h4; rw [if_neg h4] at h0; exact absurd rfl h0
        · rename_i hc
          rw [if_neg hc]
          unfold tFl at h0 ⊢
          split
          · decide
          · rename_i h1; rw [if_neg h1] at h0
            split
            · decide
            · rename_i h2; rw [if_neg h2] at h0; exact absurd rfl h0
theorem back_eq {sg s1 al : Nat → Nat} (h : ∀ j, 618 ≤ j → s1 j = sg j) : cpF s1 (cpF al sg 0 0 618) 0 0 618 = sg := by
  funext j
  by_cases hj : j < 618
  · rw [cpF_in (by omega) (by omega), cpF_in (by omega) (by omega)]
    exact congrArg sg (by omega)
  · rw [cpF_out (by omega)]
    exact h j (by omega)
