/-! the pad's laws, as the class reads it -/
theorem m1_ne {x : Nat} (h : x < 1000000) : ¬ (-1 : Int32) = nI x := by
  intro q
  have h1 := congrArg Int32.toInt q
  rw [nI_toInt (by omega), show (-1 : Int32).toInt = -1 from by decide] at h1
  omega
theorem shl1 : ∀ x : Nat, x < 16 → nI 1 <<< (nI x &&& 31) = nI (2 ^ x) := by decide +kernel
theorem dgP_1 {pd : Nat → Nat} {n hi v p : Nat} (h : hi ≤ 9) : dgP pd n hi v p = (v, p) := by
  refine dgP_n (fun q => ?_)
  obtain ⟨h1, ⟨h2, h3, h4⟩, h5⟩ := q
  omega
theorem ltP_skip {pd : Nat → Nat} {n x k p : Nat} (h : pd p ≠ 97 + k) : ltP pd n x (97 + k) p = ltP pd n x (97 + (k + 1)) p := by
  by_cases h1 : sgQ pd n (97 + k) 112 p
  · have h2 : sgQ pd n (97 + (k + 1)) 112 p := by obtain ⟨q1, q2, q3⟩ := h1; exact ⟨q1, by omega, q3⟩
    rw [ltP_y h1, ltP_y h2]
  · have h2 : ¬ sgQ pd n (97 + (k + 1)) 112 p := fun q => h1 (by obtain ⟨q1, q2, q3⟩ := q; exact ⟨q1, by omega, q3⟩)
    rw [ltP_n h1, ltP_n h2]
theorem ltP_hit {pd : Nat → Nat} {n x k p : Nat} (h : pd p = 97 + k) (hp : p < n) (hk : k < 16) : ltP pd n x (97 + k) p = ltP pd n (x ||| 2 ^ k) (97 + (k + 1)) (p + 1) := by
  rw [ltP_y ⟨hp, by omega, by omega⟩, show pd p - 97 = k from by omega, show pd p + 1 = 97 + (k + 1) from by omega]
theorem entT1_bad {pd : Nat → Nat} {n e p : Nat} (h : ¬ sgQ pd n 48 57 p) : entT1 pd n e p = .inl p := if_neg h
theorem entT1_go {pd : Nat → Nat} {n e p v q : Nat} (h : sgQ pd n 48 57 p) (hd : dgP pd n 999 (pd p - 48) (p + 1) = (v, q)) : entT1 pd n e p = entT2 pd n e (v, q) := by
  unfold entT1
  rw [if_pos h, hd]
theorem entT2_b1 {pd : Nat → Nat} {n e v q : Nat} (h : ¬ sgQ pd n 47 47 q) : entT2 pd n e (v, q) = .inl q := if_neg h
theorem entT2_b2 {pd : Nat → Nat} {n e v q : Nat} (h : sgQ pd n 47 47 q) (h2 : ¬ sgQ pd n 48 57 (q + 1)) : entT2 pd n e (v, q) = .inl (q + 1) := (if_pos h).trans (if_neg h2)
theorem entT2_go {pd : Nat → Nat} {n e v q v2 q2 : Nat} (h : sgQ pd n 47 47 q) (h2 : sgQ pd n 48 57 (q + 1)) (hd : dgP pd n 999 (pd (q + 1) - 48) (q + 1 + 1) = (v2, q2)) : entT2 pd n e (v, q) = entT3 pd n e v (v2, q2) := by
  refine (if_pos h).trans ((if_pos h2).trans ?_)
  show entT3 pd n e v (dgP pd n 999 (pd (q + 1) - 48) (q + 1 + 1)) = _
  rw [hd]
theorem entT3_b1 {pd : Nat → Nat} {n e w v q : Nat} (h : ¬ sgQ pd n 47 47 q) : entT3 pd n e w (v, q) = .inl q := if_neg h
theorem entT3_b2 {pd : Nat → Nat} {n e w v q : Nat} (h : sgQ pd n 47 47 q) (h2 : ¬ sgQ pd n 48 57 (q + 1)) : entT3 pd n e w (v, q) = .inl (q + 1) := (if_pos h).trans (if_neg h2)
theorem entT3_go {pd : Nat → Nat} {n e w v q v2 q2 : Nat} (h : sgQ pd n 47 47 q) (h2 : sgQ pd n 48 57 (q + 1)) (hd : dgP pd n 999 (pd (q + 1) - 48) (q + 1 + 1) = (v2, q2)) : entT3 pd n e w (v, q) = entT4 pd n e w v (v2, q2) := by
  refine (if_pos h).trans ((if_pos h2).trans ?_)
  show entT4 pd n e w v (dgP pd n 999 (pd (q + 1) - 48) (q + 1 + 1)) = _
  rw [hd]
theorem entT4_b1 {pd : Nat → Nat} {n e w s v q : Nat} (h : ¬ sgQ pd n 61 61 q) : entT4 pd n e w s (v, q) = .inl q := if_neg h
theorem entT4_b2 {pd : Nat → Nat} {n e w s v q f q2 : Nat} (h : sgQ pd n 61 61 q) (hd : ltP pd n 0 97 (q + 1) = (f, q2)) (hf : f = 0) : entT4 pd n e w s (v, q) = .inl q2 := by
  refine (if_pos h).trans ?_
  show entT5 e w s v (ltP pd n 0 97 (q + 1)) = _
  rw [hd]
  exact if_pos hf
theorem entT4_go {pd : Nat → Nat} {n e w s v q f q2 : Nat} (h : sgQ pd n 61 61 q) (hd : ltP pd n 0 97 (q + 1) = (f, q2)) (hf : ¬ f = 0) : entT4 pd n e w s (v, q) = .inr ((0, e, w, s, v, f), q2) := by
  refine (if_pos h).trans ?_
  show entT5 e w s v (ltP pd n 0 97 (q + 1)) = _
  rw [hd]
  exact if_neg hf
theorem entC_b1 {pd : Nat → Nat} {n e p : Nat} (h : ¬ sgQ pd n 48 52 p) : entC pd n e p = .inl p := if_neg h
theorem entC_b2 {pd : Nat → Nat} {n e p : Nat} (h : sgQ pd n 48 52 p) (h2 : ¬ sgQ pd n 43 43 (p + 1)) : entC pd n e p = .inl (p + 1) := (if_pos h).trans (if_neg h2)
theorem entC_b3 {pd : Nat → Nat} {n e p : Nat} (h : sgQ pd n 48 52 p) (h2 : sgQ pd n 43 43 (p + 1)) (h3 : ¬ sgQ pd n 49 57 (p + 1 + 1)) : entC pd n e p = .inl (p + 1 + 1) := (if_pos h).trans ((if_pos h2).trans (if_neg h3))
theorem entC_go {pd : Nat → Nat} {n e p v q : Nat} (h : sgQ pd n 48 52 p) (h2 : sgQ pd n 43 43 (p + 1)) (h3 : sgQ pd n 49 57 (p + 1 + 1)) (hd : dgP pd n 30 (pd (p + 1 + 1) - 48) (p + 1 + 1 + 1) = (v, q)) : entC pd n e p = entC2 pd n e (pd p - 48) (v, q) := by
  refine (if_pos h).trans ((if_pos h2).trans ((if_pos h3).trans ?_))
  show entC2 pd n e (pd p - 48) (dgP pd n 30 (pd (p + 1 + 1) - 48) (p + 1 + 1 + 1)) = _
  rw [hd]
theorem entC2_b {pd : Nat → Nat} {n e t v q : Nat} (h : ¬ sgQ pd n 61 61 q) : entC2 pd n e t (v, q) = .inl q := if_neg h
theorem entC2_go {pd : Nat → Nat} {n e t v q f q2 : Nat} (h : sgQ pd n 61 61 q) (hd : ltP pd n 0 97 (q + 1) = (f, q2)) : entC2 pd n e t (v, q) = .inr ((1, e, t, v, 0, f), q2) := by
  refine (if_pos h).trans ?_
  show (Sum.inr ((1, e, t, v, 0, (ltP pd n 0 97 (q + 1)).1), (ltP pd n 0 97 (q + 1)).2) : EntR) = _
  rw [hd]
theorem entF_b1 {pd : Nat → Nat} {n p : Nat} (h : ¬ sgQ pd n 48 55 p) : entF pd n p = .inl p := if_neg h
theorem entF_c {pd : Nat → Nat} {n p : Nat} (h : sgQ pd n 48 55 p) (h2 : sgQ pd n 46 46 (p + 1)) : entF pd n p = entC pd n (pd p - 48) (p + 1 + 1) := (if_pos h).trans (if_pos h2)
theorem entF_t {pd : Nat → Nat} {n p : Nat} (h : sgQ pd n 48 55 p) (h2 : ¬ sgQ pd n 46 46 (p + 1)) (h3 : sgQ pd n 58 58 (p + 1)) : entF pd n p = entT1 pd n (pd p - 48) (p + 1 + 1) := (if_pos h).trans ((if_neg h2).trans (if_pos h3))
theorem entF_b2 {pd : Nat → Nat} {n p : Nat} (h : sgQ pd n 48 55 p) (h2 : ¬ sgQ pd n 46 46 (p + 1)) (h3 : ¬ sgQ pd n 58 58 (p + 1)) : entF pd n p = .inl (p + 1) := (if_pos h).trans ((if_neg h2).trans (if_neg h3))
theorem m1_lt {x : Nat} (h : x < 1000000) : (-1 : Int32) < nI x := by
  rw [Int32.lt_iff_toInt_lt, nI_toInt (by omega), show (-1 : Int32).toInt = -1 from by decide]
  omega
/-- an entry ends behind its beginning, within the pad -/
theorem entF_q {pd : Nat → Nat} {n p q : Nat} {i : EntT} (h : entF pd n p = .inr (i, q)) : p < q ∧ q ≤ n := by
  unfold entF at h
  split at h
  · rename_i h0
    split at h
    · rename_i h1
      unfold entC at h
      split at h
      · split at h
        · split at h
          · rename_i h4
            have h9 := dgP_le (pd := pd) (n := n) (hi := 30) (v := pd (p + 2 + 2) - 48) (p := p + 2 + 3) (by have := h4.2; omega) (by have := h4.1; omega)
            unfold entC2 at h
            split at h
            · rename_i h5
              have h8 := ltP_le (pd := pd) (n := n) (p := (dgP pd n 30 (pd (p + 2 + 2) - 48) (p + 2 + 3)).2 + 1) h5.1
              cases h
              exact ⟨by omega, h8.2.1⟩
            · cases h
          · cases h
        · cases h
      · cases h
    · split at h
      · unfold entT1 at h
        split at h
        · rename_i h4
          have h9 := dgP_le (pd := pd) (n := n) (hi := 999) (v := pd (p + 2) - 48) (p := p + 2 + 1) (by have := h4.2; omega) h4.1
          unfold entT2 at h
          split at h
          · split at h
            · rename_i h5
              have h10 := dgP_le (pd := pd) (n := n) (hi := 999) (v := pd ((dgP pd n 999 (pd (p + 2) - 48) (p + 2 + 1)).2 + 1) - 48) (p := (dgP pd n 999 (pd (p + 2) - 48) (p + 2 + 1)).2 + 2) (by have := h5.2; omega) (by have := h5.1; omega)
              generalize dgP pd n 999 (pd ((dgP pd n 999 (pd (p + 2) - 48) (p + 2 + 1)).2 + 1) - 48) ((dgP pd n 999 (pd (p + 2) - 48) (p + 2 + 1)).2 + 2) = d2 at *
              unfold entT3 at h
              split at h
              · split at h
                · rename_i h6
                  have h11 := dgP_le (pd := pd) (n := n) (hi := 999) (v := pd (d2.2 + 1) - 48) (p := d2.2 + 2) (by have := h6.2; omega) (by have := h6.1; omega)
                  generalize dgP pd n 999 (pd (d2.2 + 1) - 48) (d2.2 + 2) = d3 at *
                  unfold entT4 at h
                  split at h
                  · rename_i h7
                    have h8 := ltP_le (pd := pd) (n := n) (p := d3.2 + 1) h7.1
                    unfold entT5 at h
                    split at h
                    · cases h
                    · cases h
                      exact ⟨by omega, h8.2.1⟩
                  · cases h
                · cases h
              · cases h
            · cases h
          · cases h
        · cases h
      · cases h
  · cases h
theorem padF_fuel {pd : Nat → Nat} {n : Nat} : ∀ (f p : Nat), n ≤ p + f → padF pd n f p = padF pd n (f + 1) p
  | 0, p, h => by
    show some p = padF pd n 1 p
    have h2 : entF pd n p = .inl p := entF_b1 (fun q => by have := q.1; omega)
    rw [padF_bad1 h2]
  | f + 1, p, h => by
    cases he : entF pd n p with
    | inl q => rw [padF_bad1 he, padF_bad1 he]
    | inr w =>
      obtain ⟨i, q⟩ := w
      have hq := entF_q he
      by_cases h1 : q < n
      · by_cases h2 : sgQ pd n 59 59 q
        · rw [padF_go he h1 h2, padF_go he h1 h2]
          exact padF_fuel f (q + 1) (by omega)
        · rw [padF_bad2 he h1 h2, padF_bad2 he h1 h2]
      · rw [padF_end he h1, padF_end he h1]
/-- an entry's fault lies within the pad, or just behind it -/
theorem entF_l {pd : Nat → Nat} {n p q : Nat} (h : entF pd n p = .inl q) (hp : p ≤ n) : q ≤ n := by
  unfold entF at h
  split at h
  · rename_i h0
    have g0 := h0.1
    split at h
    · rename_i h1
      have g1 := h1.1
      unfold entC at h
      split at h
      · rename_i h2
        have g2 := h2.1
        split at h
        · rename_i h3
          have g3 := h3.1
          split at h
          · rename_i h4
            have g4 := h4.1
            have h9 := dgP_le (pd := pd) (n := n) (hi := 30) (v := pd (p + 2 + 2) - 48) (p := p + 2 + 3) (by have := h4.2; omega) (by have := h4.1; omega)
            unfold entC2 at h
            split at h
            · cases h
            · cases h; exact h9.2.1
          · cases h; omega
        · cases h; omega
      · cases h; omega
    · split at h
      · rename_i h1
        have g1 := h1.1
        unfold entT1 at h
        split at h
        · rename_i h4
          have h9 := dgP_le (pd := pd) (n := n) (hi := 999) (v := pd (p + 2) - 48) (p := p + 2 + 1) (by have := h4.2; omega) h4.1
          generalize dgP pd n 999 (pd (p + 2) - 48) (p + 2 + 1) = d1 at *
          unfold entT2 at h
          split at h
          · rename_i h5
            have g5 := h5.1
            split at h
            · rename_i h5
              have h10 := dgP_le (pd := pd) (n := n) (hi := 999) (v := pd (d1.2 + 1) - 48) (p := d1.2 + 2) (by have := h5.2; omega) (by have := h5.1; omega)
              generalize dgP pd n 999 (pd (d1.2 + 1) - 48) (d1.2 + 2) = d2 at *
              unfold entT3 at h
              split at h
              · rename_i h6
                have g6 := h6.1
                split at h
                · rename_i h6
                  have h11 := dgP_le (pd := pd) (n := n) (hi := 999) (v := pd (d2.2 + 1) - 48) (p := d2.2 + 2) (by have := h6.2; omega) (by have := h6.1; omega)
                  generalize dgP pd n 999 (pd (d2.2 + 1) - 48) (d2.2 + 2) = d3 at *
                  unfold entT4 at h
                  split at h
                  · rename_i h7
                    have h8 := ltP_le (pd := pd) (n := n) (p := d3.2 + 1) h7.1
                    unfold entT5 at h
                    split at h
                    · cases h; exact h8.2.1
                    · cases h
                  · cases h; exact h11.2.1
                · cases h; omega
              · cases h; exact h10.2.1
            · cases h; omega
          · cases h; exact h9.2.1
        · cases h; omega
      · cases h; omega
  · cases h; omega
