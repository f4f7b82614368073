/-! a round, as the class goes it -/
abbrev rnX (sg : Nat → Nat) (aX pX sX : Nat) : Nat → Nat × Nat := rnS (sg 1) pX sX (fun k => shT sg ((sg 0 + k) % 8) aX) (fun k => atF sg 3 ((sg 0 + k) % 8)) (fun k => atF sg 0 ((sg 0 + k) % 8))
def rnC (sg : Nat → Nat) (aX pX k : Nat) (g : Nat → Nat) : Prop := g 0 = (sg 0 + k) % 8 ∧ g 1 = sg 1 ∧ g 2 = 1 ∧ g 3 = aX ∧ g 4 = pX ∧ (∀ e, e < 8 → g (10 + 76 * e) = sg (10 + 76 * e)) ∧ ∀ e t w, e < 8 → t < 5 → w < 4 → g (11 + 76 * e + 15 * t + w) = sg (11 + 76 * e + 15 * t + w)
def rnP (sg : Nat → Nat) (aX pX sX k : Nat) (g : Nat → Nat) : Prop := rnC sg aX pX k g ∧ rnX sg aX pX sX k = (g 5, g 6)
def rnI (sg : Nat → Nat) (aX pX sX k : Nat) (g : Nat → Nat) : Prop := rnC sg aX pX k g ∧ rnX sg aX pX sX (k + 1) = (g 5 - sg 1, g 6)
theorem rn_start {sg : Nat → Nat} {aX pX sX : Nat} (hM : mOK sg) : rnP sg aX pX sX 0 (enT sg aX pX sX) := by
  have h0 := hM.1.1
  have r : ∀ j, 8 ≤ j → enT sg aX pX sX j = sg j := fun j h => by
    unfold enT
    rw [arU_n (by omega), arU_n (by omega), arU_n (by omega), arU_n (by omega), arU_n (by omega), arU_n (by omega)]
  refine ⟨⟨?_, rfl, rfl, rfl, rfl, fun e he => r _ (by omega), fun e t w he ht hw => r _ (by omega)⟩, rfl⟩
  show sg 0 = (sg 0 + 0) % 8
  omega
theorem rn_sN {sg g : Nat → Nat} {aX pX k : Nat} (hM : mOK sg) (h : rnC sg aX pX k g) : sN g = shT sg ((sg 0 + k) % 8) aX := by
  obtain ⟨h0, h1, h2, h3, h4, h5, h6⟩ := h
  have h7 : (sg 0 + k) % 8 < 8 := Nat.mod_lt _ (by decide)
  unfold sN
  rw [h2, if_neg (by decide), h0, h3]
  exact shT_congr (hM.2.1 _ h7) (h5 _ h7) (fun t w ht hw => h6 _ t w h7 ht (by omega))
theorem rn_none {sg g : Nat → Nat} {aX pX sX k : Nat} (hM : mOK sg) (h : rnP sg aX pX sX k g) (hs : sN g = none) : rnI sg aX pX sX k g := by
  refine ⟨h.1, ?_⟩
  have e := rn_sN hM h.1
  rw [hs] at e
  show rnStep (sg 1) pX (shT sg ((sg 0 + k) % 8) aX) (atF sg 3 ((sg 0 + k) % 8)) (atF sg 0 ((sg 0 + k) % 8)) (rnX sg aX pX sX k) = _
  rw [← e, h.2]
  rfl
theorem rn_tx {sg g : Nat → Nat} {aX pX k t : Nat} (hM : mOK sg) (hG : mOK g) (h : rnC sg aX pX k g) (hs : sN g = some t) : t < 5 ∧ atF sg 3 ((sg 0 + k) % 8) t = g (11 + 76 * g 0 + 15 * t + 3) ∧ atF sg 0 ((sg 0 + k) % 8) t = g (11 + 76 * g 0 + 15 * t + 0) := by
  have ht := (sN_some hG hs).2
  have h5 := hG.2.1 _ hG.1.1
  obtain ⟨h0, -, -, -, -, -, h6⟩ := h
  have h7 : (sg 0 + k) % 8 < 8 := Nat.mod_lt _ (by decide)
  rw [h0]
  exact ⟨by omega, (h6 _ t 3 h7 (by omega) (by omega)).symm, (h6 _ t 0 h7 (by omega) (by omega)).symm⟩
theorem rn_no {sg g : Nat → Nat} {aX pX sX k t : Nat} (hM : mOK sg) (hG : mOK g) (h : rnP sg aX pX sX k g) (hs : sN g = some t) (hc : ¬ canR g t) : rnI sg aX pX sX k g := by
  refine ⟨h.1, ?_⟩
  have e := rn_sN hM h.1
  obtain ⟨ht, q3, q0⟩ := rn_tx hM hG h.1 hs
  rw [hs] at e
  show rnStep (sg 1) pX (shT sg ((sg 0 + k) % 8) aX) (atF sg 3 ((sg 0 + k) % 8)) (atF sg 0 ((sg 0 + k) % 8)) (rnX sg aX pX sX k) = _
  rw [← e, h.2]
  have h4 := h.1.2.2.2.2.1
  refine if_neg (fun q => hc ?_)
  have q : ¬ andN (atF sg 3 ((sg 0 + k) % 8) t) (g 6) = 0 ∧ secs (atF sg 0 ((sg 0 + k) % 8) t) pX ≤ g 5 := q
  rw [q3, q0, ← h4] at q
  exact q
theorem rn_yes {sg g : Nat → Nat} {aX pX sX k t : Nat} (hM : mOK sg) (hG : mOK g) (h : rnP sg aX pX sX k g) (hs : sN g = some t) (hc : canR g t) : rnI sg aX pX sX k (rdT g t) := by
  have e := rn_sN hM h.1
  obtain ⟨ht, q3, q0⟩ := rn_tx hM hG h.1 hs
  obtain ⟨h0, h1, h2, h3, h4, h5, h6⟩ := h.1
  have g0 := hG.1.1
  obtain ⟨f0, f1, f7, f8, f9, f2, f3, f4, f5, f6⟩ := rdT_f (sg := g) (t := t)
  refine ⟨⟨f0.trans h0, f1.trans h1, f2.trans h2, f3.trans h3, f4.trans h4, fun e he => (rdT_o (by omega) (by omega) (by omega) (fun q => ix_mx (e := e) (e2 := g 0) (t2 := t) (w := 4) (by omega) (by omega) q.symm)).trans (h5 e he), fun e t2 w he ht2 hw => (rdT_o (by omega) (by omega) (by omega) (ix_sep ht2 (by omega) (by omega) (by omega) (by omega))).trans (h6 e t2 w he ht2 hw)⟩, ?_⟩
  rw [hs] at e
  show rnStep (sg 1) pX (shT sg ((sg 0 + k) % 8) aX) (atF sg 3 ((sg 0 + k) % 8)) (atF sg 0 ((sg 0 + k) % 8)) (rnX sg aX pX sX k) = _
  rw [← e, h.2, f5, f6]
  have hc2 : ¬ andN (atF sg 3 ((sg 0 + k) % 8) t) (g 6) = 0 ∧ secs (atF sg 0 ((sg 0 + k) % 8) t) pX ≤ g 5 := by
    rw [q3, q0, ← h4]; exact hc
  refine (if_pos hc2).trans ?_
  show (g 5 - secs (atF sg 0 ((sg 0 + k) % 8) t) pX - sg 1, g 6 ||| atF sg 3 ((sg 0 + k) % 8) t) = _
  rw [q3, q0, h4]
theorem rn_turn {sg g : Nat → Nat} {aX pX sX k : Nat} (h : rnI sg aX pX sX k g) : rnP sg aX pX sX (k + 1) (tuT g 1) := by
  obtain ⟨⟨h0, h1, h2, h3, h4, h5, h6⟩, h7⟩ := h
  refine ⟨⟨?_, h1, h2, h3, h4, fun e he => (tuT_o (by omega) (by omega)).trans (h5 e he), fun e t w he ht hw => (tuT_o (by omega) (by omega)).trans (h6 e t w he ht hw)⟩, ?_⟩
  · show (g 0 + 1) % 8 = _
    rw [h0]
    omega
  · rw [h7]
    show _ = (g 5 - g 1, g 6)
    rw [h1]
