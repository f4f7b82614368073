/-! what an act keeps -/
/-- no caption tells more than its text -/
def cOK (sg : Nat → Nat) : Prop := ∀ e t c, e < 8 → t < sg (10 + 76 * e) → c < sg (11 + 76 * e + 15 * t + 5) → andN (sg (11 + 76 * e + 15 * t + (6 + 3 * c + 1))) (sg (11 + 76 * e + 15 * t + 3)) = 0
theorem cOK_keep {sg s2 : Nat → Nat} (hM : mOK sg) (hC : cOK sg) (hs : ∀ e, e < 8 → s2 (10 + 76 * e) = sg (10 + 76 * e)) (h : ∀ e t w, e < 8 → t < 5 → w < 15 → w ≠ 4 → w ≠ 8 → w ≠ 11 → w ≠ 14 → s2 (11 + 76 * e + 15 * t + w) = sg (11 + 76 * e + 15 * t + w)) : cOK s2 := by
  intro e t c he ht hc
  rw [hs e he] at ht
  have h5 := hM.2.1 e he
  have h3 := (hM.2.2 e t he ht).2.2.2.2.1
  rw [h e t 5 he (by omega) (by omega) (by omega) (by omega) (by omega) (by omega)] at hc
  rw [h e t (6 + 3 * c + 1) he (by omega) (by omega) (by omega) (by omega) (by omega) (by omega), h e t 3 he (by omega) (by omega) (by omega) (by omega) (by omega) (by omega)]
  exact hC e t c he ht hc
theorem cOK_rdT {sg : Nat → Nat} {t : Nat} (hM : mOK sg) (hC : cOK sg) (ht : t < 5) : cOK (rdT sg t) := by
  refine cOK_keep hM hC (fun e he => ?_) (fun e t2 w he ht2 hw h4 h8 h11 h14 => ?_)
  · exact rdT_o (by omega) (by omega) (by omega) (fun q => ix_mx (e := e) (e2 := sg 0) (t2 := t) (w := 4) ht (by omega) q.symm)
  · exact rdT_o (by omega) (by omega) (by omega) (ix_sep ht2 hw ht (by omega) h4)
theorem cOK_cpT {sg : Nat → Nat} {t k : Nat} (hM : mOK sg) (hC : cOK sg) (ht : t < 5) (hk : k < 3) : cOK (cpT sg t k) := by
  refine cOK_keep hM hC (fun e he => ?_) (fun e t2 w he ht2 hw h4 h8 h11 h14 => ?_)
  · exact cpT_o (by omega) (by omega) (by omega) (fun q => ix_mx (e := e) (e2 := sg 0) (t2 := t) (w := 6 + 3 * k + 2) ht (by omega) q.symm)
  · exact cpT_o (by omega) (by omega) (by omega) (ix_sep ht2 hw ht (by omega) (by omega))
theorem cOK_tuT {sg : Nat → Nat} {d : Nat} (hM : mOK sg) (hC : cOK sg) : cOK (tuT sg d) :=
  cOK_keep hM hC (fun e he => tuT_o (by omega) (by omega)) (fun e t w he ht hw h4 h8 h11 h14 => tuT_o (by omega) (by omega))
theorem enT_o {sg : Nat → Nat} {a b c j : Nat} (h : 8 ≤ j) : enT sg a b c j = sg j := by
  unfold enT
  rw [arU_n (by omega), arU_n (by omega), arU_n (by omega), arU_n (by omega), arU_n (by omega), arU_n (by omega)]
theorem cOK_enT {sg : Nat → Nat} {a b c : Nat} (hM : mOK sg) (hC : cOK sg) : cOK (enT sg a b c) :=
  cOK_keep hM hC (fun e he => enT_o (by omega)) (fun e t w he ht hw h4 h8 h11 h14 => enT_o (by omega))
theorem cOK_sTu {sg : Nat → Nat} {n : Nat} (hM : mOK sg) (hC : cOK sg) : cOK (arU sg 1 n) :=
  cOK_keep hM hC (fun e he => arU_n (by omega)) (fun e t w he ht hw h4 h8 h11 h14 => arU_n (by omega))
theorem cOK_addT {sg : Nat → Nat} {e w s z f : Nat} (hM : mOK sg) (hC : cOK sg) (he : e < 8) (hn : sg (10 + 76 * e) < 5) : cOK (addT sg e w s z f) := by
  obtain ⟨v0, v1, v2, v3, v4, v5, v6⟩ := addT_v (sg := sg) (e := e) (w := w) (s := s) (z := z) (f := f)
  have hsz : ∀ e2, e2 ≠ e → addT sg e w s z f (10 + 76 * e2) = sg (10 + 76 * e2) := fun e2 h => addT_o (mx_out hn (Nat.le_refl _)) (by omega)
  intro e2 t2 c he2 ht2 hc
  by_cases h : e2 = e ∧ t2 = sg (10 + 76 * e)
  · obtain ⟨rfl, rfl⟩ := h
    rw [v6] at hc
    exact absurd hc (Nat.not_lt_zero _)
  · have ht3 : t2 < sg (10 + 76 * e2) := by
      by_cases h2 : e2 = e
      · subst h2; rw [v0] at ht2; omega
      · rw [hsz e2 h2] at ht2; exact ht2
    have h5 := hM.2.1 e2 he2
    have h3 := (hM.2.2 e2 t2 he2 ht3).2.2.2.2.1
    have r : ∀ w2, w2 < 15 → addT sg e w s z f (11 + 76 * e2 + 15 * t2 + w2) = sg (11 + 76 * e2 + 15 * t2 + w2) := fun w2 hw2 => addT_o (ix_out hn (by omega) hw2 (by omega)) (ix_mx (by omega) hw2)
    rw [r 5 (by omega)] at hc
    rw [r _ (by omega), r 3 (by omega)]
    exact hC e2 t2 c he2 ht3 hc
theorem cOK_addC {sg : Nat → Nat} {e t w f : Nat} (hM : mOK sg) (hC : cOK sg) (he : e < 8) (ht : t < sg (10 + 76 * e)) (hc : sg (11 + 76 * e + 15 * t + 5) < 3) (hf : andN f (sg (11 + 76 * e + 15 * t + 3)) = 0) : cOK (addC sg e t w f) := by
  obtain ⟨v0, v1, v2, v3⟩ := addC_v (sg := sg) (e := e) (t := t) (w := w) (f := f)
  have h5 := hM.2.1 e he
  have hs : ∀ e2, addC sg e t w f (10 + 76 * e2) = sg (10 + 76 * e2) := fun e2 => by
    have h9 := mx_out (e := e) (n := t) (e2 := e2) (w := 15) (by omega) (Nat.le_refl _)
    exact addC_o (by omega) (by omega)
  intro e2 t2 c he2 ht2 hc2
  rw [hs] at ht2
  have h52 := hM.2.1 e2 he2
  by_cases h : e2 = e ∧ t2 = t
  · obtain ⟨rfl, rfl⟩ := h
    have e3 : addC sg e2 t2 w f (11 + 76 * e2 + 15 * t2 + 3) = sg (11 + 76 * e2 + 15 * t2 + 3) := addC_o (by omega) (by omega)
    rw [v0] at hc2
    rw [e3]
    by_cases hcc : c = sg (11 + 76 * e2 + 15 * t2 + 5)
    · subst hcc
      rw [v2]
      exact hf
    · rw [addC_o (by omega) (by omega)]
      exact hC e2 t2 c he2 ht2 (by omega)
  · have h3 := (hM.2.2 e2 t2 he2 ht2).2.2.2.2.1
    have r : ∀ w2, w2 < 15 → addC sg e t w f (11 + 76 * e2 + 15 * t2 + w2) = sg (11 + 76 * e2 + 15 * t2 + w2) := fun w2 hw2 => by
      have h9 := ix_out (e := e) (n := t) (e2 := e2) (t2 := t2) (w := w2) (by omega) (by omega) hw2 (by omega)
      exact addC_o (by omega) (by omega)
    rw [r 5 (by omega)] at hc2
    rw [r _ (by omega), r 3 (by omega)]
    exact hC e2 t2 c he2 ht2 hc2
theorem cOK_setF {sg : Nat → Nat} {e t f : Nat} (hM : mOK sg) (hC : cOK sg) (he : e < 8) (ht : t < sg (10 + 76 * e)) (hf : ∀ c : Nat, c < sg (11 + 76 * e + 15 * t + 5) → andN (sg (11 + 76 * e + 15 * t + (6 + 3 * c + 1))) f = 0) : cOK (arU sg (11 + 76 * e + 15 * t + 3) f) := by
  have h5 := hM.2.1 e he
  have hs : ∀ e2, arU sg (11 + 76 * e + 15 * t + 3) f (10 + 76 * e2) = sg (10 + 76 * e2) := fun e2 => arU_n (fun q => ix_mx (e := e2) (e2 := e) (t2 := t) (w := 3) (by omega) (by omega) q.symm)
  intro e2 t2 c he2 ht2 hc2
  rw [hs] at ht2
  have h52 := hM.2.1 e2 he2
  have h3 := (hM.2.2 e2 t2 he2 ht2).2.2.2.2.1
  have r : ∀ w2, w2 < 15 → w2 ≠ 3 → arU sg (11 + 76 * e + 15 * t + 3) f (11 + 76 * e2 + 15 * t2 + w2) = sg (11 + 76 * e2 + 15 * t2 + w2) := fun w2 hw2 h => arU_n (ix_sep (by omega) hw2 (by omega) (by omega) h)
  rw [r 5 (by omega) (by omega)] at hc2
  rw [r _ (by omega) (by omega)]
  by_cases h : e2 = e ∧ t2 = t
  · obtain ⟨rfl, rfl⟩ := h
    rw [arU_s]
    exact hf c hc2
  · rw [arU_n (fun q => ix_out (e := e) (n := t) (e2 := e2) (t2 := t2) (w := 3) (by omega) (by omega) (by omega) (by omega) ⟨by omega, by omega⟩)]
    exact hC e2 t2 c he2 ht2 hc2
theorem cOK_rmT {sg : Nat → Nat} {e t : Nat} (hM : mOK sg) (hC : cOK sg) (he : e < 8) (ht : t < sg (10 + 76 * e)) : cOK (rmT sg e t) := by
  have h5 := hM.2.1 e he
  intro e2 t2 c he2 ht2 hc
  by_cases h : e2 = e
  · subst h
    rw [rmT_v] at ht2
    by_cases h2 : t2 < t
    · have r : ∀ w, w < 15 → rmT sg e2 t (11 + 76 * e2 + 15 * t2 + w) = sg (11 + 76 * e2 + 15 * t2 + w) := fun w hw => rmT_lo h5 ht (by omega) hw (Or.inr h2)
      have h3 := (hM.2.2 e2 t2 he2 (by omega)).2.2.2.2.1
      rw [r 5 (by omega)] at hc
      rw [r _ (by omega), r 3 (by omega)]
      exact hC e2 t2 c he2 (by omega) hc
    · have r : ∀ w, w < 15 → rmT sg e2 t (11 + 76 * e2 + 15 * t2 + w) = sg (11 + 76 * e2 + 15 * (t2 + 1) + w) := fun w hw => rmT_hi h5 (by omega) ht2 hw
      have h3 := (hM.2.2 e2 (t2 + 1) he2 (by omega)).2.2.2.2.1
      rw [r 5 (by omega)] at hc
      rw [r _ (by omega), r 3 (by omega)]
      exact hC e2 (t2 + 1) c he2 (by omega) hc
  · rw [rmT_mx h5 ht h] at ht2
    have h52 := hM.2.1 e2 he2
    have r : ∀ w, w < 15 → rmT sg e t (11 + 76 * e2 + 15 * t2 + w) = sg (11 + 76 * e2 + 15 * t2 + w) := fun w hw => rmT_lo h5 ht (by omega) hw (Or.inl h)
    have h3 := (hM.2.2 e2 t2 he2 ht2).2.2.2.2.1
    rw [r 5 (by omega)] at hc
    rw [r _ (by omega), r 3 (by omega)]
    exact hC e2 t2 c he2 ht2 hc
/-- the facts of the text that the visitor is shown -/
def fcN (sg : Nat → Nat) : Nat := match sN sg with
  | none => 0
  | some t => sg (11 + 76 * sg 0 + 15 * t + 3)
theorem fcN_some {sg : Nat → Nat} {t : Nat} (h : sN sg = some t) : fcN sg = sg (11 + 76 * sg 0 + 15 * t + 3) := by unfold fcN; rw [h]
theorem fcN_none {sg : Nat → Nat} (h : sN sg = none) : fcN sg = 0 := by unfold fcN; rw [h]
/-- what an act of a kind, with its answer, does to the visitor who is there -/
def dV (kd r : Int32) (sg g2 : Nat → Nat) : Prop := sg 2 = 1 → ¬ kd = nI 6 →
  g2 2 = 1 ∧ g2 5 ≤ sg 5 ∧ sB (sg 6) (g2 6) ∧ (∀ i, (g2 6).testBit i = true → (sg 6).testBit i = true ∨ (fcN sg).testBit i = true) ∧ (g2 8 = sg 8 ∨ (¬ andN (fcN sg) (sg 6) = 0 ∧ sB (fcN sg) (g2 6))) ∧ (kd < nI 7 ∨ nI 10 < kd ∨ r < 0 ∨ nI (bitsN (g2 6) 16) = nI (bitsN (sg 6) 16) + r)
theorem dV_same {kd r : Int32} {sg g2 : Nat → Nat} (h2 : g2 2 = sg 2) (h5 : g2 5 ≤ sg 5) (h6 : g2 6 = sg 6) (h8 : g2 8 = sg 8) (hk : kd < nI 7 ∨ nI 10 < kd ∨ r < 0) : dV kd r sg g2 := by
  intro h1 _
  refine ⟨by rw [h2]; exact h1, h5, by rw [h6]; exact sB_rf _, by rw [h6]; exact fun i h => Or.inl h, Or.inl h8, ?_⟩
  rcases hk with q | q | q
  · exact Or.inl q
  · exact Or.inr (Or.inl q)
  · exact Or.inr (Or.inr (Or.inl q))
theorem dV_no {kd r : Int32} {sg : Nat → Nat} (h : r < 0) : dV kd r sg sg := dV_same rfl (Nat.le_refl _) rfl rfl (Or.inr (Or.inr h))
theorem dV_rdT {kd : Int32} {sg : Nat → Nat} {t : Nat} (hM : mOK sg) (hs : sN sg = some t) (hc : canR sg t) : dV kd (nI (bitsN (rdT sg t 6) 16) - nI (bitsN (sg 6) 16)) sg (rdT sg t) := by
  intro h1 _
  have hf := fcN_some hs
  obtain ⟨f0, f1, f7, f8, f9, f2, f3, f4, f5, f6⟩ := rdT_f (sg := sg) (t := t)
  refine ⟨f2.trans h1, by rw [f5]; exact Nat.sub_le _ _, by rw [f6]; exact sB_l _ _, fun i h => ?_, Or.inr ⟨?_, ?_⟩, Or.inr (Or.inr (Or.inr (sub_bk _ _)))⟩
  · rw [f6] at h
    rw [hf]
    exact bit_or h
  · rw [hf]; exact hc.1
  · rw [hf, f6]; exact sB_r _ _
theorem dV_cpT {kd : Int32} {sg : Nat → Nat} {t k : Nat} (hM : mOK sg) (hC : cOK sg) (hs : sN sg = some t) (hk : k < sg (11 + 76 * sg 0 + 15 * t + 5)) : dV kd (nI (bitsN (tcT sg t k 6) 16) - nI (bitsN (sg 6) 16)) sg (tcT sg t k) := by
  intro h1 _
  have hf := fcN_some hs
  have h0 := hM.1.1
  have ht := (sN_some hM hs).2
  have hT := hM.2.2 _ t h0 ht
  have h5 := hM.2.1 _ h0
  have hf3 := hT.2.2.2.1
  have hc3 := hT.2.2.2.2.1
  have hcf := hT.2.2.2.2.2 k hk
  have hcs : sB (sg (11 + 76 * sg 0 + 15 * t + (6 + 3 * k + 1))) (sg (11 + 76 * sg 0 + 15 * t + 3)) := andN_to hcf.2.2 (hC _ t k h0 ht hk)
  obtain ⟨f0, f1, f7, f8, f9, f2, f3, f4, f5, f6⟩ := cpT_f (sg := sg) (t := t) (k := k)
  have e3 : cpT sg t k (11 + 76 * cpT sg t k 0 + 15 * t + 3) = sg (11 + 76 * sg 0 + 15 * t + 3) := by
    rw [f0]
    exact cpT_o (by omega) (by omega) (by omega) (by omega)
  by_cases hr : canR (cpT sg t k) t
  · have et : tcT sg t k = rdT (cpT sg t k) t := if_pos hr
    obtain ⟨g0, g1, g7, g8, g9, g2, g3, g4, g5, g6⟩ := rdT_f (sg := cpT sg t k) (t := t)
    rw [et]
    refine ⟨g2.trans (f2.trans h1), by rw [g5, f5]; exact Nat.le_trans (Nat.sub_le _ _) (Nat.sub_le _ _), by rw [g6, f6]; exact sB_tr (sB_l _ _) (sB_l _ _), fun i h => ?_, Or.inr ⟨?_, ?_⟩, Or.inr (Or.inr (Or.inr (sub_bk _ _)))⟩
    · rw [g6, e3] at h
      rw [hf]
      rcases bit_or h with q | q
      · rw [f6] at q
        rcases bit_or q with q | q
        · exact Or.inl q
        · exact Or.inr (hcs i q)
      · exact Or.inr q
    · rw [hf]
      have h9 := hr.1
      rw [e3] at h9
      exact andN_mono hf3.2 (by rw [f6]; exact sB_l _ _) h9
    · rw [hf, g6, e3]; exact sB_r _ _
  · have et : tcT sg t k = cpT sg t k := if_neg hr
    rw [et]
    refine ⟨f2.trans h1, by rw [f5]; exact Nat.sub_le _ _, by rw [f6]; exact sB_l _ _, fun i h => ?_, Or.inl f8, Or.inr (Or.inr (Or.inr (sub_bk _ _)))⟩
    rw [f6] at h
    rw [hf]
    rcases bit_or h with q | q
    · exact Or.inl q
    · exact Or.inr (hcs i q)
theorem cOK_tcT {sg : Nat → Nat} {t k : Nat} (hM : mOK sg) (hC : cOK sg) (hs : sN sg = some t) (hk : k < sg (11 + 76 * sg 0 + 15 * t + 5)) : cOK (tcT sg t k) := by
  have ht := (sN_some hM hs).2
  have h5 := hM.2.1 _ hM.1.1
  have hc3 := (hM.2.2 _ t hM.1.1 ht).2.2.2.2.1
  have h1 := cOK_cpT (t := t) (k := k) hM hC (by omega) (by omega)
  by_cases hr : canR (cpT sg t k) t
  · rw [show tcT sg t k = rdT (cpT sg t k) t from if_pos hr]
    exact cOK_rdT (mOK_cpT hM ht hk) h1 (by omega)
  · rw [show tcT sg t k = cpT sg t k from if_neg hr]
    exact h1
/-- an act, in one form: refused, with nothing changed, or done -/
def dQ (kd : Int32) (sg : Nat → Nat) (a0 t0 nx st : Nat) (hq : Nat → Nat) (r : Int32) (u : (Nat → Nat) × (Nat → Nat) × (Nat → Nat) × Nat × Nat × Nat × Nat × (Nat → Nat)) : Prop :=
  ¬ r < (-5 : Int32) ∧ ((∃ gU zU cU : Nat → Nat, u = (gU, zU, cU, a0, t0, nx, st, hq) ∧ dV kd r sg sg) ∨ (∃ g2 z2 c2 : Nat → Nat, mOK g2 ∧ sRel z2 c2 g2 ∧ cOK g2 ∧ dV kd r sg g2 ∧ u = (g2, z2, c2, t0, hq (nx &&& 3), nx + 1, min (st + 1) 4, arU hq (nx &&& 3) a0)))
theorem lo_addT {sg : Nat → Nat} {e w s z f : Nat} (hM : mOK sg) (he : e < 8) (hn : sg (10 + 76 * e) < 5) : ∀ j, j < 10 → addT sg e w s z f j = sg j := fun j hj => addT_o (by omega) (by omega)
theorem lo_addC {sg : Nat → Nat} {e t w f : Nat} : ∀ j, j < 10 → addC sg e t w f j = sg j := fun j hj => addC_o (by omega) (by omega)
theorem lo_setF {sg : Nat → Nat} {e t f : Nat} : ∀ j, j < 10 → arU sg (11 + 76 * e + 15 * t + 3) f j = sg j := fun j hj => arU_n (by omega)
theorem dq_addText {kd : Int32} {sg : Nat → Nat} {a0 t0 nx st : Nat} {hq : Nat → Nat} {x aw as az af r : Int32} {u : (Nat → Nat) × (Nat → Nat) × (Nat → Nat) × Nat × Nat × Nat × Nat × (Nat → Nat)} (hM : mOK sg) (hC : cOK sg) (hk : kd < nI 7 ∨ nI 10 < kd) (h : (∃ (gU : Nat → Nat) (zU : Nat → Nat) (cU : Nat → Nat), ¬ pE x ∧ r = (-1) ∧ u = (gU, zU, cU, a0, t0, nx, st, hq)) ∨ (∃ (eX : Nat) (gU : Nat → Nat) (zU : Nat → Nat) (cU : Nat → Nat), eX < 8 ∧ x = nI eX ∧ ¬ pTx aw as az af ∧ r = (-2) ∧ u = (gU, zU, cU, a0, t0, nx, st, hq)) ∨ (∃ (eX : Nat) (wX : Nat) (sX : Nat) (zX : Nat) (fX : Nat) (gU : Nat → Nat) (zU : Nat → Nat) (cU : Nat → Nat), eX < 8 ∧ x = nI eX ∧ 1 ≤ wX ∧ wX ≤ 300 ∧ 1 ≤ sX ∧ sX ≤ 50 ∧ sX ≤ wX ∧ zX ≤ wX ∧ 1 ≤ fX ∧ fX ≤ 65535 ∧ aw = nI wX ∧ as = nI sX ∧ az = nI zX ∧ af = nI fX ∧ sg (10 + 76 * eX) = 5 ∧ r = (-3) ∧ u = (gU, zU, cU, a0, t0, nx, st, hq)) ∨ (∃ (eX : Nat) (wX : Nat) (sX : Nat) (zX : Nat) (fX : Nat) (zZ : Nat → Nat) (cC : Nat → Nat), eX < 8 ∧ x = nI eX ∧ 1 ≤ wX ∧ wX ≤ 300 ∧ 1 ≤ sX ∧ sX ≤ 50 ∧ sX ≤ wX ∧ zX ≤ wX ∧ 1 ≤ fX ∧ fX ≤ 65535 ∧ aw = nI wX ∧ as = nI sX ∧ az = nI zX ∧ af = nI fX ∧ sg (10 + 76 * eX) < 5 ∧ sRel zZ cC (addT sg eX wX sX zX fX) ∧ mOK (addT sg eX wX sX zX fX) ∧ r = nI (sg (10 + 76 * eX)) ∧ u = (addT sg eX wX sX zX fX, zZ, cC, t0, hq (nx &&& 3), nx + 1, min (st + 1) 4, arU hq (nx &&& 3) a0))) : dQ kd sg a0 t0 nx st hq r u := by
  rcases h with ⟨gU, zU, cU, h0, rfl, rfl⟩ | ⟨eX, gU, zU, cU, h0, h1, h2, rfl, rfl⟩ | ⟨eX, wX, sX, zX, fX, gU, zU, cU, h0, h1, h2, h3, h4, h5, h6, h7, h8, h9, h10, h11, h12, h13, h14, rfl, rfl⟩ | ⟨eX, wX, sX, zX, fX, zZ, cC, h0, h1, h2, h3, h4, h5, h6, h7, h8, h9, h10, h11, h12, h13, h14, h15, h16, rfl, rfl⟩
  · exact ⟨by decide, Or.inl ⟨_, _, _, rfl, dV_no (by decide)⟩⟩
  · exact ⟨by decide, Or.inl ⟨_, _, _, rfl, dV_no (by decide)⟩⟩
  · exact ⟨by decide, Or.inl ⟨_, _, _, rfl, dV_no (by decide)⟩⟩
  · exact ⟨nI_ge5 (by omega), Or.inr ⟨_, _, _, h16, h15, cOK_addT hM hC h0 h14, dV_same (lo_addT hM h0 h14 2 (by omega)) (Nat.le_of_eq (lo_addT hM h0 h14 5 (by omega))) (lo_addT hM h0 h14 6 (by omega)) (lo_addT hM h0 h14 8 (by omega)) (hk.elim Or.inl (fun q => Or.inr (Or.inl q))), rfl⟩⟩
theorem dq_removeText {kd : Int32} {sg : Nat → Nat} {a0 t0 nx st : Nat} {hq : Nat → Nat} {x y r : Int32} {u : (Nat → Nat) × (Nat → Nat) × (Nat → Nat) × Nat × Nat × Nat × Nat × (Nat → Nat)} (hM : mOK sg) (hC : cOK sg) (hk : kd < nI 7 ∨ nI 10 < kd) (h : (∃ (gU : Nat → Nat) (zU : Nat → Nat) (cU : Nat → Nat), ¬ pTn (szF sg) x y ∧ r = (-1) ∧ u = (gU, zU, cU, a0, t0, nx, st, hq)) ∨ (∃ (eX : Nat) (tX : Nat) (zZ : Nat → Nat) (cC : Nat → Nat), eX < 8 ∧ tX < sg (10 + 76 * eX) ∧ x = nI eX ∧ y = nI tX ∧ sRel zZ cC (rmT sg eX tX) ∧ mOK (rmT sg eX tX) ∧ r = nI (sg (10 + 76 * eX) - 1) ∧ u = (rmT sg eX tX, zZ, cC, t0, hq (nx &&& 3), nx + 1, min (st + 1) 4, arU hq (nx &&& 3) a0))) : dQ kd sg a0 t0 nx st hq r u := by
  rcases h with ⟨gU, zU, cU, h0, rfl, rfl⟩ | ⟨eX, tX, zZ, cC, h0, h1, h2, h3, h4, h5, rfl, rfl⟩
  · exact ⟨by decide, Or.inl ⟨_, _, _, rfl, dV_no (by decide)⟩⟩
  · exact ⟨nI_ge5 (by have := hM.2.1 eX h0; omega), Or.inr ⟨_, _, _, h5, h4, cOK_rmT hM hC h0 h1, dV_same (rmT_lo10 2 (by omega)) (Nat.le_of_eq (rmT_lo10 5 (by omega))) (rmT_lo10 6 (by omega)) (rmT_lo10 8 (by omega)) (hk.elim Or.inl (fun q => Or.inr (Or.inl q))), rfl⟩⟩
theorem dq_setFacts {kd : Int32} {sg : Nat → Nat} {a0 t0 nx st : Nat} {hq : Nat → Nat} {x y af r : Int32} {u : (Nat → Nat) × (Nat → Nat) × (Nat → Nat) × Nat × Nat × Nat × Nat × (Nat → Nat)} (hM : mOK sg) (hC : cOK sg) (hk : kd < nI 7 ∨ nI 10 < kd) (h : (∃ (gU : Nat → Nat) (zU : Nat → Nat) (cU : Nat → Nat), ¬ pTn (szF sg) x y ∧ r = (-1) ∧ u = (gU, zU, cU, a0, t0, nx, st, hq)) ∨ (∃ (eX : Nat) (tX : Nat) (gU : Nat → Nat) (zU : Nat → Nat) (cU : Nat → Nat), eX < 8 ∧ tX < sg (10 + 76 * eX) ∧ x = nI eX ∧ y = nI tX ∧ (¬ ∃ n : Nat, 1 ≤ n ∧ n ≤ 65535 ∧ af = nI n) ∧ r = (-2) ∧ u = (gU, zU, cU, a0, t0, nx, st, hq)) ∨ (∃ (eX : Nat) (tX : Nat) (fX : Nat) (gU : Nat → Nat) (zU : Nat → Nat) (cU : Nat → Nat), eX < 8 ∧ tX < sg (10 + 76 * eX) ∧ x = nI eX ∧ y = nI tX ∧ 1 ≤ fX ∧ fX ≤ 65535 ∧ af = nI fX ∧ (∃ c : Nat, c < sg (11 + 76 * eX + 15 * tX + 5) ∧ ¬ andN (sg (11 + 76 * eX + 15 * tX + (6 + 3 * c + 1))) fX = 0) ∧ r = (-4) ∧ u = (gU, zU, cU, a0, t0, nx, st, hq)) ∨ (∃ (eX : Nat) (tX : Nat) (fX : Nat) (gU : Nat → Nat) (zU : Nat → Nat) (cU : Nat → Nat), eX < 8 ∧ tX < sg (10 + 76 * eX) ∧ x = nI eX ∧ y = nI tX ∧ 1 ≤ fX ∧ fX ≤ 65535 ∧ af = nI fX ∧ (∀ c : Nat, c < sg (11 + 76 * eX + 15 * tX + 5) → andN (sg (11 + 76 * eX + 15 * tX + (6 + 3 * c + 1))) fX = 0) ∧ sg (11 + 76 * eX + 15 * tX + 3) = fX ∧ r = (-5) ∧ u = (gU, zU, cU, a0, t0, nx, st, hq)) ∨ (∃ (eX : Nat) (tX : Nat) (fX : Nat) (zZ : Nat → Nat) (cC : Nat → Nat), eX < 8 ∧ tX < sg (10 + 76 * eX) ∧ x = nI eX ∧ y = nI tX ∧ 1 ≤ fX ∧ fX ≤ 65535 ∧ af = nI fX ∧ (∀ c : Nat, c < sg (11 + 76 * eX + 15 * tX + 5) → andN (sg (11 + 76 * eX + 15 * tX + (6 + 3 * c + 1))) fX = 0) ∧ sg (11 + 76 * eX + 15 * tX + 3) ≠ fX ∧ sRel zZ cC (arU sg (11 + 76 * eX + 15 * tX + 3) fX) ∧ mOK (arU sg (11 + 76 * eX + 15 * tX + 3) fX) ∧ r = nI (sg (11 + 76 * eX + 15 * tX + 3)) ∧ u = (arU sg (11 + 76 * eX + 15 * tX + 3) fX, zZ, cC, t0, hq (nx &&& 3), nx + 1, min (st + 1) 4, arU hq (nx &&& 3) a0))) : dQ kd sg a0 t0 nx st hq r u := by
  rcases h with ⟨gU, zU, cU, h0, rfl, rfl⟩ | ⟨eX, tX, gU, zU, cU, h0, h1, h2, h3, h4, rfl, rfl⟩ | ⟨eX, tX, fX, gU, zU, cU, h0, h1, h2, h3, h4, h5, h6, h7, rfl, rfl⟩ | ⟨eX, tX, fX, gU, zU, cU, h0, h1, h2, h3, h4, h5, h6, h7, h8, rfl, rfl⟩ | ⟨eX, tX, fX, zZ, cC, h0, h1, h2, h3, h4, h5, h6, h7, h8, h9, h10, rfl, rfl⟩
  · exact ⟨by decide, Or.inl ⟨_, _, _, rfl, dV_no (by decide)⟩⟩
  · exact ⟨by decide, Or.inl ⟨_, _, _, rfl, dV_no (by decide)⟩⟩
  · exact ⟨by decide, Or.inl ⟨_, _, _, rfl, dV_no (by decide)⟩⟩
  · exact ⟨by decide, Or.inl ⟨_, _, _, rfl, dV_no (by decide)⟩⟩
  · exact ⟨nI_ge5 (by have := (hM.2.2 eX tX h0 h1).2.2.2.1.2; omega), Or.inr ⟨_, _, _, h10, h9, cOK_setF hM hC h0 h1 h7, dV_same (lo_setF 2 (by omega)) (Nat.le_of_eq (lo_setF 5 (by omega))) (lo_setF 6 (by omega)) (lo_setF 8 (by omega)) (hk.elim Or.inl (fun q => Or.inr (Or.inl q))), rfl⟩⟩
theorem dq_addCaption {kd : Int32} {sg : Nat → Nat} {a0 t0 nx st : Nat} {hq : Nat → Nat} {x y aw af r : Int32} {u : (Nat → Nat) × (Nat → Nat) × (Nat → Nat) × Nat × Nat × Nat × Nat × (Nat → Nat)} (hM : mOK sg) (hC : cOK sg) (hk : kd < nI 7 ∨ nI 10 < kd) (h : (∃ (gU : Nat → Nat) (zU : Nat → Nat) (cU : Nat → Nat), ¬ pTn (szF sg) x y ∧ r = (-1) ∧ u = (gU, zU, cU, a0, t0, nx, st, hq)) ∨ (∃ (eX : Nat) (tX : Nat) (gU : Nat → Nat) (zU : Nat → Nat) (cU : Nat → Nat), eX < 8 ∧ tX < sg (10 + 76 * eX) ∧ x = nI eX ∧ y = nI tX ∧ ¬ pCx aw af ∧ r = (-2) ∧ u = (gU, zU, cU, a0, t0, nx, st, hq)) ∨ (∃ (eX : Nat) (tX : Nat) (wX : Nat) (fX : Nat) (gU : Nat → Nat) (zU : Nat → Nat) (cU : Nat → Nat), eX < 8 ∧ tX < sg (10 + 76 * eX) ∧ x = nI eX ∧ y = nI tX ∧ 1 ≤ wX ∧ wX ≤ 30 ∧ fX ≤ 65535 ∧ aw = nI wX ∧ af = nI fX ∧ ¬ andN fX (sg (11 + 76 * eX + 15 * tX + 3)) = 0 ∧ r = (-4) ∧ u = (gU, zU, cU, a0, t0, nx, st, hq)) ∨ (∃ (eX : Nat) (tX : Nat) (wX : Nat) (fX : Nat) (gU : Nat → Nat) (zU : Nat → Nat) (cU : Nat → Nat), eX < 8 ∧ tX < sg (10 + 76 * eX) ∧ x = nI eX ∧ y = nI tX ∧ 1 ≤ wX ∧ wX ≤ 30 ∧ fX ≤ 65535 ∧ aw = nI wX ∧ af = nI fX ∧ andN fX (sg (11 + 76 * eX + 15 * tX + 3)) = 0 ∧ sg (11 + 76 * eX + 15 * tX + 5) = 3 ∧ r = (-3) ∧ u = (gU, zU, cU, a0, t0, nx, st, hq)) ∨ (∃ (eX : Nat) (tX : Nat) (wX : Nat) (fX : Nat) (zZ : Nat → Nat) (cC : Nat → Nat), eX < 8 ∧ tX < sg (10 + 76 * eX) ∧ x = nI eX ∧ y = nI tX ∧ 1 ≤ wX ∧ wX ≤ 30 ∧ fX ≤ 65535 ∧ aw = nI wX ∧ af = nI fX ∧ andN fX (sg (11 + 76 * eX + 15 * tX + 3)) = 0 ∧ sg (11 + 76 * eX + 15 * tX + 5) < 3 ∧ sRel zZ cC (addC sg eX tX wX fX) ∧ mOK (addC sg eX tX wX fX) ∧ r = nI (sg (11 + 76 * eX + 15 * tX + 5)) ∧ u = (addC sg eX tX wX fX, zZ, cC, t0, hq (nx &&& 3), nx + 1, min (st + 1) 4, arU hq (nx &&& 3) a0))) : dQ kd sg a0 t0 nx st hq r u := by
  rcases h with ⟨gU, zU, cU, h0, rfl, rfl⟩ | ⟨eX, tX, gU, zU, cU, h0, h1, h2, h3, h4, rfl, rfl⟩ | ⟨eX, tX, wX, fX, gU, zU, cU, h0, h1, h2, h3, h4, h5, h6, h7, h8, h9, rfl, rfl⟩ | ⟨eX, tX, wX, fX, gU, zU, cU, h0, h1, h2, h3, h4, h5, h6, h7, h8, h9, h10, rfl, rfl⟩ | ⟨eX, tX, wX, fX, zZ, cC, h0, h1, h2, h3, h4, h5, h6, h7, h8, h9, h10, h11, h12, rfl, rfl⟩
  · exact ⟨by decide, Or.inl ⟨_, _, _, rfl, dV_no (by decide)⟩⟩
  · exact ⟨by decide, Or.inl ⟨_, _, _, rfl, dV_no (by decide)⟩⟩
  · exact ⟨by decide, Or.inl ⟨_, _, _, rfl, dV_no (by decide)⟩⟩
  · exact ⟨by decide, Or.inl ⟨_, _, _, rfl, dV_no (by decide)⟩⟩
  · exact ⟨nI_ge5 (by omega), Or.inr ⟨_, _, _, h12, h11, cOK_addC hM hC h0 h1 h10 h9, dV_same (lo_addC 2 (by omega)) (Nat.le_of_eq (lo_addC 5 (by omega))) (lo_addC 6 (by omega)) (lo_addC 8 (by omega)) (hk.elim Or.inl (fun q => Or.inr (Or.inl q))), rfl⟩⟩
theorem dq_enter {kd : Int32} {sg : Nat → Nat} {a0 t0 nx st : Nat} {hq : Nat → Nat} {x y z r : Int32} {u : (Nat → Nat) × (Nat → Nat) × (Nat → Nat) × Nat × Nat × Nat × Nat × (Nat → Nat)} (hM : mOK sg) (hC : cOK sg) (hk : kd = nI 6) (h : (∃ (gU : Nat → Nat) (zU : Nat → Nat) (cU : Nat → Nat), ¬ pVi x y z ∧ r = (-2) ∧ u = (gU, zU, cU, a0, t0, nx, st, hq)) ∨ (∃ (aX : Nat) (pX : Nat) (sX : Nat) (zZ : Nat → Nat) (cC : Nat → Nat), 4 ≤ aX ∧ aX ≤ 99 ∧ 30 ≤ pX ∧ pX ≤ 400 ∧ 1 ≤ sX ∧ sX ≤ 9999 ∧ x = nI aX ∧ y = nI pX ∧ z = nI sX ∧ sN (enT sg aX pX sX) = none ∧ sRel zZ cC (enT sg aX pX sX) ∧ mOK (enT sg aX pX sX) ∧ r = nI 9 ∧ u = (enT sg aX pX sX, zZ, cC, t0, hq (nx &&& 3), nx + 1, min (st + 1) 4, arU hq (nx &&& 3) a0)) ∨ (∃ (aX : Nat) (pX : Nat) (sX : Nat) (tX : Nat) (zZ : Nat → Nat) (cC : Nat → Nat), 4 ≤ aX ∧ aX ≤ 99 ∧ 30 ≤ pX ∧ pX ≤ 400 ∧ 1 ≤ sX ∧ sX ≤ 9999 ∧ x = nI aX ∧ y = nI pX ∧ z = nI sX ∧ sN (enT sg aX pX sX) = some tX ∧ sRel zZ cC (enT sg aX pX sX) ∧ mOK (enT sg aX pX sX) ∧ r = nI tX ∧ u = (enT sg aX pX sX, zZ, cC, t0, hq (nx &&& 3), nx + 1, min (st + 1) 4, arU hq (nx &&& 3) a0))) : dQ kd sg a0 t0 nx st hq r u := by
  rcases h with ⟨gU, zU, cU, h0, rfl, rfl⟩ | ⟨aX, pX, sX, zZ, cC, h0, h1, h2, h3, h4, h5, h6, h7, h8, h9, h10, h11, rfl, rfl⟩ | ⟨aX, pX, sX, tX, zZ, cC, h0, h1, h2, h3, h4, h5, h6, h7, h8, h9, h10, h11, rfl, rfl⟩
  · exact ⟨by decide, Or.inl ⟨_, _, _, rfl, dV_no (by decide)⟩⟩
  · exact ⟨nI_ge5 (by decide), Or.inr ⟨_, _, _, h11, h10, cOK_enT hM hC, (fun _ q => absurd hk q), rfl⟩⟩
  · exact ⟨nI_ge5 (by have q1 := (sN_some h11 h9).2; have q2 := h11.2.1 _ h11.1.1; omega), Or.inr ⟨_, _, _, h11, h10, cOK_enT hM hC, (fun _ q => absurd hk q), rfl⟩⟩
theorem dq_touch {kd : Int32} {sg : Nat → Nat} {a0 t0 nx st : Nat} {hq : Nat → Nat} {y r : Int32} {u : (Nat → Nat) × (Nat → Nat) × (Nat → Nat) × Nat × Nat × Nat × Nat × (Nat → Nat)} (hM : mOK sg) (hC : cOK sg) (h : (∃ (gU : Nat → Nat) (zU : Nat → Nat) (cU : Nat → Nat), sN sg = none ∧ r = (-4) ∧ u = (gU, zU, cU, a0, t0, nx, st, hq)) ∨ (∃ (tX : Nat) (gU : Nat → Nat) (zU : Nat → Nat) (cU : Nat → Nat), sN sg = some tX ∧ (¬ ∃ k : Nat, k < sg (11 + 76 * sg 0 + 15 * tX + 5) ∧ y = nI k) ∧ r = (-1) ∧ u = (gU, zU, cU, a0, t0, nx, st, hq)) ∨ (∃ (tX : Nat) (kX : Nat) (gU : Nat → Nat) (zU : Nat → Nat) (cU : Nat → Nat), sN sg = some tX ∧ kX < sg (11 + 76 * sg 0 + 15 * tX + 5) ∧ y = nI kX ∧ sg 5 < secs (sg (11 + 76 * sg 0 + 15 * tX + (6 + 3 * kX + 0))) (sg 4) ∧ r = (-5) ∧ u = (gU, zU, cU, a0, t0, nx, st, hq)) ∨ (∃ (tX : Nat) (kX : Nat) (zZ : Nat → Nat) (cC : Nat → Nat), sN sg = some tX ∧ kX < sg (11 + 76 * sg 0 + 15 * tX + 5) ∧ y = nI kX ∧ secs (sg (11 + 76 * sg 0 + 15 * tX + (6 + 3 * kX + 0))) (sg 4) ≤ sg 5 ∧ sRel zZ cC (tcT sg tX kX) ∧ mOK (tcT sg tX kX) ∧ r = nI (bitsN (tcT sg tX kX 6) 16) - nI (bitsN (sg 6) 16) ∧ u = (tcT sg tX kX, zZ, cC, t0, hq (nx &&& 3), nx + 1, min (st + 1) 4, arU hq (nx &&& 3) a0))) : dQ kd sg a0 t0 nx st hq r u := by
  rcases h with ⟨gU, zU, cU, h0, rfl, rfl⟩ | ⟨tX, gU, zU, cU, h0, h1, rfl, rfl⟩ | ⟨tX, kX, gU, zU, cU, h0, h1, h2, h3, rfl, rfl⟩ | ⟨tX, kX, zZ, cC, h0, h1, h2, h3, h4, h5, rfl, rfl⟩
  · exact ⟨by decide, Or.inl ⟨_, _, _, rfl, dV_no (by decide)⟩⟩
  · exact ⟨by decide, Or.inl ⟨_, _, _, rfl, dV_no (by decide)⟩⟩
  · exact ⟨by decide, Or.inl ⟨_, _, _, rfl, dV_no (by decide)⟩⟩
  · exact ⟨sub_ge5 (bits_sup sup_tcT) (bitsN_le _ 16), Or.inr ⟨_, _, _, h5, h4, cOK_tcT hM hC h0 h1, dV_cpT hM hC h0 h1, rfl⟩⟩
theorem dq_read {kd : Int32} {sg : Nat → Nat} {a0 t0 nx st : Nat} {hq : Nat → Nat} { r : Int32} {u : (Nat → Nat) × (Nat → Nat) × (Nat → Nat) × Nat × Nat × Nat × Nat × (Nat → Nat)} (hM : mOK sg) (hC : cOK sg) (h : (∃ (gU : Nat → Nat) (zU : Nat → Nat) (cU : Nat → Nat), sN sg = none ∧ r = (-4) ∧ u = (gU, zU, cU, a0, t0, nx, st, hq)) ∨ (∃ (tX : Nat) (gU : Nat → Nat) (zU : Nat → Nat) (cU : Nat → Nat), sN sg = some tX ∧ 0 < sg (11 + 76 * sg 0 + 15 * tX + 5) ∧ r = (-4) ∧ u = (gU, zU, cU, a0, t0, nx, st, hq)) ∨ (∃ (tX : Nat) (gU : Nat → Nat) (zU : Nat → Nat) (cU : Nat → Nat), sN sg = some tX ∧ sg (11 + 76 * sg 0 + 15 * tX + 5) = 0 ∧ ¬ canR sg tX ∧ r = (-5) ∧ u = (gU, zU, cU, a0, t0, nx, st, hq)) ∨ (∃ (tX : Nat) (zZ : Nat → Nat) (cC : Nat → Nat), sN sg = some tX ∧ sg (11 + 76 * sg 0 + 15 * tX + 5) = 0 ∧ canR sg tX ∧ sRel zZ cC (rdT sg tX) ∧ mOK (rdT sg tX) ∧ r = nI (bitsN (rdT sg tX 6) 16) - nI (bitsN (sg 6) 16) ∧ u = (rdT sg tX, zZ, cC, t0, hq (nx &&& 3), nx + 1, min (st + 1) 4, arU hq (nx &&& 3) a0))) : dQ kd sg a0 t0 nx st hq r u := by
  rcases h with ⟨gU, zU, cU, h0, rfl, rfl⟩ | ⟨tX, gU, zU, cU, h0, h1, rfl, rfl⟩ | ⟨tX, gU, zU, cU, h0, h1, h2, rfl, rfl⟩ | ⟨tX, zZ, cC, h0, h1, h2, h3, h4, rfl, rfl⟩
  · exact ⟨by decide, Or.inl ⟨_, _, _, rfl, dV_no (by decide)⟩⟩
  · exact ⟨by decide, Or.inl ⟨_, _, _, rfl, dV_no (by decide)⟩⟩
  · exact ⟨by decide, Or.inl ⟨_, _, _, rfl, dV_no (by decide)⟩⟩
  · exact ⟨sub_ge5 (bits_sup sup_rdT) (bitsN_le _ 16), Or.inr ⟨_, _, _, h4, h3, cOK_rdT hM hC (by have q1 := (sN_some hM h0).2; have q2 := hM.2.1 _ hM.1.1; omega), dV_rdT hM h0 h2, rfl⟩⟩
theorem dq_setTurning {kd : Int32} {sg : Nat → Nat} {a0 t0 nx st : Nat} {hq : Nat → Nat} {x r : Int32} {u : (Nat → Nat) × (Nat → Nat) × (Nat → Nat) × Nat × Nat × Nat × Nat × (Nat → Nat)} (hM : mOK sg) (hC : cOK sg) (hk : kd < nI 7 ∨ nI 10 < kd) (h : (∃ (gU : Nat → Nat) (zU : Nat → Nat) (cU : Nat → Nat), (¬ ∃ n : Nat, 0 ≤ n ∧ n ≤ 60 ∧ x = nI n) ∧ r = (-2) ∧ u = (gU, zU, cU, a0, t0, nx, st, hq)) ∨ (∃ (nX : Nat) (gU : Nat → Nat) (zU : Nat → Nat) (cU : Nat → Nat), nX ≤ 60 ∧ x = nI nX ∧ sg 1 = nX ∧ r = (-5) ∧ u = (gU, zU, cU, a0, t0, nx, st, hq)) ∨ (∃ (nX : Nat) (zZ : Nat → Nat) (cC : Nat → Nat), nX ≤ 60 ∧ x = nI nX ∧ sg 1 ≠ nX ∧ sRel zZ cC (arU sg 1 nX) ∧ mOK (arU sg 1 nX) ∧ r = nI (sg 1) ∧ u = (arU sg 1 nX, zZ, cC, t0, hq (nx &&& 3), nx + 1, min (st + 1) 4, arU hq (nx &&& 3) a0))) : dQ kd sg a0 t0 nx st hq r u := by
  rcases h with ⟨gU, zU, cU, h0, rfl, rfl⟩ | ⟨nX, gU, zU, cU, h0, h1, h2, rfl, rfl⟩ | ⟨nX, zZ, cC, h0, h1, h2, h3, h4, rfl, rfl⟩
  · exact ⟨by decide, Or.inl ⟨_, _, _, rfl, dV_no (by decide)⟩⟩
  · exact ⟨by decide, Or.inl ⟨_, _, _, rfl, dV_no (by decide)⟩⟩
  · exact ⟨nI_ge5 (by have := hM.1.2.1; omega), Or.inr ⟨_, _, _, h4, h3, cOK_sTu hM hC, dV_same rfl (Nat.le_refl _) rfl rfl (hk.elim Or.inl (fun q => Or.inr (Or.inl q))), rfl⟩⟩
theorem dq_turn1 {kd : Int32} {sg : Nat → Nat} {a0 t0 nx st : Nat} {hq : Nat → Nat} { r : Int32} {u : (Nat → Nat) × (Nat → Nat) × (Nat → Nat) × Nat × Nat × Nat × Nat × (Nat → Nat)} (hM : mOK sg) (hC : cOK sg) (hk : kd < nI 7 ∨ nI 10 < kd) (h : ∃ (zZ : Nat → Nat) (cC : Nat → Nat), sRel zZ cC (tuT sg 1) ∧ mOK (tuT sg 1) ∧ r = nI ((sg 0 + 1) % 8) ∧ u = (tuT sg 1, zZ, cC, t0, hq (nx &&& 3), nx + 1, min (st + 1) 4, arU hq (nx &&& 3) a0)) : dQ kd sg a0 t0 nx st hq r u := by
  obtain ⟨zZ, cC, h0, h1, rfl, rfl⟩ := h
  exact ⟨nI_ge5 (by omega), Or.inr ⟨_, _, _, h1, h0, cOK_tuT hM hC, dV_same rfl (Nat.sub_le _ _) rfl rfl (hk.elim Or.inl (fun q => Or.inr (Or.inl q))), rfl⟩⟩
theorem dq_turn0 {kd : Int32} {sg : Nat → Nat} {a0 t0 nx st : Nat} {hq : Nat → Nat} { r : Int32} {u : (Nat → Nat) × (Nat → Nat) × (Nat → Nat) × Nat × Nat × Nat × Nat × (Nat → Nat)} (hM : mOK sg) (hC : cOK sg) (hk : kd < nI 7 ∨ nI 10 < kd) (h : ∃ (zZ : Nat → Nat) (cC : Nat → Nat), sRel zZ cC (tuT sg 7) ∧ mOK (tuT sg 7) ∧ r = nI ((sg 0 + 7) % 8) ∧ u = (tuT sg 7, zZ, cC, t0, hq (nx &&& 3), nx + 1, min (st + 1) 4, arU hq (nx &&& 3) a0)) : dQ kd sg a0 t0 nx st hq r u := by
  obtain ⟨zZ, cC, h0, h1, rfl, rfl⟩ := h
  exact ⟨nI_ge5 (by omega), Or.inr ⟨_, _, _, h1, h0, cOK_tuT hM hC, dV_same rfl (Nat.sub_le _ _) rfl rfl (hk.elim Or.inl (fun q => Or.inr (Or.inl q))), rfl⟩⟩
