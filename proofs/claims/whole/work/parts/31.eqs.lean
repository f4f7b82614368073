/-! both sides of an act answer alike -/
/-- an act is refused by both, or done by both -/
def aR (a0 t0 nx st : Nat) (hq sg be : Nat → Nat) (u : (Nat → Nat) × (Nat → Nat) × (Nat → Nat) × Nat × Nat × Nat × Nat × (Nat → Nat)) (w : Nat × (Nat → Nat) × (Nat → Nat)) : Prop := (∃ gU zU cU : Nat → Nat, u = (gU, zU, cU, a0, t0, nx, st, hq) ∧ w = (st, sg, be)) ∨ ∃ g zZ cC : Nat → Nat, mOK g ∧ sRel zZ cC g ∧ u = (g, zZ, cC, t0, hq (nx &&& 3), nx + 1, min (st + 1) 4, arU hq (nx &&& 3) a0) ∧ w = (knK st, g, knB st be sg)
theorem eq_addText {a0 t0 nx st : Nat} {hq sg be : Nat → Nat} {x aw as az af : Int32} {r1 r2 : Int32} {u : (Nat → Nat) × (Nat → Nat) × (Nat → Nat) × Nat × Nat × Nat × Nat × (Nat → Nat)} {w : Nat × (Nat → Nat) × (Nat → Nat)} (hM : mOK sg) (h1 : (∃ (gU : Nat → Nat) (zU : Nat → Nat) (cU : Nat → Nat), ¬ pE x ∧ r1 = (-1) ∧ u = (gU, zU, cU, a0, t0, nx, st, hq)) ∨ (∃ (eX : Nat) (gU : Nat → Nat) (zU : Nat → Nat) (cU : Nat → Nat), eX < 8 ∧ x = nI eX ∧ ¬ pTx aw as az af ∧ r1 = (-2) ∧ u = (gU, zU, cU, a0, t0, nx, st, hq)) ∨ (∃ (eX : Nat) (wX : Nat) (sX : Nat) (zX : Nat) (fX : Nat) (gU : Nat → Nat) (zU : Nat → Nat) (cU : Nat → Nat), eX < 8 ∧ x = nI eX ∧ 1 ≤ wX ∧ wX ≤ 300 ∧ 1 ≤ sX ∧ sX ≤ 50 ∧ sX ≤ wX ∧ zX ≤ wX ∧ 1 ≤ fX ∧ fX ≤ 65535 ∧ aw = nI wX ∧ as = nI sX ∧ az = nI zX ∧ af = nI fX ∧ sg (10 + 76 * eX) = 5 ∧ r1 = (-3) ∧ u = (gU, zU, cU, a0, t0, nx, st, hq)) ∨ (∃ (eX : Nat) (wX : Nat) (sX : Nat) (zX : Nat) (fX : Nat) (zZ : Nat → Nat) (cC : Nat → Nat), eX < 8 ∧ x = nI eX ∧ 1 ≤ wX ∧ wX ≤ 300 ∧ 1 ≤ sX ∧ sX ≤ 50 ∧ sX ≤ wX ∧ zX ≤ wX ∧ 1 ≤ fX ∧ fX ≤ 65535 ∧ aw = nI wX ∧ as = nI sX ∧ az = nI zX ∧ af = nI fX ∧ sg (10 + 76 * eX) < 5 ∧ sRel zZ cC (addT sg eX wX sX zX fX) ∧ mOK (addT sg eX wX sX zX fX) ∧ r1 = nI (sg (10 + 76 * eX)) ∧ u = (addT sg eX wX sX zX fX, zZ, cC, t0, hq (nx &&& 3), nx + 1, min (st + 1) 4, arU hq (nx &&& 3) a0))) (h2 : (¬ pE x ∧ r2 = (-1) ∧ w = (st, sg, be)) ∨ (∃ (eX : Nat), eX < 8 ∧ x = nI eX ∧ ¬ pTx aw as az af ∧ r2 = (-2) ∧ w = (st, sg, be)) ∨ (∃ (eX : Nat) (wX : Nat) (sX : Nat) (zX : Nat) (fX : Nat), eX < 8 ∧ x = nI eX ∧ 1 ≤ wX ∧ wX ≤ 300 ∧ 1 ≤ sX ∧ sX ≤ 50 ∧ sX ≤ wX ∧ zX ≤ wX ∧ 1 ≤ fX ∧ fX ≤ 65535 ∧ aw = nI wX ∧ as = nI sX ∧ az = nI zX ∧ af = nI fX ∧ sg (10 + 76 * eX) = 5 ∧ r2 = (-3) ∧ w = (st, sg, be)) ∨ (∃ (eX : Nat) (wX : Nat) (sX : Nat) (zX : Nat) (fX : Nat), eX < 8 ∧ x = nI eX ∧ 1 ≤ wX ∧ wX ≤ 300 ∧ 1 ≤ sX ∧ sX ≤ 50 ∧ sX ≤ wX ∧ zX ≤ wX ∧ 1 ≤ fX ∧ fX ≤ 65535 ∧ aw = nI wX ∧ as = nI sX ∧ az = nI zX ∧ af = nI fX ∧ sg (10 + 76 * eX) < 5 ∧ r2 = nI (sg (10 + 76 * eX)) ∧ w = (knK st, addT sg eX wX sX zX fX, knB st be sg))) : r1 = r2 ∧ aR a0 t0 nx st hq sg be u w := by
  rcases h1 with ⟨gUp, zUp, cUp, hp0, rfl, rfl⟩ | ⟨eXp, gUp, zUp, cUp, hp0, hp1, hp2, rfl, rfl⟩ | ⟨eXp, wXp, sXp, zXp, fXp, gUp, zUp, cUp, hp0, hp1, hp2, hp3, hp4, hp5, hp6, hp7, hp8, hp9, hp10, hp11, hp12, hp13, hp14, rfl, rfl⟩ | ⟨eXp, wXp, sXp, zXp, fXp, zZp, cCp, hp0, hp1, hp2, hp3, hp4, hp5, hp6, hp7, hp8, hp9, hp10, hp11, hp12, hp13, hp14, hp15, hp16, rfl, rfl⟩
  · rcases h2 with ⟨hq0, rfl, rfl⟩ | ⟨eXq, hq0, hq1, hq2, rfl, rfl⟩ | ⟨eXq, wXq, sXq, zXq, fXq, hq0, hq1, hq2, hq3, hq4, hq5, hq6, hq7, hq8, hq9, hq10, hq11, hq12, hq13, hq14, rfl, rfl⟩ | ⟨eXq, wXq, sXq, zXq, fXq, hq0, hq1, hq2, hq3, hq4, hq5, hq6, hq7, hq8, hq9, hq10, hq11, hq12, hq13, hq14, rfl, rfl⟩
    · exact ⟨rfl, Or.inl ⟨_, _, _, rfl, rfl⟩⟩
    · have mqe := hM.2.1 _ hq0
      exact absurd ⟨_, hq0, hq1⟩ hp0
    · have mqe := hM.2.1 _ hq0
      exact absurd ⟨_, hq0, hq1⟩ hp0
    · have mqe := hM.2.1 _ hq0
      exact absurd ⟨_, hq0, hq1⟩ hp0
  · rcases h2 with ⟨hq0, rfl, rfl⟩ | ⟨eXq, hq0, hq1, hq2, rfl, rfl⟩ | ⟨eXq, wXq, sXq, zXq, fXq, hq0, hq1, hq2, hq3, hq4, hq5, hq6, hq7, hq8, hq9, hq10, hq11, hq12, hq13, hq14, rfl, rfl⟩ | ⟨eXq, wXq, sXq, zXq, fXq, hq0, hq1, hq2, hq3, hq4, hq5, hq6, hq7, hq8, hq9, hq10, hq11, hq12, hq13, hq14, rfl, rfl⟩
    · have mpe := hM.2.1 _ hp0
      exact absurd ⟨_, hp0, hp1⟩ hq0
    · have mpe := hM.2.1 _ hp0
      have mqe := hM.2.1 _ hq0
      have zx := nI_inj (by omega) (by omega) (hp1.symm.trans hq1)
      subst zx
      exact ⟨rfl, Or.inl ⟨_, _, _, rfl, rfl⟩⟩
    · have mpe := hM.2.1 _ hp0
      have mqe := hM.2.1 _ hq0
      have zx := nI_inj (by omega) (by omega) (hp1.symm.trans hq1)
      subst zx
      exact absurd ⟨_, _, _, _, ⟨hq2, hq3⟩, ⟨hq4, hq5, hq6⟩, hq7, ⟨hq8, hq9⟩, hq10, hq11, hq12, hq13⟩ hp2
    · have mpe := hM.2.1 _ hp0
      have mqe := hM.2.1 _ hq0
      have zx := nI_inj (by omega) (by omega) (hp1.symm.trans hq1)
      subst zx
      exact absurd ⟨_, _, _, _, ⟨hq2, hq3⟩, ⟨hq4, hq5, hq6⟩, hq7, ⟨hq8, hq9⟩, hq10, hq11, hq12, hq13⟩ hp2
  · rcases h2 with ⟨hq0, rfl, rfl⟩ | ⟨eXq, hq0, hq1, hq2, rfl, rfl⟩ | ⟨eXq, wXq, sXq, zXq, fXq, hq0, hq1, hq2, hq3, hq4, hq5, hq6, hq7, hq8, hq9, hq10, hq11, hq12, hq13, hq14, rfl, rfl⟩ | ⟨eXq, wXq, sXq, zXq, fXq, hq0, hq1, hq2, hq3, hq4, hq5, hq6, hq7, hq8, hq9, hq10, hq11, hq12, hq13, hq14, rfl, rfl⟩
    · have mpe := hM.2.1 _ hp0
      exact absurd ⟨_, hp0, hp1⟩ hq0
    · have mpe := hM.2.1 _ hp0
      have mqe := hM.2.1 _ hq0
      have zx := nI_inj (by omega) (by omega) (hp1.symm.trans hq1)
      subst zx
      exact absurd ⟨_, _, _, _, ⟨hp2, hp3⟩, ⟨hp4, hp5, hp6⟩, hp7, ⟨hp8, hp9⟩, hp10, hp11, hp12, hp13⟩ hq2
    · have mpe := hM.2.1 _ hp0
      have mqe := hM.2.1 _ hq0
      have zx := nI_inj (by omega) (by omega) (hp1.symm.trans hq1)
      subst zx
      have zaw := nI_inj (by omega) (by omega) (hp10.symm.trans hq10)
      subst zaw
      have zas := nI_inj (by omega) (by omega) (hp11.symm.trans hq11)
      subst zas
      have zaz := nI_inj (by omega) (by omega) (hp12.symm.trans hq12)
      subst zaz
      have zaf := nI_inj (by omega) (by omega) (hp13.symm.trans hq13)
      subst zaf
      exact ⟨rfl, Or.inl ⟨_, _, _, rfl, rfl⟩⟩
    · have mpe := hM.2.1 _ hp0
      have mqe := hM.2.1 _ hq0
      have zx := nI_inj (by omega) (by omega) (hp1.symm.trans hq1)
      subst zx
      have zaw := nI_inj (by omega) (by omega) (hp10.symm.trans hq10)
      subst zaw
      have zas := nI_inj (by omega) (by omega) (hp11.symm.trans hq11)
      subst zas
      have zaz := nI_inj (by omega) (by omega) (hp12.symm.trans hq12)
      subst zaz
      have zaf := nI_inj (by omega) (by omega) (hp13.symm.trans hq13)
      subst zaf
      first | omega | contradiction | (simp_all; done)
  · rcases h2 with ⟨hq0, rfl, rfl⟩ | ⟨eXq, hq0, hq1, hq2, rfl, rfl⟩ | ⟨eXq, wXq, sXq, zXq, fXq, hq0, hq1, hq2, hq3, hq4, hq5, hq6, hq7, hq8, hq9, hq10, hq11, hq12, hq13, hq14, rfl, rfl⟩ | ⟨eXq, wXq, sXq, zXq, fXq, hq0, hq1, hq2, hq3, hq4, hq5, hq6, hq7, hq8, hq9, hq10, hq11, hq12, hq13, hq14, rfl, rfl⟩
    · have mpe := hM.2.1 _ hp0
      exact absurd ⟨_, hp0, hp1⟩ hq0
    · have mpe := hM.2.1 _ hp0
      have mqe := hM.2.1 _ hq0
      have zx := nI_inj (by omega) (by omega) (hp1.symm.trans hq1)
      subst zx
      exact absurd ⟨_, _, _, _, ⟨hp2, hp3⟩, ⟨hp4, hp5, hp6⟩, hp7, ⟨hp8, hp9⟩, hp10, hp11, hp12, hp13⟩ hq2
    · have mpe := hM.2.1 _ hp0
      have mqe := hM.2.1 _ hq0
      have zx := nI_inj (by omega) (by omega) (hp1.symm.trans hq1)
      subst zx
      have zaw := nI_inj (by omega) (by omega) (hp10.symm.trans hq10)
      subst zaw
      have zas := nI_inj (by omega) (by omega) (hp11.symm.trans hq11)
      subst zas
      have zaz := nI_inj (by omega) (by omega) (hp12.symm.trans hq12)
      subst zaz
      have zaf := nI_inj (by omega) (by omega) (hp13.symm.trans hq13)
      subst zaf
      first | omega | contradiction | (simp_all; done)
    · have mpe := hM.2.1 _ hp0
      have mqe := hM.2.1 _ hq0
      have zx := nI_inj (by omega) (by omega) (hp1.symm.trans hq1)
      subst zx
      have zaw := nI_inj (by omega) (by omega) (hp10.symm.trans hq10)
      subst zaw
      have zas := nI_inj (by omega) (by omega) (hp11.symm.trans hq11)
      subst zas
      have zaz := nI_inj (by omega) (by omega) (hp12.symm.trans hq12)
      subst zaz
      have zaf := nI_inj (by omega) (by omega) (hp13.symm.trans hq13)
      subst zaf
      exact ⟨rfl, Or.inr ⟨_, _, _, hp16, hp15, rfl, rfl⟩⟩
theorem eq_removeText {a0 t0 nx st : Nat} {hq sg be : Nat → Nat} {x y : Int32} {r1 r2 : Int32} {u : (Nat → Nat) × (Nat → Nat) × (Nat → Nat) × Nat × Nat × Nat × Nat × (Nat → Nat)} {w : Nat × (Nat → Nat) × (Nat → Nat)} (hM : mOK sg) (h1 : (∃ (gU : Nat → Nat) (zU : Nat → Nat) (cU : Nat → Nat), ¬ pTn (szF sg) x y ∧ r1 = (-1) ∧ u = (gU, zU, cU, a0, t0, nx, st, hq)) ∨ (∃ (eX : Nat) (tX : Nat) (zZ : Nat → Nat) (cC : Nat → Nat), eX < 8 ∧ tX < sg (10 + 76 * eX) ∧ x = nI eX ∧ y = nI tX ∧ sRel zZ cC (rmT sg eX tX) ∧ mOK (rmT sg eX tX) ∧ r1 = nI (sg (10 + 76 * eX) - 1) ∧ u = (rmT sg eX tX, zZ, cC, t0, hq (nx &&& 3), nx + 1, min (st + 1) 4, arU hq (nx &&& 3) a0))) (h2 : (¬ pTn (fun e => sg (10 + 76 * e)) x y ∧ r2 = (-1) ∧ w = (st, sg, be)) ∨ (∃ (eX : Nat) (tX : Nat), eX < 8 ∧ tX < sg (10 + 76 * eX) ∧ x = nI eX ∧ y = nI tX ∧ r2 = nI (sg (10 + 76 * eX) - 1) ∧ w = (knK st, rmT sg eX tX, knB st be sg))) : r1 = r2 ∧ aR a0 t0 nx st hq sg be u w := by
  rcases h1 with ⟨gUp, zUp, cUp, hp0, rfl, rfl⟩ | ⟨eXp, tXp, zZp, cCp, hp0, hp1, hp2, hp3, hp4, hp5, rfl, rfl⟩
  · rcases h2 with ⟨hq0, rfl, rfl⟩ | ⟨eXq, tXq, hq0, hq1, hq2, hq3, rfl, rfl⟩
    · exact ⟨rfl, Or.inl ⟨_, _, _, rfl, rfl⟩⟩
    · have mqe := hM.2.1 _ hq0
      have mqt := (hM.2.2 _ _ hq0 hq1).2.2.2.2.1
      exact absurd ⟨_, _, hq0, hq1, hq2, hq3⟩ hp0
  · rcases h2 with ⟨hq0, rfl, rfl⟩ | ⟨eXq, tXq, hq0, hq1, hq2, hq3, rfl, rfl⟩
    · have mpe := hM.2.1 _ hp0
      have mpt := (hM.2.2 _ _ hp0 hp1).2.2.2.2.1
      exact absurd ⟨_, _, hp0, hp1, hp2, hp3⟩ hq0
    · have mpe := hM.2.1 _ hp0
      have mpt := (hM.2.2 _ _ hp0 hp1).2.2.2.2.1
      have mqe := hM.2.1 _ hq0
      have mqt := (hM.2.2 _ _ hq0 hq1).2.2.2.2.1
      have zx := nI_inj (by omega) (by omega) (hp2.symm.trans hq2)
      subst zx
      have zy := nI_inj (by omega) (by omega) (hp3.symm.trans hq3)
      subst zy
      exact ⟨rfl, Or.inr ⟨_, _, _, hp5, hp4, rfl, rfl⟩⟩
theorem eq_setFacts {a0 t0 nx st : Nat} {hq sg be : Nat → Nat} {x y af : Int32} {r1 r2 : Int32} {u : (Nat → Nat) × (Nat → Nat) × (Nat → Nat) × Nat × Nat × Nat × Nat × (Nat → Nat)} {w : Nat × (Nat → Nat) × (Nat → Nat)} (hM : mOK sg) (h1 : (∃ (gU : Nat → Nat) (zU : Nat → Nat) (cU : Nat → Nat), ¬ pTn (szF sg) x y ∧ r1 = (-1) ∧ u = (gU, zU, cU, a0, t0, nx, st, hq)) ∨ (∃ (eX : Nat) (tX : Nat) (gU : Nat → Nat) (zU : Nat → Nat) (cU : Nat → Nat), eX < 8 ∧ tX < sg (10 + 76 * eX) ∧ x = nI eX ∧ y = nI tX ∧ (¬ ∃ n : Nat, 1 ≤ n ∧ n ≤ 65535 ∧ af = nI n) ∧ r1 = (-2) ∧ u = (gU, zU, cU, a0, t0, nx, st, hq)) ∨ (∃ (eX : Nat) (tX : Nat) (fX : Nat) (gU : Nat → Nat) (zU : Nat → Nat) (cU : Nat → Nat), eX < 8 ∧ tX < sg (10 + 76 * eX) ∧ x = nI eX ∧ y = nI tX ∧ 1 ≤ fX ∧ fX ≤ 65535 ∧ af = nI fX ∧ (∃ c : Nat, c < sg (11 + 76 * eX + 15 * tX + 5) ∧ ¬ andN (sg (11 + 76 * eX + 15 * tX + (6 + 3 * c + 1))) fX = 0) ∧ r1 = (-4) ∧ u = (gU, zU, cU, a0, t0, nx, st, hq)) ∨ (∃ (eX : Nat) (tX : Nat) (fX : Nat) (gU : Nat → Nat) (zU : Nat → Nat) (cU : Nat → Nat), eX < 8 ∧ tX < sg (10 + 76 * eX) ∧ x = nI eX ∧ y = nI tX ∧ 1 ≤ fX ∧ fX ≤ 65535 ∧ af = nI fX ∧ (∀ c : Nat, c < sg (11 + 76 * eX + 15 * tX + 5) → andN (sg (11 + 76 * eX + 15 * tX + (6 + 3 * c + 1))) fX = 0) ∧ sg (11 + 76 * eX + 15 * tX + 3) = fX ∧ r1 = (-5) ∧ u = (gU, zU, cU, a0, t0, nx, st, hq)) ∨ (∃ (eX : Nat) (tX : Nat) (fX : Nat) (zZ : Nat → Nat) (cC : Nat → Nat), eX < 8 ∧ tX < sg (10 + 76 * eX) ∧ x = nI eX ∧ y = nI tX ∧ 1 ≤ fX ∧ fX ≤ 65535 ∧ af = nI fX ∧ (∀ c : Nat, c < sg (11 + 76 * eX + 15 * tX + 5) → andN (sg (11 + 76 * eX + 15 * tX + (6 + 3 * c + 1))) fX = 0) ∧ sg (11 + 76 * eX + 15 * tX + 3) ≠ fX ∧ sRel zZ cC (arU sg (11 + 76 * eX + 15 * tX + 3) fX) ∧ mOK (arU sg (11 + 76 * eX + 15 * tX + 3) fX) ∧ r1 = nI (sg (11 + 76 * eX + 15 * tX + 3)) ∧ u = (arU sg (11 + 76 * eX + 15 * tX + 3) fX, zZ, cC, t0, hq (nx &&& 3), nx + 1, min (st + 1) 4, arU hq (nx &&& 3) a0))) (h2 : (¬ pTn (fun e => sg (10 + 76 * e)) x y ∧ r2 = (-1) ∧ w = (st, sg, be)) ∨ (∃ (eX : Nat) (tX : Nat), eX < 8 ∧ tX < sg (10 + 76 * eX) ∧ x = nI eX ∧ y = nI tX ∧ (¬ ∃ n : Nat, 1 ≤ n ∧ n ≤ 65535 ∧ af = nI n) ∧ r2 = (-2) ∧ w = (st, sg, be)) ∨ (∃ (eX : Nat) (tX : Nat) (fX : Nat), eX < 8 ∧ tX < sg (10 + 76 * eX) ∧ x = nI eX ∧ y = nI tX ∧ 1 ≤ fX ∧ fX ≤ 65535 ∧ af = nI fX ∧ (∃ c : Nat, c < sg (11 + 76 * eX + 15 * tX + 5) ∧ ¬ andN (sg (11 + 76 * eX + 15 * tX + (6 + 3 * c + 1))) fX = 0) ∧ r2 = (-4) ∧ w = (st, sg, be)) ∨ (∃ (eX : Nat) (tX : Nat) (fX : Nat), eX < 8 ∧ tX < sg (10 + 76 * eX) ∧ x = nI eX ∧ y = nI tX ∧ 1 ≤ fX ∧ fX ≤ 65535 ∧ af = nI fX ∧ (∀ c : Nat, c < sg (11 + 76 * eX + 15 * tX + 5) → andN (sg (11 + 76 * eX + 15 * tX + (6 + 3 * c + 1))) fX = 0) ∧ sg (11 + 76 * eX + 15 * tX + 3) = fX ∧ r2 = (-5) ∧ w = (st, sg, be)) ∨ (∃ (eX : Nat) (tX : Nat) (fX : Nat), eX < 8 ∧ tX < sg (10 + 76 * eX) ∧ x = nI eX ∧ y = nI tX ∧ 1 ≤ fX ∧ fX ≤ 65535 ∧ af = nI fX ∧ (∀ c : Nat, c < sg (11 + 76 * eX + 15 * tX + 5) → andN (sg (11 + 76 * eX + 15 * tX + (6 + 3 * c + 1))) fX = 0) ∧ sg (11 + 76 * eX + 15 * tX + 3) ≠ fX ∧ r2 = nI (sg (11 + 76 * eX + 15 * tX + 3)) ∧ w = (knK st, arU sg (11 + 76 * eX + 15 * tX + 3) fX, knB st be sg))) : r1 = r2 ∧ aR a0 t0 nx st hq sg be u w := by
  rcases h1 with ⟨gUp, zUp, cUp, hp0, rfl, rfl⟩ | ⟨eXp, tXp, gUp, zUp, cUp, hp0, hp1, hp2, hp3, hp4, rfl, rfl⟩ | ⟨eXp, tXp, fXp, gUp, zUp, cUp, hp0, hp1, hp2, hp3, hp4, hp5, hp6, hp7, rfl, rfl⟩ | ⟨eXp, tXp, fXp, gUp, zUp, cUp, hp0, hp1, hp2, hp3, hp4, hp5, hp6, hp7, hp8, rfl, rfl⟩ | ⟨eXp, tXp, fXp, zZp, cCp, hp0, hp1, hp2, hp3, hp4, hp5, hp6, hp7, hp8, hp9, hp10, rfl, rfl⟩
  · rcases h2 with ⟨hq0, rfl, rfl⟩ | ⟨eXq, tXq, hq0, hq1, hq2, hq3, hq4, rfl, rfl⟩ | ⟨eXq, tXq, fXq, hq0, hq1, hq2, hq3, hq4, hq5, hq6, hq7, rfl, rfl⟩ | ⟨eXq, tXq, fXq, hq0, hq1, hq2, hq3, hq4, hq5, hq6, hq7, hq8, rfl, rfl⟩ | ⟨eXq, tXq, fXq, hq0, hq1, hq2, hq3, hq4, hq5, hq6, hq7, hq8, rfl, rfl⟩
    · exact ⟨rfl, Or.inl ⟨_, _, _, rfl, rfl⟩⟩
    · have mqe := hM.2.1 _ hq0
      have mqt := (hM.2.2 _ _ hq0 hq1).2.2.2.2.1
      exact absurd ⟨_, _, hq0, hq1, hq2, hq3⟩ hp0
    · have mqe := hM.2.1 _ hq0
      have mqt := (hM.2.2 _ _ hq0 hq1).2.2.2.2.1
      exact absurd ⟨_, _, hq0, hq1, hq2, hq3⟩ hp0
    · have mqe := hM.2.1 _ hq0
      have mqt := (hM.2.2 _ _ hq0 hq1).2.2.2.2.1
      exact absurd ⟨_, _, hq0, hq1, hq2, hq3⟩ hp0
    · have mqe := hM.2.1 _ hq0
      have mqt := (hM.2.2 _ _ hq0 hq1).2.2.2.2.1
      exact absurd ⟨_, _, hq0, hq1, hq2, hq3⟩ hp0
  · rcases h2 with ⟨hq0, rfl, rfl⟩ | ⟨eXq, tXq, hq0, hq1, hq2, hq3, hq4, rfl, rfl⟩ | ⟨eXq, tXq, fXq, hq0, hq1, hq2, hq3, hq4, hq5, hq6, hq7, rfl, rfl⟩ | ⟨eXq, tXq, fXq, hq0, hq1, hq2, hq3, hq4, hq5, hq6, hq7, hq8, rfl, rfl⟩ | ⟨eXq, tXq, fXq, hq0, hq1, hq2, hq3, hq4, hq5, hq6, hq7, hq8, rfl, rfl⟩
    · have mpe := hM.2.1 _ hp0
      have mpt := (hM.2.2 _ _ hp0 hp1).2.2.2.2.1
      exact absurd ⟨_, _, hp0, hp1, hp2, hp3⟩ hq0
    · have mpe := hM.2.1 _ hp0
      have mpt := (hM.2.2 _ _ hp0 hp1).2.2.2.2.1
      have mqe := hM.2.1 _ hq0
      have mqt := (hM.2.2 _ _ hq0 hq1).2.2.2.2.1
      have zx := nI_inj (by omega) (by omega) (hp2.symm.trans hq2)
      subst zx
      have zy := nI_inj (by omega) (by omega) (hp3.symm.trans hq3)
      subst zy
      exact ⟨rfl, Or.inl ⟨_, _, _, rfl, rfl⟩⟩
    · have mpe := hM.2.1 _ hp0
      have mpt := (hM.2.2 _ _ hp0 hp1).2.2.2.2.1
      have mqe := hM.2.1 _ hq0
      have mqt := (hM.2.2 _ _ hq0 hq1).2.2.2.2.1
      have zx := nI_inj (by omega) (by omega) (hp2.symm.trans hq2)
      subst zx
      have zy := nI_inj (by omega) (by omega) (hp3.symm.trans hq3)
      subst zy
      exact absurd ⟨fXq, by omega, by omega, hq6⟩ hp4
    · have mpe := hM.2.1 _ hp0
      have mpt := (hM.2.2 _ _ hp0 hp1).2.2.2.2.1
      have mqe := hM.2.1 _ hq0
      have mqt := (hM.2.2 _ _ hq0 hq1).2.2.2.2.1
      have zx := nI_inj (by omega) (by omega) (hp2.symm.trans hq2)
      subst zx
      have zy := nI_inj (by omega) (by omega) (hp3.symm.trans hq3)
      subst zy
      exact absurd ⟨fXq, by omega, by omega, hq6⟩ hp4
    · have mpe := hM.2.1 _ hp0
      have mpt := (hM.2.2 _ _ hp0 hp1).2.2.2.2.1
      have mqe := hM.2.1 _ hq0
      have mqt := (hM.2.2 _ _ hq0 hq1).2.2.2.2.1
      have zx := nI_inj (by omega) (by omega) (hp2.symm.trans hq2)
      subst zx
      have zy := nI_inj (by omega) (by omega) (hp3.symm.trans hq3)
      subst zy
      exact absurd ⟨fXq, by omega, by omega, hq6⟩ hp4
  · rcases h2 with ⟨hq0, rfl, rfl⟩ | ⟨eXq, tXq, hq0, hq1, hq2, hq3, hq4, rfl, rfl⟩ | ⟨eXq, tXq, fXq, hq0, hq1, hq2, hq3, hq4, hq5, hq6, hq7, rfl, rfl⟩ | ⟨eXq, tXq, fXq, hq0, hq1, hq2, hq3, hq4, hq5, hq6, hq7, hq8, rfl, rfl⟩ | ⟨eXq, tXq, fXq, hq0, hq1, hq2, hq3, hq4, hq5, hq6, hq7, hq8, rfl, rfl⟩
    · have mpe := hM.2.1 _ hp0
      have mpt := (hM.2.2 _ _ hp0 hp1).2.2.2.2.1
      exact absurd ⟨_, _, hp0, hp1, hp2, hp3⟩ hq0
    · have mpe := hM.2.1 _ hp0
      have mpt := (hM.2.2 _ _ hp0 hp1).2.2.2.2.1
      have mqe := hM.2.1 _ hq0
      have mqt := (hM.2.2 _ _ hq0 hq1).2.2.2.2.1
      have zx := nI_inj (by omega) (by omega) (hp2.symm.trans hq2)
      subst zx
      have zy := nI_inj (by omega) (by omega) (hp3.symm.trans hq3)
      subst zy
      exact absurd ⟨fXp, by omega, by omega, hp6⟩ hq4
    · have mpe := hM.2.1 _ hp0
      have mpt := (hM.2.2 _ _ hp0 hp1).2.2.2.2.1
      have mqe := hM.2.1 _ hq0
      have mqt := (hM.2.2 _ _ hq0 hq1).2.2.2.2.1
      have zx := nI_inj (by omega) (by omega) (hp2.symm.trans hq2)
      subst zx
      have zy := nI_inj (by omega) (by omega) (hp3.symm.trans hq3)
      subst zy
      have zaf := nI_inj (by omega) (by omega) (hp6.symm.trans hq6)
      subst zaf
      exact ⟨rfl, Or.inl ⟨_, _, _, rfl, rfl⟩⟩
    · have mpe := hM.2.1 _ hp0
      have mpt := (hM.2.2 _ _ hp0 hp1).2.2.2.2.1
      have mqe := hM.2.1 _ hq0
      have mqt := (hM.2.2 _ _ hq0 hq1).2.2.2.2.1
      have zx := nI_inj (by omega) (by omega) (hp2.symm.trans hq2)
      subst zx
      have zy := nI_inj (by omega) (by omega) (hp3.symm.trans hq3)
      subst zy
      have zaf := nI_inj (by omega) (by omega) (hp6.symm.trans hq6)
      subst zaf
      obtain ⟨c9, q1, q2⟩ := hp7
      exact absurd (hq7 c9 q1) q2
    · have mpe := hM.2.1 _ hp0
      have mpt := (hM.2.2 _ _ hp0 hp1).2.2.2.2.1
      have mqe := hM.2.1 _ hq0
      have mqt := (hM.2.2 _ _ hq0 hq1).2.2.2.2.1
      have zx := nI_inj (by omega) (by omega) (hp2.symm.trans hq2)
      subst zx
      have zy := nI_inj (by omega) (by omega) (hp3.symm.trans hq3)
      subst zy
      have zaf := nI_inj (by omega) (by omega) (hp6.symm.trans hq6)
      subst zaf
      obtain ⟨c9, q1, q2⟩ := hp7
      exact absurd (hq7 c9 q1) q2
  · rcases h2 with ⟨hq0, rfl, rfl⟩ | ⟨eXq, tXq, hq0, hq1, hq2, hq3, hq4, rfl, rfl⟩ | ⟨eXq, tXq, fXq, hq0, hq1, hq2, hq3, hq4, hq5, hq6, hq7, rfl, rfl⟩ | ⟨eXq, tXq, fXq, hq0, hq1, hq2, hq3, hq4, hq5, hq6, hq7, hq8, rfl, rfl⟩ | ⟨eXq, tXq, fXq, hq0, hq1, hq2, hq3, hq4, hq5, hq6, hq7, hq8, rfl, rfl⟩
    · have mpe := hM.2.1 _ hp0
      have mpt := (hM.2.2 _ _ hp0 hp1).2.2.2.2.1
      exact absurd ⟨_, _, hp0, hp1, hp2, hp3⟩ hq0
    · have mpe := hM.2.1 _ hp0
      have mpt := (hM.2.2 _ _ hp0 hp1).2.2.2.2.1
      have mqe := hM.2.1 _ hq0
      have mqt := (hM.2.2 _ _ hq0 hq1).2.2.2.2.1
      have zx := nI_inj (by omega) (by omega) (hp2.symm.trans hq2)
      subst zx
      have zy := nI_inj (by omega) (by omega) (hp3.symm.trans hq3)
      subst zy
      exact absurd ⟨fXp, by omega, by omega, hp6⟩ hq4
    · have mpe := hM.2.1 _ hp0
      have mpt := (hM.2.2 _ _ hp0 hp1).2.2.2.2.1
      have mqe := hM.2.1 _ hq0
      have mqt := (hM.2.2 _ _ hq0 hq1).2.2.2.2.1
      have zx := nI_inj (by omega) (by omega) (hp2.symm.trans hq2)
      subst zx
      have zy := nI_inj (by omega) (by omega) (hp3.symm.trans hq3)
      subst zy
      have zaf := nI_inj (by omega) (by omega) (hp6.symm.trans hq6)
      subst zaf
      obtain ⟨c9, q1, q2⟩ := hq7
      exact absurd (hp7 c9 q1) q2
    · have mpe := hM.2.1 _ hp0
      have mpt := (hM.2.2 _ _ hp0 hp1).2.2.2.2.1
      have mqe := hM.2.1 _ hq0
      have mqt := (hM.2.2 _ _ hq0 hq1).2.2.2.2.1
      have zx := nI_inj (by omega) (by omega) (hp2.symm.trans hq2)
      subst zx
      have zy := nI_inj (by omega) (by omega) (hp3.symm.trans hq3)
      subst zy
      have zaf := nI_inj (by omega) (by omega) (hp6.symm.trans hq6)
      subst zaf
      exact ⟨rfl, Or.inl ⟨_, _, _, rfl, rfl⟩⟩
    · have mpe := hM.2.1 _ hp0
      have mpt := (hM.2.2 _ _ hp0 hp1).2.2.2.2.1
      have mqe := hM.2.1 _ hq0
      have mqt := (hM.2.2 _ _ hq0 hq1).2.2.2.2.1
      have zx := nI_inj (by omega) (by omega) (hp2.symm.trans hq2)
      subst zx
      have zy := nI_inj (by omega) (by omega) (hp3.symm.trans hq3)
      subst zy
      have zaf := nI_inj (by omega) (by omega) (hp6.symm.trans hq6)
      subst zaf
      first | omega | contradiction | (simp_all; done)
  · rcases h2 with ⟨hq0, rfl, rfl⟩ | ⟨eXq, tXq, hq0, hq1, hq2, hq3, hq4, rfl, rfl⟩ | ⟨eXq, tXq, fXq, hq0, hq1, hq2, hq3, hq4, hq5, hq6, hq7, rfl, rfl⟩ | ⟨eXq, tXq, fXq, hq0, hq1, hq2, hq3, hq4, hq5, hq6, hq7, hq8, rfl, rfl⟩ | ⟨eXq, tXq, fXq, hq0, hq1, hq2, hq3, hq4, hq5, hq6, hq7, hq8, rfl, rfl⟩
    · have mpe := hM.2.1 _ hp0
      have mpt := (hM.2.2 _ _ hp0 hp1).2.2.2.2.1
      exact absurd ⟨_, _, hp0, hp1, hp2, hp3⟩ hq0
    · have mpe := hM.2.1 _ hp0
      have mpt := (hM.2.2 _ _ hp0 hp1).2.2.2.2.1
      have mqe := hM.2.1 _ hq0
      have mqt := (hM.2.2 _ _ hq0 hq1).2.2.2.2.1
      have zx := nI_inj (by omega) (by omega) (hp2.symm.trans hq2)
      subst zx
      have zy := nI_inj (by omega) (by omega) (hp3.symm.trans hq3)
      subst zy
      exact absurd ⟨fXp, by omega, by omega, hp6⟩ hq4
    · have mpe := hM.2.1 _ hp0
      have mpt := (hM.2.2 _ _ hp0 hp1).2.2.2.2.1
      have mqe := hM.2.1 _ hq0
      have mqt := (hM.2.2 _ _ hq0 hq1).2.2.2.2.1
      have zx := nI_inj (by omega) (by omega) (hp2.symm.trans hq2)
      subst zx
      have zy := nI_inj (by omega) (by omega) (hp3.symm.trans hq3)
      subst zy
      have zaf := nI_inj (by omega) (by omega) (hp6.symm.trans hq6)
      subst zaf
      obtain ⟨c9, q1, q2⟩ := hq7
      exact absurd (hp7 c9 q1) q2
    · have mpe := hM.2.1 _ hp0
      have mpt := (hM.2.2 _ _ hp0 hp1).2.2.2.2.1
      have mqe := hM.2.1 _ hq0
      have mqt := (hM.2.2 _ _ hq0 hq1).2.2.2.2.1
      have zx := nI_inj (by omega) (by omega) (hp2.symm.trans hq2)
      subst zx
      have zy := nI_inj (by omega) (by omega) (hp3.symm.trans hq3)
      subst zy
      have zaf := nI_inj (by omega) (by omega) (hp6.symm.trans hq6)
      subst zaf
      first | omega | contradiction | (simp_all; done)
    · have mpe := hM.2.1 _ hp0
      have mpt := (hM.2.2 _ _ hp0 hp1).2.2.2.2.1
      have mqe := hM.2.1 _ hq0
      have mqt := (hM.2.2 _ _ hq0 hq1).2.2.2.2.1
      have zx := nI_inj (by omega) (by omega) (hp2.symm.trans hq2)
      subst zx
      have zy := nI_inj (by omega) (by omega) (hp3.symm.trans hq3)
      subst zy
      have zaf := nI_inj (by omega) (by omega) (hp6.symm.trans hq6)
      subst zaf
      exact ⟨rfl, Or.inr ⟨_, _, _, hp10, hp9, rfl, rfl⟩⟩
theorem eq_addCaption {a0 t0 nx st : Nat} {hq sg be : Nat → Nat} {x y aw af : Int32} {r1 r2 : Int32} {u : (Nat → Nat) × (Nat → Nat) × (Nat → Nat) × Nat × Nat × Nat × Nat × (Nat → Nat)} {w : Nat × (Nat → Nat) × (Nat → Nat)} (hM : mOK sg) (h1 : (∃ (gU : Nat → Nat) (zU : Nat → Nat) (cU : Nat → Nat), ¬ pTn (szF sg) x y ∧ r1 = (-1) ∧ u = (gU, zU, cU, a0, t0, nx, st, hq)) ∨ (∃ (eX : Nat) (tX : Nat) (gU : Nat → Nat) (zU : Nat → Nat) (cU : Nat → Nat), eX < 8 ∧ tX < sg (10 + 76 * eX) ∧ x = nI eX ∧ y = nI tX ∧ ¬ pCx aw af ∧ r1 = (-2) ∧ u = (gU, zU, cU, a0, t0, nx, st, hq)) ∨ (∃ (eX : Nat) (tX : Nat) (wX : Nat) (fX : Nat) (gU : Nat → Nat) (zU : Nat → Nat) (cU : Nat → Nat), eX < 8 ∧ tX < sg (10 + 76 * eX) ∧ x = nI eX ∧ y = nI tX ∧ 1 ≤ wX ∧ wX ≤ 30 ∧ fX ≤ 65535 ∧ aw = nI wX ∧ af = nI fX ∧ ¬ andN fX (sg (11 + 76 * eX + 15 * tX + 3)) = 0 ∧ r1 = (-4) ∧ u = (gU, zU, cU, a0, t0, nx, st, hq)) ∨ (∃ (eX : Nat) (tX : Nat) (wX : Nat) (fX : Nat) (gU : Nat → Nat) (zU : Nat → Nat) (cU : Nat → Nat), eX < 8 ∧ tX < sg (10 + 76 * eX) ∧ x = nI eX ∧ y = nI tX ∧ 1 ≤ wX ∧ wX ≤ 30 ∧ fX ≤ 65535 ∧ aw = nI wX ∧ af = nI fX ∧ andN fX (sg (11 + 76 * eX + 15 * tX + 3)) = 0 ∧ sg (11 + 76 * eX + 15 * tX + 5) = 3 ∧ r1 = (-3) ∧ u = (gU, zU, cU, a0, t0, nx, st, hq)) ∨ (∃ (eX : Nat) (tX : Nat) (wX : Nat) (fX : Nat) (zZ : Nat → Nat) (cC : Nat → Nat), eX < 8 ∧ tX < sg (10 + 76 * eX) ∧ x = nI eX ∧ y = nI tX ∧ 1 ≤ wX ∧ wX ≤ 30 ∧ fX ≤ 65535 ∧ aw = nI wX ∧ af = nI fX ∧ andN fX (sg (11 + 76 * eX + 15 * tX + 3)) = 0 ∧ sg (11 + 76 * eX + 15 * tX + 5) < 3 ∧ sRel zZ cC (addC sg eX tX wX fX) ∧ mOK (addC sg eX tX wX fX) ∧ r1 = nI (sg (11 + 76 * eX + 15 * tX + 5)) ∧ u = (addC sg eX tX wX fX, zZ, cC, t0, hq (nx &&& 3), nx + 1, min (st + 1) 4, arU hq (nx &&& 3) a0))) (h2 : (¬ pTn (fun e => sg (10 + 76 * e)) x y ∧ r2 = (-1) ∧ w = (st, sg, be)) ∨ (∃ (eX : Nat) (tX : Nat), eX < 8 ∧ tX < sg (10 + 76 * eX) ∧ x = nI eX ∧ y = nI tX ∧ ¬ pCx aw af ∧ r2 = (-2) ∧ w = (st, sg, be)) ∨ (∃ (eX : Nat) (tX : Nat) (wX : Nat) (fX : Nat), eX < 8 ∧ tX < sg (10 + 76 * eX) ∧ x = nI eX ∧ y = nI tX ∧ 1 ≤ wX ∧ wX ≤ 30 ∧ fX ≤ 65535 ∧ aw = nI wX ∧ af = nI fX ∧ ¬ andN fX (sg (11 + 76 * eX + 15 * tX + 3)) = 0 ∧ r2 = (-4) ∧ w = (st, sg, be)) ∨ (∃ (eX : Nat) (tX : Nat) (wX : Nat) (fX : Nat), eX < 8 ∧ tX < sg (10 + 76 * eX) ∧ x = nI eX ∧ y = nI tX ∧ 1 ≤ wX ∧ wX ≤ 30 ∧ fX ≤ 65535 ∧ aw = nI wX ∧ af = nI fX ∧ andN fX (sg (11 + 76 * eX + 15 * tX + 3)) = 0 ∧ sg (11 + 76 * eX + 15 * tX + 5) = 3 ∧ r2 = (-3) ∧ w = (st, sg, be)) ∨ (∃ (eX : Nat) (tX : Nat) (wX : Nat) (fX : Nat), eX < 8 ∧ tX < sg (10 + 76 * eX) ∧ x = nI eX ∧ y = nI tX ∧ 1 ≤ wX ∧ wX ≤ 30 ∧ fX ≤ 65535 ∧ aw = nI wX ∧ af = nI fX ∧ andN fX (sg (11 + 76 * eX + 15 * tX + 3)) = 0 ∧ sg (11 + 76 * eX + 15 * tX + 5) < 3 ∧ r2 = nI (sg (11 + 76 * eX + 15 * tX + 5)) ∧ w = (knK st, addC sg eX tX wX fX, knB st be sg))) : r1 = r2 ∧ aR a0 t0 nx st hq sg be u w := by
  rcases h1 with ⟨gUp, zUp, cUp, hp0, rfl, rfl⟩ | ⟨eXp, tXp, gUp, zUp, cUp, hp0, hp1, hp2, hp3, hp4, rfl, rfl⟩ | ⟨eXp, tXp, wXp, fXp, gUp, zUp, cUp, hp0, hp1, hp2, hp3, hp4, hp5, hp6, hp7, hp8, hp9, rfl, rfl⟩ | ⟨eXp, tXp, wXp, fXp, gUp, zUp, cUp, hp0, hp1, hp2, hp3, hp4, hp5, hp6, hp7, hp8, hp9, hp10, rfl, rfl⟩ | ⟨eXp, tXp, wXp, fXp, zZp, cCp, hp0, hp1, hp2, hp3, hp4, hp5, hp6, hp7, hp8, hp9, hp10, hp11, hp12, rfl, rfl⟩
  · rcases h2 with ⟨hq0, rfl, rfl⟩ | ⟨eXq, tXq, hq0, hq1, hq2, hq3, hq4, rfl, rfl⟩ | ⟨eXq, tXq, wXq, fXq, hq0, hq1, hq2, hq3, hq4, hq5, hq6, hq7, hq8, hq9, rfl, rfl⟩ | ⟨eXq, tXq, wXq, fXq, hq0, hq1, hq2, hq3, hq4, hq5, hq6, hq7, hq8, hq9, hq10, rfl, rfl⟩ | ⟨eXq, tXq, wXq, fXq, hq0, hq1, hq2, hq3, hq4, hq5, hq6, hq7, hq8, hq9, hq10, rfl, rfl⟩
    · exact ⟨rfl, Or.inl ⟨_, _, _, rfl, rfl⟩⟩
    · have mqe := hM.2.1 _ hq0
      have mqt := (hM.2.2 _ _ hq0 hq1).2.2.2.2.1
      exact absurd ⟨_, _, hq0, hq1, hq2, hq3⟩ hp0
    · have mqe := hM.2.1 _ hq0
      have mqt := (hM.2.2 _ _ hq0 hq1).2.2.2.2.1
      exact absurd ⟨_, _, hq0, hq1, hq2, hq3⟩ hp0
    · have mqe := hM.2.1 _ hq0
      have mqt := (hM.2.2 _ _ hq0 hq1).2.2.2.2.1
      exact absurd ⟨_, _, hq0, hq1, hq2, hq3⟩ hp0
    · have mqe := hM.2.1 _ hq0
      have mqt := (hM.2.2 _ _ hq0 hq1).2.2.2.2.1
      exact absurd ⟨_, _, hq0, hq1, hq2, hq3⟩ hp0
  · rcases h2 with ⟨hq0, rfl, rfl⟩ | ⟨eXq, tXq, hq0, hq1, hq2, hq3, hq4, rfl, rfl⟩ | ⟨eXq, tXq, wXq, fXq, hq0, hq1, hq2, hq3, hq4, hq5, hq6, hq7, hq8, hq9, rfl, rfl⟩ | ⟨eXq, tXq, wXq, fXq, hq0, hq1, hq2, hq3, hq4, hq5, hq6, hq7, hq8, hq9, hq10, rfl, rfl⟩ | ⟨eXq, tXq, wXq, fXq, hq0, hq1, hq2, hq3, hq4, hq5, hq6, hq7, hq8, hq9, hq10, rfl, rfl⟩
    · have mpe := hM.2.1 _ hp0
      have mpt := (hM.2.2 _ _ hp0 hp1).2.2.2.2.1
      exact absurd ⟨_, _, hp0, hp1, hp2, hp3⟩ hq0
    · have mpe := hM.2.1 _ hp0
      have mpt := (hM.2.2 _ _ hp0 hp1).2.2.2.2.1
      have mqe := hM.2.1 _ hq0
      have mqt := (hM.2.2 _ _ hq0 hq1).2.2.2.2.1
      have zx := nI_inj (by omega) (by omega) (hp2.symm.trans hq2)
      subst zx
      have zy := nI_inj (by omega) (by omega) (hp3.symm.trans hq3)
      subst zy
      exact ⟨rfl, Or.inl ⟨_, _, _, rfl, rfl⟩⟩
    · have mpe := hM.2.1 _ hp0
      have mpt := (hM.2.2 _ _ hp0 hp1).2.2.2.2.1
      have mqe := hM.2.1 _ hq0
      have mqt := (hM.2.2 _ _ hq0 hq1).2.2.2.2.1
      have zx := nI_inj (by omega) (by omega) (hp2.symm.trans hq2)
      subst zx
      have zy := nI_inj (by omega) (by omega) (hp3.symm.trans hq3)
      subst zy
      exact absurd ⟨_, _, ⟨hq4, hq5⟩, hq6, hq7, hq8⟩ hp4
    · have mpe := hM.2.1 _ hp0
      have mpt := (hM.2.2 _ _ hp0 hp1).2.2.2.2.1
      have mqe := hM.2.1 _ hq0
      have mqt := (hM.2.2 _ _ hq0 hq1).2.2.2.2.1
      have zx := nI_inj (by omega) (by omega) (hp2.symm.trans hq2)
      subst zx
      have zy := nI_inj (by omega) (by omega) (hp3.symm.trans hq3)
      subst zy
      exact absurd ⟨_, _, ⟨hq4, hq5⟩, hq6, hq7, hq8⟩ hp4
    · have mpe := hM.2.1 _ hp0
      have mpt := (hM.2.2 _ _ hp0 hp1).2.2.2.2.1
      have mqe := hM.2.1 _ hq0
      have mqt := (hM.2.2 _ _ hq0 hq1).2.2.2.2.1
      have zx := nI_inj (by omega) (by omega) (hp2.symm.trans hq2)
      subst zx
      have zy := nI_inj (by omega) (by omega) (hp3.symm.trans hq3)
      subst zy
      exact absurd ⟨_, _, ⟨hq4, hq5⟩, hq6, hq7, hq8⟩ hp4
  · rcases h2 with ⟨hq0, rfl, rfl⟩ | ⟨eXq, tXq, hq0, hq1, hq2, hq3, hq4, rfl, rfl⟩ | ⟨eXq, tXq, wXq, fXq, hq0, hq1, hq2, hq3, hq4, hq5, hq6, hq7, hq8, hq9, rfl, rfl⟩ | ⟨eXq, tXq, wXq, fXq, hq0, hq1, hq2, hq3, hq4, hq5, hq6, hq7, hq8, hq9, hq10, rfl, rfl⟩ | ⟨eXq, tXq, wXq, fXq, hq0, hq1, hq2, hq3, hq4, hq5, hq6, hq7, hq8, hq9, hq10, rfl, rfl⟩
    · have mpe := hM.2.1 _ hp0
      have mpt := (hM.2.2 _ _ hp0 hp1).2.2.2.2.1
      exact absurd ⟨_, _, hp0, hp1, hp2, hp3⟩ hq0
    · have mpe := hM.2.1 _ hp0
      have mpt := (hM.2.2 _ _ hp0 hp1).2.2.2.2.1
      have mqe := hM.2.1 _ hq0
      have mqt := (hM.2.2 _ _ hq0 hq1).2.2.2.2.1
      have zx := nI_inj (by omega) (by omega) (hp2.symm.trans hq2)
      subst zx
      have zy := nI_inj (by omega) (by omega) (hp3.symm.trans hq3)
      subst zy
      exact absurd ⟨_, _, ⟨hp4, hp5⟩, hp6, hp7, hp8⟩ hq4
    · have mpe := hM.2.1 _ hp0
      have mpt := (hM.2.2 _ _ hp0 hp1).2.2.2.2.1
      have mqe := hM.2.1 _ hq0
      have mqt := (hM.2.2 _ _ hq0 hq1).2.2.2.2.1
      have zx := nI_inj (by omega) (by omega) (hp2.symm.trans hq2)
      subst zx
      have zy := nI_inj (by omega) (by omega) (hp3.symm.trans hq3)
      subst zy
      have zaw := nI_inj (by omega) (by omega) (hp7.symm.trans hq7)
      subst zaw
      have zaf := nI_inj (by omega) (by omega) (hp8.symm.trans hq8)
      subst zaf
      exact ⟨rfl, Or.inl ⟨_, _, _, rfl, rfl⟩⟩
    · have mpe := hM.2.1 _ hp0
      have mpt := (hM.2.2 _ _ hp0 hp1).2.2.2.2.1
      have mqe := hM.2.1 _ hq0
      have mqt := (hM.2.2 _ _ hq0 hq1).2.2.2.2.1
      have zx := nI_inj (by omega) (by omega) (hp2.symm.trans hq2)
      subst zx
      have zy := nI_inj (by omega) (by omega) (hp3.symm.trans hq3)
      subst zy
      have zaw := nI_inj (by omega) (by omega) (hp7.symm.trans hq7)
      subst zaw
      have zaf := nI_inj (by omega) (by omega) (hp8.symm.trans hq8)
      subst zaf
      exact absurd hq9 hp9
    · have mpe := hM.2.1 _ hp0
      have mpt := (hM.2.2 _ _ hp0 hp1).2.2.2.2.1
      have mqe := hM.2.1 _ hq0
      have mqt := (hM.2.2 _ _ hq0 hq1).2.2.2.2.1
      have zx := nI_inj (by omega) (by omega) (hp2.symm.trans hq2)
      subst zx
      have zy := nI_inj (by omega) (by omega) (hp3.symm.trans hq3)
      subst zy
      have zaw := nI_inj (by omega) (by omega) (hp7.symm.trans hq7)
      subst zaw
      have zaf := nI_inj (by omega) (by omega) (hp8.symm.trans hq8)
      subst zaf
      exact absurd hq9 hp9
  · rcases h2 with ⟨hq0, rfl, rfl⟩ | ⟨eXq, tXq, hq0, hq1, hq2, hq3, hq4, rfl, rfl⟩ | ⟨eXq, tXq, wXq, fXq, hq0, hq1, hq2, hq3, hq4, hq5, hq6, hq7, hq8, hq9, rfl, rfl⟩ | ⟨eXq, tXq, wXq, fXq, hq0, hq1, hq2, hq3, hq4, hq5, hq6, hq7, hq8, hq9, hq10, rfl, rfl⟩ | ⟨eXq, tXq, wXq, fXq, hq0, hq1, hq2, hq3, hq4, hq5, hq6, hq7, hq8, hq9, hq10, rfl, rfl⟩
    · have mpe := hM.2.1 _ hp0
      have mpt := (hM.2.2 _ _ hp0 hp1).2.2.2.2.1
      exact absurd ⟨_, _, hp0, hp1, hp2, hp3⟩ hq0
    · have mpe := hM.2.1 _ hp0
      have mpt := (hM.2.2 _ _ hp0 hp1).2.2.2.2.1
      have mqe := hM.2.1 _ hq0
      have mqt := (hM.2.2 _ _ hq0 hq1).2.2.2.2.1
      have zx := nI_inj (by omega) (by omega) (hp2.symm.trans hq2)
      subst zx
      have zy := nI_inj (by omega) (by omega) (hp3.symm.trans hq3)
      subst zy
      exact absurd ⟨_, _, ⟨hp4, hp5⟩, hp6, hp7, hp8⟩ hq4
    · have mpe := hM.2.1 _ hp0
      have mpt := (hM.2.2 _ _ hp0 hp1).2.2.2.2.1
      have mqe := hM.2.1 _ hq0
      have mqt := (hM.2.2 _ _ hq0 hq1).2.2.2.2.1
      have zx := nI_inj (by omega) (by omega) (hp2.symm.trans hq2)
      subst zx
      have zy := nI_inj (by omega) (by omega) (hp3.symm.trans hq3)
      subst zy
      have zaw := nI_inj (by omega) (by omega) (hp7.symm.trans hq7)
      subst zaw
      have zaf := nI_inj (by omega) (by omega) (hp8.symm.trans hq8)
      subst zaf
      exact absurd hp9 hq9
    · have mpe := hM.2.1 _ hp0
      have mpt := (hM.2.2 _ _ hp0 hp1).2.2.2.2.1
      have mqe := hM.2.1 _ hq0
      have mqt := (hM.2.2 _ _ hq0 hq1).2.2.2.2.1
      have zx := nI_inj (by omega) (by omega) (hp2.symm.trans hq2)
      subst zx
      have zy := nI_inj (by omega) (by omega) (hp3.symm.trans hq3)
      subst zy
      have zaw := nI_inj (by omega) (by omega) (hp7.symm.trans hq7)
      subst zaw
      have zaf := nI_inj (by omega) (by omega) (hp8.symm.trans hq8)
      subst zaf
      exact ⟨rfl, Or.inl ⟨_, _, _, rfl, rfl⟩⟩
    · have mpe := hM.2.1 _ hp0
      have mpt := (hM.2.2 _ _ hp0 hp1).2.2.2.2.1
      have mqe := hM.2.1 _ hq0
      have mqt := (hM.2.2 _ _ hq0 hq1).2.2.2.2.1
      have zx := nI_inj (by omega) (by omega) (hp2.symm.trans hq2)
      subst zx
      have zy := nI_inj (by omega) (by omega) (hp3.symm.trans hq3)
      subst zy
      have zaw := nI_inj (by omega) (by omega) (hp7.symm.trans hq7)
      subst zaw
      have zaf := nI_inj (by omega) (by omega) (hp8.symm.trans hq8)
      subst zaf
      first | omega | contradiction | (simp_all; done)
  · rcases h2 with ⟨hq0, rfl, rfl⟩ | ⟨eXq, tXq, hq0, hq1, hq2, hq3, hq4, rfl, rfl⟩ | ⟨eXq, tXq, wXq, fXq, hq0, hq1, hq2, hq3, hq4, hq5, hq6, hq7, hq8, hq9, rfl, rfl⟩ | ⟨eXq, tXq, wXq, fXq, hq0, hq1, hq2, hq3, hq4, hq5, hq6, hq7, hq8, hq9, hq10, rfl, rfl⟩ | ⟨eXq, tXq, wXq, fXq, hq0, hq1, hq2, hq3, hq4, hq5, hq6, hq7, hq8, hq9, hq10, rfl, rfl⟩
    · have mpe := hM.2.1 _ hp0
      have mpt := (hM.2.2 _ _ hp0 hp1).2.2.2.2.1
      exact absurd ⟨_, _, hp0, hp1, hp2, hp3⟩ hq0
    · have mpe := hM.2.1 _ hp0
      have mpt := (hM.2.2 _ _ hp0 hp1).2.2.2.2.1
      have mqe := hM.2.1 _ hq0
      have mqt := (hM.2.2 _ _ hq0 hq1).2.2.2.2.1
      have zx := nI_inj (by omega) (by omega) (hp2.symm.trans hq2)
      subst zx
      have zy := nI_inj (by omega) (by omega) (hp3.symm.trans hq3)
      subst zy
      exact absurd ⟨_, _, ⟨hp4, hp5⟩, hp6, hp7, hp8⟩ hq4
    · have mpe := hM.2.1 _ hp0
      have mpt := (hM.2.2 _ _ hp0 hp1).2.2.2.2.1
      have mqe := hM.2.1 _ hq0
      have mqt := (hM.2.2 _ _ hq0 hq1).2.2.2.2.1
      have zx := nI_inj (by omega) (by omega) (hp2.symm.trans hq2)
      subst zx
      have zy := nI_inj (by omega) (by omega) (hp3.symm.trans hq3)
      subst zy
      have zaw := nI_inj (by omega) (by omega) (hp7.symm.trans hq7)
      subst zaw
      have zaf := nI_inj (by omega) (by omega) (hp8.symm.trans hq8)
      subst zaf
      exact absurd hp9 hq9
    · have mpe := hM.2.1 _ hp0
      have mpt := (hM.2.2 _ _ hp0 hp1).2.2.2.2.1
      have mqe := hM.2.1 _ hq0
      have mqt := (hM.2.2 _ _ hq0 hq1).2.2.2.2.1
      have zx := nI_inj (by omega) (by omega) (hp2.symm.trans hq2)
      subst zx
      have zy := nI_inj (by omega) (by omega) (hp3.symm.trans hq3)
      subst zy
      have zaw := nI_inj (by omega) (by omega) (hp7.symm.trans hq7)
      subst zaw
      have zaf := nI_inj (by omega) (by omega) (hp8.symm.trans hq8)
      subst zaf
      first | omega | contradiction | (simp_all; done)
    · have mpe := hM.2.1 _ hp0
      have mpt := (hM.2.2 _ _ hp0 hp1).2.2.2.2.1
      have mqe := hM.2.1 _ hq0
      have mqt := (hM.2.2 _ _ hq0 hq1).2.2.2.2.1
      have zx := nI_inj (by omega) (by omega) (hp2.symm.trans hq2)
      subst zx
      have zy := nI_inj (by omega) (by omega) (hp3.symm.trans hq3)
      subst zy
      have zaw := nI_inj (by omega) (by omega) (hp7.symm.trans hq7)
      subst zaw
      have zaf := nI_inj (by omega) (by omega) (hp8.symm.trans hq8)
      subst zaf
      exact ⟨rfl, Or.inr ⟨_, _, _, hp12, hp11, rfl, rfl⟩⟩
theorem eq_enter {a0 t0 nx st : Nat} {hq sg be : Nat → Nat} {x y z : Int32} {r1 r2 : Int32} {u : (Nat → Nat) × (Nat → Nat) × (Nat → Nat) × Nat × Nat × Nat × Nat × (Nat → Nat)} {w : Nat × (Nat → Nat) × (Nat → Nat)} (hM : mOK sg) (h1 : (∃ (gU : Nat → Nat) (zU : Nat → Nat) (cU : Nat → Nat), ¬ pVi x y z ∧ r1 = (-2) ∧ u = (gU, zU, cU, a0, t0, nx, st, hq)) ∨ (∃ (aX : Nat) (pX : Nat) (sX : Nat) (zZ : Nat → Nat) (cC : Nat → Nat), 4 ≤ aX ∧ aX ≤ 99 ∧ 30 ≤ pX ∧ pX ≤ 400 ∧ 1 ≤ sX ∧ sX ≤ 9999 ∧ x = nI aX ∧ y = nI pX ∧ z = nI sX ∧ sN (enT sg aX pX sX) = none ∧ sRel zZ cC (enT sg aX pX sX) ∧ mOK (enT sg aX pX sX) ∧ r1 = nI 9 ∧ u = (enT sg aX pX sX, zZ, cC, t0, hq (nx &&& 3), nx + 1, min (st + 1) 4, arU hq (nx &&& 3) a0)) ∨ (∃ (aX : Nat) (pX : Nat) (sX : Nat) (tX : Nat) (zZ : Nat → Nat) (cC : Nat → Nat), 4 ≤ aX ∧ aX ≤ 99 ∧ 30 ≤ pX ∧ pX ≤ 400 ∧ 1 ≤ sX ∧ sX ≤ 9999 ∧ x = nI aX ∧ y = nI pX ∧ z = nI sX ∧ sN (enT sg aX pX sX) = some tX ∧ sRel zZ cC (enT sg aX pX sX) ∧ mOK (enT sg aX pX sX) ∧ r1 = nI tX ∧ u = (enT sg aX pX sX, zZ, cC, t0, hq (nx &&& 3), nx + 1, min (st + 1) 4, arU hq (nx &&& 3) a0))) (h2 : (¬ pVi x y z ∧ r2 = (-2) ∧ w = (st, sg, be)) ∨ (∃ (aX : Nat) (pX : Nat) (sX : Nat), 4 ≤ aX ∧ aX ≤ 99 ∧ 30 ≤ pX ∧ pX ≤ 400 ∧ 1 ≤ sX ∧ sX ≤ 9999 ∧ x = nI aX ∧ y = nI pX ∧ z = nI sX ∧ sN (enT sg aX pX sX) = none ∧ r2 = nI 9 ∧ w = (knK st, enT sg aX pX sX, knB st be sg)) ∨ (∃ (aX : Nat) (pX : Nat) (sX : Nat) (tX : Nat), 4 ≤ aX ∧ aX ≤ 99 ∧ 30 ≤ pX ∧ pX ≤ 400 ∧ 1 ≤ sX ∧ sX ≤ 9999 ∧ x = nI aX ∧ y = nI pX ∧ z = nI sX ∧ sN (enT sg aX pX sX) = some tX ∧ r2 = nI tX ∧ w = (knK st, enT sg aX pX sX, knB st be sg))) : r1 = r2 ∧ aR a0 t0 nx st hq sg be u w := by
  rcases h1 with ⟨gUp, zUp, cUp, hp0, rfl, rfl⟩ | ⟨aXp, pXp, sXp, zZp, cCp, hp0, hp1, hp2, hp3, hp4, hp5, hp6, hp7, hp8, hp9, hp10, hp11, rfl, rfl⟩ | ⟨aXp, pXp, sXp, tXp, zZp, cCp, hp0, hp1, hp2, hp3, hp4, hp5, hp6, hp7, hp8, hp9, hp10, hp11, rfl, rfl⟩
  · rcases h2 with ⟨hq0, rfl, rfl⟩ | ⟨aXq, pXq, sXq, hq0, hq1, hq2, hq3, hq4, hq5, hq6, hq7, hq8, hq9, rfl, rfl⟩ | ⟨aXq, pXq, sXq, tXq, hq0, hq1, hq2, hq3, hq4, hq5, hq6, hq7, hq8, hq9, rfl, rfl⟩
    · exact ⟨rfl, Or.inl ⟨_, _, _, rfl, rfl⟩⟩
    · exact absurd ⟨_, _, _, hq0, hq1, hq2, hq3, hq4, hq5, hq6, hq7, hq8⟩ hp0
    · exact absurd ⟨_, _, _, hq0, hq1, hq2, hq3, hq4, hq5, hq6, hq7, hq8⟩ hp0
  · rcases h2 with ⟨hq0, rfl, rfl⟩ | ⟨aXq, pXq, sXq, hq0, hq1, hq2, hq3, hq4, hq5, hq6, hq7, hq8, hq9, rfl, rfl⟩ | ⟨aXq, pXq, sXq, tXq, hq0, hq1, hq2, hq3, hq4, hq5, hq6, hq7, hq8, hq9, rfl, rfl⟩
    · exact absurd ⟨_, _, _, hp0, hp1, hp2, hp3, hp4, hp5, hp6, hp7, hp8⟩ hq0
    · have zx := nI_inj (by omega) (by omega) (hp6.symm.trans hq6)
      subst zx
      have zy := nI_inj (by omega) (by omega) (hp7.symm.trans hq7)
      subst zy
      have zz := nI_inj (by omega) (by omega) (hp8.symm.trans hq8)
      subst zz
      exact ⟨rfl, Or.inr ⟨_, _, _, hp11, hp10, rfl, rfl⟩⟩
    · have zx := nI_inj (by omega) (by omega) (hp6.symm.trans hq6)
      subst zx
      have zy := nI_inj (by omega) (by omega) (hp7.symm.trans hq7)
      subst zy
      have zz := nI_inj (by omega) (by omega) (hp8.symm.trans hq8)
      subst zz
      exact absurd (hp9.symm.trans hq9) (by intro hh; cases hh)
  · rcases h2 with ⟨hq0, rfl, rfl⟩ | ⟨aXq, pXq, sXq, hq0, hq1, hq2, hq3, hq4, hq5, hq6, hq7, hq8, hq9, rfl, rfl⟩ | ⟨aXq, pXq, sXq, tXq, hq0, hq1, hq2, hq3, hq4, hq5, hq6, hq7, hq8, hq9, rfl, rfl⟩
    · exact absurd ⟨_, _, _, hp0, hp1, hp2, hp3, hp4, hp5, hp6, hp7, hp8⟩ hq0
    · have zx := nI_inj (by omega) (by omega) (hp6.symm.trans hq6)
      subst zx
      have zy := nI_inj (by omega) (by omega) (hp7.symm.trans hq7)
      subst zy
      have zz := nI_inj (by omega) (by omega) (hp8.symm.trans hq8)
      subst zz
      exact absurd (hp9.symm.trans hq9) (by intro hh; cases hh)
    · have zx := nI_inj (by omega) (by omega) (hp6.symm.trans hq6)
      subst zx
      have zy := nI_inj (by omega) (by omega) (hp7.symm.trans hq7)
      subst zy
      have zz := nI_inj (by omega) (by omega) (hp8.symm.trans hq8)
      subst zz
      have zs := Option.some.inj (hp9.symm.trans hq9)
      subst zs
      exact ⟨rfl, Or.inr ⟨_, _, _, hp11, hp10, rfl, rfl⟩⟩
theorem eq_touch {a0 t0 nx st : Nat} {hq sg be : Nat → Nat} {y : Int32} {r1 r2 : Int32} {u : (Nat → Nat) × (Nat → Nat) × (Nat → Nat) × Nat × Nat × Nat × Nat × (Nat → Nat)} {w : Nat × (Nat → Nat) × (Nat → Nat)} (hM : mOK sg) (h1 : (∃ (gU : Nat → Nat) (zU : Nat → Nat) (cU : Nat → Nat), sN sg = none ∧ r1 = (-4) ∧ u = (gU, zU, cU, a0, t0, nx, st, hq)) ∨ (∃ (tX : Nat) (gU : Nat → Nat) (zU : Nat → Nat) (cU : Nat → Nat), sN sg = some tX ∧ (¬ ∃ k : Nat, k < sg (11 + 76 * sg 0 + 15 * tX + 5) ∧ y = nI k) ∧ r1 = (-1) ∧ u = (gU, zU, cU, a0, t0, nx, st, hq)) ∨ (∃ (tX : Nat) (kX : Nat) (gU : Nat → Nat) (zU : Nat → Nat) (cU : Nat → Nat), sN sg = some tX ∧ kX < sg (11 + 76 * sg 0 + 15 * tX + 5) ∧ y = nI kX ∧ sg 5 < secs (sg (11 + 76 * sg 0 + 15 * tX + (6 + 3 * kX + 0))) (sg 4) ∧ r1 = (-5) ∧ u = (gU, zU, cU, a0, t0, nx, st, hq)) ∨ (∃ (tX : Nat) (kX : Nat) (zZ : Nat → Nat) (cC : Nat → Nat), sN sg = some tX ∧ kX < sg (11 + 76 * sg 0 + 15 * tX + 5) ∧ y = nI kX ∧ secs (sg (11 + 76 * sg 0 + 15 * tX + (6 + 3 * kX + 0))) (sg 4) ≤ sg 5 ∧ sRel zZ cC (tcT sg tX kX) ∧ mOK (tcT sg tX kX) ∧ r1 = nI (bitsN (tcT sg tX kX 6) 16) - nI (bitsN (sg 6) 16) ∧ u = (tcT sg tX kX, zZ, cC, t0, hq (nx &&& 3), nx + 1, min (st + 1) 4, arU hq (nx &&& 3) a0))) (h2 : (sN sg = none ∧ r2 = (-4) ∧ w = (st, sg, be)) ∨ (∃ (tX : Nat), sN sg = some tX ∧ (¬ ∃ k : Nat, k < sg (11 + 76 * sg 0 + 15 * tX + 5) ∧ y = nI k) ∧ r2 = (-1) ∧ w = (st, sg, be)) ∨ (∃ (tX : Nat) (kX : Nat), sN sg = some tX ∧ kX < sg (11 + 76 * sg 0 + 15 * tX + 5) ∧ y = nI kX ∧ sg 5 < secs (sg (11 + 76 * sg 0 + 15 * tX + (6 + 3 * kX + 0))) (sg 4) ∧ r2 = (-5) ∧ w = (st, sg, be)) ∨ (∃ (tX : Nat) (kX : Nat), sN sg = some tX ∧ kX < sg (11 + 76 * sg 0 + 15 * tX + 5) ∧ y = nI kX ∧ secs (sg (11 + 76 * sg 0 + 15 * tX + (6 + 3 * kX + 0))) (sg 4) ≤ sg 5 ∧ r2 = nI (bitsN (tcT sg tX kX 6) 16) - nI (bitsN (sg 6) 16) ∧ w = (knK st, tcT sg tX kX, knB st be sg))) : r1 = r2 ∧ aR a0 t0 nx st hq sg be u w := by
  rcases h1 with ⟨gUp, zUp, cUp, hp0, rfl, rfl⟩ | ⟨tXp, gUp, zUp, cUp, hp0, hp1, rfl, rfl⟩ | ⟨tXp, kXp, gUp, zUp, cUp, hp0, hp1, hp2, hp3, rfl, rfl⟩ | ⟨tXp, kXp, zZp, cCp, hp0, hp1, hp2, hp3, hp4, hp5, rfl, rfl⟩
  · rcases h2 with ⟨hq0, rfl, rfl⟩ | ⟨tXq, hq0, hq1, rfl, rfl⟩ | ⟨tXq, kXq, hq0, hq1, hq2, hq3, rfl, rfl⟩ | ⟨tXq, kXq, hq0, hq1, hq2, hq3, rfl, rfl⟩
    · exact ⟨rfl, Or.inl ⟨_, _, _, rfl, rfl⟩⟩
    · have mqe := hM.2.1 _ hM.1.1
      have mqt := (hM.2.2 _ _ hM.1.1 (sN_some hM hq0).2).2.2.2.2.1
      exact absurd (hp0.symm.trans hq0) (by intro hh; cases hh)
    · have mqe := hM.2.1 _ hM.1.1
      have mqt := (hM.2.2 _ _ hM.1.1 (sN_some hM hq0).2).2.2.2.2.1
      exact absurd (hp0.symm.trans hq0) (by intro hh; cases hh)
    · have mqe := hM.2.1 _ hM.1.1
      have mqt := (hM.2.2 _ _ hM.1.1 (sN_some hM hq0).2).2.2.2.2.1
      exact absurd (hp0.symm.trans hq0) (by intro hh; cases hh)
  · rcases h2 with ⟨hq0, rfl, rfl⟩ | ⟨tXq, hq0, hq1, rfl, rfl⟩ | ⟨tXq, kXq, hq0, hq1, hq2, hq3, rfl, rfl⟩ | ⟨tXq, kXq, hq0, hq1, hq2, hq3, rfl, rfl⟩
    · have mpe := hM.2.1 _ hM.1.1
      have mpt := (hM.2.2 _ _ hM.1.1 (sN_some hM hp0).2).2.2.2.2.1
      exact absurd (hp0.symm.trans hq0) (by intro hh; cases hh)
    · have mpe := hM.2.1 _ hM.1.1
      have mpt := (hM.2.2 _ _ hM.1.1 (sN_some hM hp0).2).2.2.2.2.1
      have mqe := hM.2.1 _ hM.1.1
      have mqt := (hM.2.2 _ _ hM.1.1 (sN_some hM hq0).2).2.2.2.2.1
      have zs := Option.some.inj (hp0.symm.trans hq0)
      subst zs
      exact ⟨rfl, Or.inl ⟨_, _, _, rfl, rfl⟩⟩
    · have mpe := hM.2.1 _ hM.1.1
      have mpt := (hM.2.2 _ _ hM.1.1 (sN_some hM hp0).2).2.2.2.2.1
      have mqe := hM.2.1 _ hM.1.1
      have mqt := (hM.2.2 _ _ hM.1.1 (sN_some hM hq0).2).2.2.2.2.1
      have zs := Option.some.inj (hp0.symm.trans hq0)
      subst zs
      exact absurd ⟨kXq, by omega, hq2⟩ hp1
    · have mpe := hM.2.1 _ hM.1.1
      have mpt := (hM.2.2 _ _ hM.1.1 (sN_some hM hp0).2).2.2.2.2.1
      have mqe := hM.2.1 _ hM.1.1
      have mqt := (hM.2.2 _ _ hM.1.1 (sN_some hM hq0).2).2.2.2.2.1
      have zs := Option.some.inj (hp0.symm.trans hq0)
      subst zs
      exact absurd ⟨kXq, by omega, hq2⟩ hp1
  · rcases h2 with ⟨hq0, rfl, rfl⟩ | ⟨tXq, hq0, hq1, rfl, rfl⟩ | ⟨tXq, kXq, hq0, hq1, hq2, hq3, rfl, rfl⟩ | ⟨tXq, kXq, hq0, hq1, hq2, hq3, rfl, rfl⟩
    · have mpe := hM.2.1 _ hM.1.1
      have mpt := (hM.2.2 _ _ hM.1.1 (sN_some hM hp0).2).2.2.2.2.1
      exact absurd (hp0.symm.trans hq0) (by intro hh; cases hh)
    · have mpe := hM.2.1 _ hM.1.1
      have mpt := (hM.2.2 _ _ hM.1.1 (sN_some hM hp0).2).2.2.2.2.1
      have mqe := hM.2.1 _ hM.1.1
      have mqt := (hM.2.2 _ _ hM.1.1 (sN_some hM hq0).2).2.2.2.2.1
      have zs := Option.some.inj (hp0.symm.trans hq0)
      subst zs
      exact absurd ⟨kXp, by omega, hp2⟩ hq1
    · have mpe := hM.2.1 _ hM.1.1
      have mpt := (hM.2.2 _ _ hM.1.1 (sN_some hM hp0).2).2.2.2.2.1
      have mqe := hM.2.1 _ hM.1.1
      have mqt := (hM.2.2 _ _ hM.1.1 (sN_some hM hq0).2).2.2.2.2.1
      have zs := Option.some.inj (hp0.symm.trans hq0)
      subst zs
      have zy := nI_inj (by omega) (by omega) (hp2.symm.trans hq2)
      subst zy
      exact ⟨rfl, Or.inl ⟨_, _, _, rfl, rfl⟩⟩
    · have mpe := hM.2.1 _ hM.1.1
      have mpt := (hM.2.2 _ _ hM.1.1 (sN_some hM hp0).2).2.2.2.2.1
      have mqe := hM.2.1 _ hM.1.1
      have mqt := (hM.2.2 _ _ hM.1.1 (sN_some hM hq0).2).2.2.2.2.1
      have zs := Option.some.inj (hp0.symm.trans hq0)
      subst zs
      have zy := nI_inj (by omega) (by omega) (hp2.symm.trans hq2)
      subst zy
      first | omega | contradiction | (simp_all; done)
  · rcases h2 with ⟨hq0, rfl, rfl⟩ | ⟨tXq, hq0, hq1, rfl, rfl⟩ | ⟨tXq, kXq, hq0, hq1, hq2, hq3, rfl, rfl⟩ | ⟨tXq, kXq, hq0, hq1, hq2, hq3, rfl, rfl⟩
    · have mpe := hM.2.1 _ hM.1.1
      have mpt := (hM.2.2 _ _ hM.1.1 (sN_some hM hp0).2).2.2.2.2.1
      exact absurd (hp0.symm.trans hq0) (by intro hh; cases hh)
    · have mpe := hM.2.1 _ hM.1.1
      have mpt := (hM.2.2 _ _ hM.1.1 (sN_some hM hp0).2).2.2.2.2.1
      have mqe := hM.2.1 _ hM.1.1
      have mqt := (hM.2.2 _ _ hM.1.1 (sN_some hM hq0).2).2.2.2.2.1
      have zs := Option.some.inj (hp0.symm.trans hq0)
      subst zs
      exact absurd ⟨kXp, by omega, hp2⟩ hq1
    · have mpe := hM.2.1 _ hM.1.1
      have mpt := (hM.2.2 _ _ hM.1.1 (sN_some hM hp0).2).2.2.2.2.1
      have mqe := hM.2.1 _ hM.1.1
      have mqt := (hM.2.2 _ _ hM.1.1 (sN_some hM hq0).2).2.2.2.2.1
      have zs := Option.some.inj (hp0.symm.trans hq0)
      subst zs
      have zy := nI_inj (by omega) (by omega) (hp2.symm.trans hq2)
      subst zy
      first | omega | contradiction | (simp_all; done)
    · have mpe := hM.2.1 _ hM.1.1
      have mpt := (hM.2.2 _ _ hM.1.1 (sN_some hM hp0).2).2.2.2.2.1
      have mqe := hM.2.1 _ hM.1.1
      have mqt := (hM.2.2 _ _ hM.1.1 (sN_some hM hq0).2).2.2.2.2.1
      have zs := Option.some.inj (hp0.symm.trans hq0)
      subst zs
      have zy := nI_inj (by omega) (by omega) (hp2.symm.trans hq2)
      subst zy
      exact ⟨rfl, Or.inr ⟨_, _, _, hp5, hp4, rfl, rfl⟩⟩
theorem eq_read {a0 t0 nx st : Nat} {hq sg be : Nat → Nat} {r1 r2 : Int32} {u : (Nat → Nat) × (Nat → Nat) × (Nat → Nat) × Nat × Nat × Nat × Nat × (Nat → Nat)} {w : Nat × (Nat → Nat) × (Nat → Nat)} (hM : mOK sg) (h1 : (∃ (gU : Nat → Nat) (zU : Nat → Nat) (cU : Nat → Nat), sN sg = none ∧ r1 = (-4) ∧ u = (gU, zU, cU, a0, t0, nx, st, hq)) ∨ (∃ (tX : Nat) (gU : Nat → Nat) (zU : Nat → Nat) (cU : Nat → Nat), sN sg = some tX ∧ 0 < sg (11 + 76 * sg 0 + 15 * tX + 5) ∧ r1 = (-4) ∧ u = (gU, zU, cU, a0, t0, nx, st, hq)) ∨ (∃ (tX : Nat) (gU : Nat → Nat) (zU : Nat → Nat) (cU : Nat → Nat), sN sg = some tX ∧ sg (11 + 76 * sg 0 + 15 * tX + 5) = 0 ∧ ¬ canR sg tX ∧ r1 = (-5) ∧ u = (gU, zU, cU, a0, t0, nx, st, hq)) ∨ (∃ (tX : Nat) (zZ : Nat → Nat) (cC : Nat → Nat), sN sg = some tX ∧ sg (11 + 76 * sg 0 + 15 * tX + 5) = 0 ∧ canR sg tX ∧ sRel zZ cC (rdT sg tX) ∧ mOK (rdT sg tX) ∧ r1 = nI (bitsN (rdT sg tX 6) 16) - nI (bitsN (sg 6) 16) ∧ u = (rdT sg tX, zZ, cC, t0, hq (nx &&& 3), nx + 1, min (st + 1) 4, arU hq (nx &&& 3) a0))) (h2 : (sN sg = none ∧ r2 = (-4) ∧ w = (st, sg, be)) ∨ (∃ (tX : Nat), sN sg = some tX ∧ 0 < sg (11 + 76 * sg 0 + 15 * tX + 5) ∧ r2 = (-4) ∧ w = (st, sg, be)) ∨ (∃ (tX : Nat), sN sg = some tX ∧ sg (11 + 76 * sg 0 + 15 * tX + 5) = 0 ∧ ¬ canR sg tX ∧ r2 = (-5) ∧ w = (st, sg, be)) ∨ (∃ (tX : Nat), sN sg = some tX ∧ sg (11 + 76 * sg 0 + 15 * tX + 5) = 0 ∧ canR sg tX ∧ r2 = nI (bitsN (rdT sg tX 6) 16) - nI (bitsN (sg 6) 16) ∧ w = (knK st, rdT sg tX, knB st be sg))) : r1 = r2 ∧ aR a0 t0 nx st hq sg be u w := by
  rcases h1 with ⟨gUp, zUp, cUp, hp0, rfl, rfl⟩ | ⟨tXp, gUp, zUp, cUp, hp0, hp1, rfl, rfl⟩ | ⟨tXp, gUp, zUp, cUp, hp0, hp1, hp2, rfl, rfl⟩ | ⟨tXp, zZp, cCp, hp0, hp1, hp2, hp3, hp4, rfl, rfl⟩
  · rcases h2 with ⟨hq0, rfl, rfl⟩ | ⟨tXq, hq0, hq1, rfl, rfl⟩ | ⟨tXq, hq0, hq1, hq2, rfl, rfl⟩ | ⟨tXq, hq0, hq1, hq2, rfl, rfl⟩
    · exact ⟨rfl, Or.inl ⟨_, _, _, rfl, rfl⟩⟩
    · have mqe := hM.2.1 _ hM.1.1
      have mqt := (hM.2.2 _ _ hM.1.1 (sN_some hM hq0).2).2.2.2.2.1
      exact absurd (hp0.symm.trans hq0) (by intro hh; cases hh)
    · have mqe := hM.2.1 _ hM.1.1
      have mqt := (hM.2.2 _ _ hM.1.1 (sN_some hM hq0).2).2.2.2.2.1
      exact absurd (hp0.symm.trans hq0) (by intro hh; cases hh)
    · have mqe := hM.2.1 _ hM.1.1
      have mqt := (hM.2.2 _ _ hM.1.1 (sN_some hM hq0).2).2.2.2.2.1
      exact absurd (hp0.symm.trans hq0) (by intro hh; cases hh)
  · rcases h2 with ⟨hq0, rfl, rfl⟩ | ⟨tXq, hq0, hq1, rfl, rfl⟩ | ⟨tXq, hq0, hq1, hq2, rfl, rfl⟩ | ⟨tXq, hq0, hq1, hq2, rfl, rfl⟩
    · have mpe := hM.2.1 _ hM.1.1
      have mpt := (hM.2.2 _ _ hM.1.1 (sN_some hM hp0).2).2.2.2.2.1
      exact absurd (hp0.symm.trans hq0) (by intro hh; cases hh)
    · have mpe := hM.2.1 _ hM.1.1
      have mpt := (hM.2.2 _ _ hM.1.1 (sN_some hM hp0).2).2.2.2.2.1
      have mqe := hM.2.1 _ hM.1.1
      have mqt := (hM.2.2 _ _ hM.1.1 (sN_some hM hq0).2).2.2.2.2.1
      have zs := Option.some.inj (hp0.symm.trans hq0)
      subst zs
      exact ⟨rfl, Or.inl ⟨_, _, _, rfl, rfl⟩⟩
    · have mpe := hM.2.1 _ hM.1.1
      have mpt := (hM.2.2 _ _ hM.1.1 (sN_some hM hp0).2).2.2.2.2.1
      have mqe := hM.2.1 _ hM.1.1
      have mqt := (hM.2.2 _ _ hM.1.1 (sN_some hM hq0).2).2.2.2.2.1
      have zs := Option.some.inj (hp0.symm.trans hq0)
      subst zs
      first | omega | contradiction | (simp_all; done)
    · have mpe := hM.2.1 _ hM.1.1
      have mpt := (hM.2.2 _ _ hM.1.1 (sN_some hM hp0).2).2.2.2.2.1
      have mqe := hM.2.1 _ hM.1.1
      have mqt := (hM.2.2 _ _ hM.1.1 (sN_some hM hq0).2).2.2.2.2.1
      have zs := Option.some.inj (hp0.symm.trans hq0)
      subst zs
      first | omega | contradiction | (simp_all; done)
  · rcases h2 with ⟨hq0, rfl, rfl⟩ | ⟨tXq, hq0, hq1, rfl, rfl⟩ | ⟨tXq, hq0, hq1, hq2, rfl, rfl⟩ | ⟨tXq, hq0, hq1, hq2, rfl, rfl⟩
    · have mpe := hM.2.1 _ hM.1.1
      have mpt := (hM.2.2 _ _ hM.1.1 (sN_some hM hp0).2).2.2.2.2.1
      exact absurd (hp0.symm.trans hq0) (by intro hh; cases hh)
    · have mpe := hM.2.1 _ hM.1.1
      have mpt := (hM.2.2 _ _ hM.1.1 (sN_some hM hp0).2).2.2.2.2.1
      have mqe := hM.2.1 _ hM.1.1
      have mqt := (hM.2.2 _ _ hM.1.1 (sN_some hM hq0).2).2.2.2.2.1
      have zs := Option.some.inj (hp0.symm.trans hq0)
      subst zs
      first | omega | contradiction | (simp_all; done)
    · have mpe := hM.2.1 _ hM.1.1
      have mpt := (hM.2.2 _ _ hM.1.1 (sN_some hM hp0).2).2.2.2.2.1
      have mqe := hM.2.1 _ hM.1.1
      have mqt := (hM.2.2 _ _ hM.1.1 (sN_some hM hq0).2).2.2.2.2.1
      have zs := Option.some.inj (hp0.symm.trans hq0)
      subst zs
      exact ⟨rfl, Or.inl ⟨_, _, _, rfl, rfl⟩⟩
    · have mpe := hM.2.1 _ hM.1.1
      have mpt := (hM.2.2 _ _ hM.1.1 (sN_some hM hp0).2).2.2.2.2.1
      have mqe := hM.2.1 _ hM.1.1
      have mqt := (hM.2.2 _ _ hM.1.1 (sN_some hM hq0).2).2.2.2.2.1
      have zs := Option.some.inj (hp0.symm.trans hq0)
      subst zs
      exact absurd hq2 hp2
  · rcases h2 with ⟨hq0, rfl, rfl⟩ | ⟨tXq, hq0, hq1, rfl, rfl⟩ | ⟨tXq, hq0, hq1, hq2, rfl, rfl⟩ | ⟨tXq, hq0, hq1, hq2, rfl, rfl⟩
    · have mpe := hM.2.1 _ hM.1.1
      have mpt := (hM.2.2 _ _ hM.1.1 (sN_some hM hp0).2).2.2.2.2.1
      exact absurd (hp0.symm.trans hq0) (by intro hh; cases hh)
    · have mpe := hM.2.1 _ hM.1.1
      have mpt := (hM.2.2 _ _ hM.1.1 (sN_some hM hp0).2).2.2.2.2.1
      have mqe := hM.2.1 _ hM.1.1
      have mqt := (hM.2.2 _ _ hM.1.1 (sN_some hM hq0).2).2.2.2.2.1
      have zs := Option.some.inj (hp0.symm.trans hq0)
      subst zs
      first | omega | contradiction | (simp_all; done)
    · have mpe := hM.2.1 _ hM.1.1
      have mpt := (hM.2.2 _ _ hM.1.1 (sN_some hM hp0).2).2.2.2.2.1
      have mqe := hM.2.1 _ hM.1.1
      have mqt := (hM.2.2 _ _ hM.1.1 (sN_some hM hq0).2).2.2.2.2.1
      have zs := Option.some.inj (hp0.symm.trans hq0)
      subst zs
      exact absurd hp2 hq2
    · have mpe := hM.2.1 _ hM.1.1
      have mpt := (hM.2.2 _ _ hM.1.1 (sN_some hM hp0).2).2.2.2.2.1
      have mqe := hM.2.1 _ hM.1.1
      have mqt := (hM.2.2 _ _ hM.1.1 (sN_some hM hq0).2).2.2.2.2.1
      have zs := Option.some.inj (hp0.symm.trans hq0)
      subst zs
      exact ⟨rfl, Or.inr ⟨_, _, _, hp4, hp3, rfl, rfl⟩⟩
theorem eq_turn1 {a0 t0 nx st : Nat} {hq sg be : Nat → Nat} {r1 r2 : Int32} {u : (Nat → Nat) × (Nat → Nat) × (Nat → Nat) × Nat × Nat × Nat × Nat × (Nat → Nat)} {w : Nat × (Nat → Nat) × (Nat → Nat)} (hM : mOK sg) (h1 : ∃ (zZ : Nat → Nat) (cC : Nat → Nat), sRel zZ cC (tuT sg 1) ∧ mOK (tuT sg 1) ∧ r1 = nI ((sg 0 + 1) % 8) ∧ u = (tuT sg 1, zZ, cC, t0, hq (nx &&& 3), nx + 1, min (st + 1) 4, arU hq (nx &&& 3) a0)) (h2 : r2 = nI ((sg 0 + 1) % 8) ∧ w = (knK st, tuT sg 1, knB st be sg)) : r1 = r2 ∧ aR a0 t0 nx st hq sg be u w := by
  rcases h1 with ⟨zZp, cCp, hp0, hp1, rfl, rfl⟩
  · rcases h2 with ⟨rfl, rfl⟩
    · exact ⟨rfl, Or.inr ⟨_, _, _, hp1, hp0, rfl, rfl⟩⟩
theorem eq_turn0 {a0 t0 nx st : Nat} {hq sg be : Nat → Nat} {r1 r2 : Int32} {u : (Nat → Nat) × (Nat → Nat) × (Nat → Nat) × Nat × Nat × Nat × Nat × (Nat → Nat)} {w : Nat × (Nat → Nat) × (Nat → Nat)} (hM : mOK sg) (h1 : ∃ (zZ : Nat → Nat) (cC : Nat → Nat), sRel zZ cC (tuT sg 7) ∧ mOK (tuT sg 7) ∧ r1 = nI ((sg 0 + 7) % 8) ∧ u = (tuT sg 7, zZ, cC, t0, hq (nx &&& 3), nx + 1, min (st + 1) 4, arU hq (nx &&& 3) a0)) (h2 : r2 = nI ((sg 0 + 7) % 8) ∧ w = (knK st, tuT sg 7, knB st be sg)) : r1 = r2 ∧ aR a0 t0 nx st hq sg be u w := by
  rcases h1 with ⟨zZp, cCp, hp0, hp1, rfl, rfl⟩
  · rcases h2 with ⟨rfl, rfl⟩
    · exact ⟨rfl, Or.inr ⟨_, _, _, hp1, hp0, rfl, rfl⟩⟩
theorem eq_setTurning {a0 t0 nx st : Nat} {hq sg be : Nat → Nat} {x : Int32} {r1 r2 : Int32} {u : (Nat → Nat) × (Nat → Nat) × (Nat → Nat) × Nat × Nat × Nat × Nat × (Nat → Nat)} {w : Nat × (Nat → Nat) × (Nat → Nat)} (hM : mOK sg) (h1 : (∃ (gU : Nat → Nat) (zU : Nat → Nat) (cU : Nat → Nat), (¬ ∃ n : Nat, 0 ≤ n ∧ n ≤ 60 ∧ x = nI n) ∧ r1 = (-2) ∧ u = (gU, zU, cU, a0, t0, nx, st, hq)) ∨ (∃ (nX : Nat) (gU : Nat → Nat) (zU : Nat → Nat) (cU : Nat → Nat), nX ≤ 60 ∧ x = nI nX ∧ sg 1 = nX ∧ r1 = (-5) ∧ u = (gU, zU, cU, a0, t0, nx, st, hq)) ∨ (∃ (nX : Nat) (zZ : Nat → Nat) (cC : Nat → Nat), nX ≤ 60 ∧ x = nI nX ∧ sg 1 ≠ nX ∧ sRel zZ cC (arU sg 1 nX) ∧ mOK (arU sg 1 nX) ∧ r1 = nI (sg 1) ∧ u = (arU sg 1 nX, zZ, cC, t0, hq (nx &&& 3), nx + 1, min (st + 1) 4, arU hq (nx &&& 3) a0))) (h2 : ((¬ ∃ n : Nat, 0 ≤ n ∧ n ≤ 60 ∧ x = nI n) ∧ r2 = (-2) ∧ w = (st, sg, be)) ∨ (∃ (nX : Nat), nX ≤ 60 ∧ x = nI nX ∧ sg 1 = nX ∧ r2 = (-5) ∧ w = (st, sg, be)) ∨ (∃ (nX : Nat), nX ≤ 60 ∧ x = nI nX ∧ sg 1 ≠ nX ∧ r2 = nI (sg 1) ∧ w = (knK st, arU sg 1 nX, knB st be sg))) : r1 = r2 ∧ aR a0 t0 nx st hq sg be u w := by
  rcases h1 with ⟨gUp, zUp, cUp, hp0, rfl, rfl⟩ | ⟨nXp, gUp, zUp, cUp, hp0, hp1, hp2, rfl, rfl⟩ | ⟨nXp, zZp, cCp, hp0, hp1, hp2, hp3, hp4, rfl, rfl⟩
  · rcases h2 with ⟨hq0, rfl, rfl⟩ | ⟨nXq, hq0, hq1, hq2, rfl, rfl⟩ | ⟨nXq, hq0, hq1, hq2, rfl, rfl⟩
    · exact ⟨rfl, Or.inl ⟨_, _, _, rfl, rfl⟩⟩
    · exact absurd ⟨nXq, by omega, by omega, hq1⟩ hp0
    · exact absurd ⟨nXq, by omega, by omega, hq1⟩ hp0
  · rcases h2 with ⟨hq0, rfl, rfl⟩ | ⟨nXq, hq0, hq1, hq2, rfl, rfl⟩ | ⟨nXq, hq0, hq1, hq2, rfl, rfl⟩
    · exact absurd ⟨nXp, by omega, by omega, hp1⟩ hq0
    · have zx := nI_inj (by omega) (by omega) (hp1.symm.trans hq1)
      subst zx
      exact ⟨rfl, Or.inl ⟨_, _, _, rfl, rfl⟩⟩
    · have zx := nI_inj (by omega) (by omega) (hp1.symm.trans hq1)
      subst zx
      first | omega | contradiction | (simp_all; done)
  · rcases h2 with ⟨hq0, rfl, rfl⟩ | ⟨nXq, hq0, hq1, hq2, rfl, rfl⟩ | ⟨nXq, hq0, hq1, hq2, rfl, rfl⟩
    · exact absurd ⟨nXp, by omega, by omega, hp1⟩ hq0
    · have zx := nI_inj (by omega) (by omega) (hp1.symm.trans hq1)
      subst zx
      first | omega | contradiction | (simp_all; done)
    · have zx := nI_inj (by omega) (by omega) (hp1.symm.trans hq1)
      subst zx
      exact ⟨rfl, Or.inr ⟨_, _, _, hp4, hp3, rfl, rfl⟩⟩
theorem eq_text {st pn : Nat} {sg : Nat → Nat} {x y z : Int32} {r1 r2 : Int32} (hM : mOK sg) (h1 : (¬ pTn (szF sg) x y ∧ r1 = (-1)) ∨ (∃ (eX : Nat) (tX : Nat), eX < 8 ∧ tX < sg (10 + 76 * eX) ∧ x = nI eX ∧ y = nI tX ∧ z = nI 0 ∧ r1 = nI (sg (11 + 76 * eX + 15 * tX + 0))) ∨ (∃ (eX : Nat) (tX : Nat), eX < 8 ∧ tX < sg (10 + 76 * eX) ∧ x = nI eX ∧ y = nI tX ∧ z = nI 1 ∧ r1 = nI (sg (11 + 76 * eX + 15 * tX + 1))) ∨ (∃ (eX : Nat) (tX : Nat), eX < 8 ∧ tX < sg (10 + 76 * eX) ∧ x = nI eX ∧ y = nI tX ∧ z = nI 2 ∧ r1 = nI (sg (11 + 76 * eX + 15 * tX + 2))) ∨ (∃ (eX : Nat) (tX : Nat), eX < 8 ∧ tX < sg (10 + 76 * eX) ∧ x = nI eX ∧ y = nI tX ∧ z = nI 3 ∧ r1 = nI (sg (11 + 76 * eX + 15 * tX + 3))) ∨ (∃ (eX : Nat) (tX : Nat), eX < 8 ∧ tX < sg (10 + 76 * eX) ∧ x = nI eX ∧ y = nI tX ∧ z = nI 4 ∧ r1 = nI (rdg sg eX tX)) ∨ (∃ (eX : Nat) (tX : Nat), eX < 8 ∧ tX < sg (10 + 76 * eX) ∧ x = nI eX ∧ y = nI tX ∧ z = nI 5 ∧ r1 = nI (sg (11 + 76 * eX + 15 * tX + 5))) ∨ (∃ (eX : Nat) (tX : Nat), eX < 8 ∧ tX < sg (10 + 76 * eX) ∧ x = nI eX ∧ y = nI tX ∧ z = nI 6 ∧ r1 = nI (sg (11 + 76 * eX + 15 * tX + 4))) ∨ (∃ (eX : Nat) (tX : Nat), eX < 8 ∧ tX < sg (10 + 76 * eX) ∧ x = nI eX ∧ y = nI tX ∧ (¬ ∃ k : Nat, k < 7 ∧ z = nI k) ∧ r1 = (-2))) (h2 : (¬ pTn (szF sg) x y ∧ r2 = (-1)) ∨ (∃ (eX : Nat) (tX : Nat), eX < 8 ∧ tX < sg (10 + 76 * eX) ∧ x = nI eX ∧ y = nI tX ∧ z = nI 0 ∧ r2 = nI (sg (11 + 76 * eX + 15 * tX + 0))) ∨ (∃ (eX : Nat) (tX : Nat), eX < 8 ∧ tX < sg (10 + 76 * eX) ∧ x = nI eX ∧ y = nI tX ∧ z = nI 1 ∧ r2 = nI (sg (11 + 76 * eX + 15 * tX + 1))) ∨ (∃ (eX : Nat) (tX : Nat), eX < 8 ∧ tX < sg (10 + 76 * eX) ∧ x = nI eX ∧ y = nI tX ∧ z = nI 2 ∧ r2 = nI (sg (11 + 76 * eX + 15 * tX + 2))) ∨ (∃ (eX : Nat) (tX : Nat), eX < 8 ∧ tX < sg (10 + 76 * eX) ∧ x = nI eX ∧ y = nI tX ∧ z = nI 3 ∧ r2 = nI (sg (11 + 76 * eX + 15 * tX + 3))) ∨ (∃ (eX : Nat) (tX : Nat), eX < 8 ∧ tX < sg (10 + 76 * eX) ∧ x = nI eX ∧ y = nI tX ∧ z = nI 4 ∧ r2 = nI (rdg sg eX tX)) ∨ (∃ (eX : Nat) (tX : Nat), eX < 8 ∧ tX < sg (10 + 76 * eX) ∧ x = nI eX ∧ y = nI tX ∧ z = nI 5 ∧ r2 = nI (sg (11 + 76 * eX + 15 * tX + 5))) ∨ (∃ (eX : Nat) (tX : Nat), eX < 8 ∧ tX < sg (10 + 76 * eX) ∧ x = nI eX ∧ y = nI tX ∧ z = nI 6 ∧ r2 = nI (sg (11 + 76 * eX + 15 * tX + 4))) ∨ (∃ (eX : Nat) (tX : Nat), eX < 8 ∧ tX < sg (10 + 76 * eX) ∧ x = nI eX ∧ y = nI tX ∧ (¬ ∃ k : Nat, k < 7 ∧ z = nI k) ∧ r2 = (-2))) : r1 = r2 := by
  rcases h1 with ⟨hp0, rfl⟩ | ⟨eXp, tXp, hp0, hp1, hp2, hp3, hp4, rfl⟩ | ⟨eXp, tXp, hp0, hp1, hp2, hp3, hp4, rfl⟩ | ⟨eXp, tXp, hp0, hp1, hp2, hp3, hp4, rfl⟩ | ⟨eXp, tXp, hp0, hp1, hp2, hp3, hp4, rfl⟩ | ⟨eXp, tXp, hp0, hp1, hp2, hp3, hp4, rfl⟩ | ⟨eXp, tXp, hp0, hp1, hp2, hp3, hp4, rfl⟩ | ⟨eXp, tXp, hp0, hp1, hp2, hp3, hp4, rfl⟩ | ⟨eXp, tXp, hp0, hp1, hp2, hp3, hp4, rfl⟩
  · rcases h2 with ⟨hq0, rfl⟩ | ⟨eXq, tXq, hq0, hq1, hq2, hq3, hq4, rfl⟩ | ⟨eXq, tXq, hq0, hq1, hq2, hq3, hq4, rfl⟩ | ⟨eXq, tXq, hq0, hq1, hq2, hq3, hq4, rfl⟩ | ⟨eXq, tXq, hq0, hq1, hq2, hq3, hq4, rfl⟩ | ⟨eXq, tXq, hq0, hq1, hq2, hq3, hq4, rfl⟩ | ⟨eXq, tXq, hq0, hq1, hq2, hq3, hq4, rfl⟩ | ⟨eXq, tXq, hq0, hq1, hq2, hq3, hq4, rfl⟩ | ⟨eXq, tXq, hq0, hq1, hq2, hq3, hq4, rfl⟩
    · rfl
    · have mqe := hM.2.1 _ hq0
      have mqt := (hM.2.2 _ _ hq0 hq1).2.2.2.2.1
      exact absurd ⟨_, _, hq0, hq1, hq2, hq3⟩ hp0
    · have mqe := hM.2.1 _ hq0
      have mqt := (hM.2.2 _ _ hq0 hq1).2.2.2.2.1
      exact absurd ⟨_, _, hq0, hq1, hq2, hq3⟩ hp0
    · have mqe := hM.2.1 _ hq0
      have mqt := (hM.2.2 _ _ hq0 hq1).2.2.2.2.1
      exact absurd ⟨_, _, hq0, hq1, hq2, hq3⟩ hp0
    · have mqe := hM.2.1 _ hq0
      have mqt := (hM.2.2 _ _ hq0 hq1).2.2.2.2.1
      exact absurd ⟨_, _, hq0, hq1, hq2, hq3⟩ hp0
    · have mqe := hM.2.1 _ hq0
      have mqt := (hM.2.2 _ _ hq0 hq1).2.2.2.2.1
      exact absurd ⟨_, _, hq0, hq1, hq2, hq3⟩ hp0
    · have mqe := hM.2.1 _ hq0
      have mqt := (hM.2.2 _ _ hq0 hq1).2.2.2.2.1
      exact absurd ⟨_, _, hq0, hq1, hq2, hq3⟩ hp0
    · have mqe := hM.2.1 _ hq0
      have mqt := (hM.2.2 _ _ hq0 hq1).2.2.2.2.1
      exact absurd ⟨_, _, hq0, hq1, hq2, hq3⟩ hp0
    · have mqe := hM.2.1 _ hq0
      have mqt := (hM.2.2 _ _ hq0 hq1).2.2.2.2.1
      exact absurd ⟨_, _, hq0, hq1, hq2, hq3⟩ hp0
  · rcases h2 with ⟨hq0, rfl⟩ | ⟨eXq, tXq, hq0, hq1, hq2, hq3, hq4, rfl⟩ | ⟨eXq, tXq, hq0, hq1, hq2, hq3, hq4, rfl⟩ | ⟨eXq, tXq, hq0, hq1, hq2, hq3, hq4, rfl⟩ | ⟨eXq, tXq, hq0, hq1, hq2, hq3, hq4, rfl⟩ | ⟨eXq, tXq, hq0, hq1, hq2, hq3, hq4, rfl⟩ | ⟨eXq, tXq, hq0, hq1, hq2, hq3, hq4, rfl⟩ | ⟨eXq, tXq, hq0, hq1, hq2, hq3, hq4, rfl⟩ | ⟨eXq, tXq, hq0, hq1, hq2, hq3, hq4, rfl⟩
    · have mpe := hM.2.1 _ hp0
      have mpt := (hM.2.2 _ _ hp0 hp1).2.2.2.2.1
      exact absurd ⟨_, _, hp0, hp1, hp2, hp3⟩ hq0
    · have mpe := hM.2.1 _ hp0
      have mpt := (hM.2.2 _ _ hp0 hp1).2.2.2.2.1
      have mqe := hM.2.1 _ hq0
      have mqt := (hM.2.2 _ _ hq0 hq1).2.2.2.2.1
      have zx := nI_inj (by omega) (by omega) (hp2.symm.trans hq2)
      subst zx
      have zy := nI_inj (by omega) (by omega) (hp3.symm.trans hq3)
      subst zy
      rfl
    · have mpe := hM.2.1 _ hp0
      have mpt := (hM.2.2 _ _ hp0 hp1).2.2.2.2.1
      have mqe := hM.2.1 _ hq0
      have mqt := (hM.2.2 _ _ hq0 hq1).2.2.2.2.1
      have zx := nI_inj (by omega) (by omega) (hp2.symm.trans hq2)
      subst zx
      have zy := nI_inj (by omega) (by omega) (hp3.symm.trans hq3)
      subst zy
      have zz := nI_inj (by omega) (by omega) (hp4.symm.trans hq4)
      exact absurd zz (by decide)
    · have mpe := hM.2.1 _ hp0
      have mpt := (hM.2.2 _ _ hp0 hp1).2.2.2.2.1
      have mqe := hM.2.1 _ hq0
      have mqt := (hM.2.2 _ _ hq0 hq1).2.2.2.2.1
      have zx := nI_inj (by omega) (by omega) (hp2.symm.trans hq2)
      subst zx
      have zy := nI_inj (by omega) (by omega) (hp3.symm.trans hq3)
      subst zy
      have zz := nI_inj (by omega) (by omega) (hp4.symm.trans hq4)
      exact absurd zz (by decide)
    · have mpe := hM.2.1 _ hp0
      have mpt := (hM.2.2 _ _ hp0 hp1).2.2.2.2.1
      have mqe := hM.2.1 _ hq0
      have mqt := (hM.2.2 _ _ hq0 hq1).2.2.2.2.1
      have zx := nI_inj (by omega) (by omega) (hp2.symm.trans hq2)
      subst zx
      have zy := nI_inj (by omega) (by omega) (hp3.symm.trans hq3)
      subst zy
      have zz := nI_inj (by omega) (by omega) (hp4.symm.trans hq4)
      exact absurd zz (by decide)
    · have mpe := hM.2.1 _ hp0
      have mpt := (hM.2.2 _ _ hp0 hp1).2.2.2.2.1
      have mqe := hM.2.1 _ hq0
      have mqt := (hM.2.2 _ _ hq0 hq1).2.2.2.2.1
      have zx := nI_inj (by omega) (by omega) (hp2.symm.trans hq2)
      subst zx
      have zy := nI_inj (by omega) (by omega) (hp3.symm.trans hq3)
      subst zy
      have zz := nI_inj (by omega) (by omega) (hp4.symm.trans hq4)
      exact absurd zz (by decide)
    · have mpe := hM.2.1 _ hp0
      have mpt := (hM.2.2 _ _ hp0 hp1).2.2.2.2.1
      have mqe := hM.2.1 _ hq0
      have mqt := (hM.2.2 _ _ hq0 hq1).2.2.2.2.1
      have zx := nI_inj (by omega) (by omega) (hp2.symm.trans hq2)
      subst zx
      have zy := nI_inj (by omega) (by omega) (hp3.symm.trans hq3)
      subst zy
      have zz := nI_inj (by omega) (by omega) (hp4.symm.trans hq4)
      exact absurd zz (by decide)
    · have mpe := hM.2.1 _ hp0
      have mpt := (hM.2.2 _ _ hp0 hp1).2.2.2.2.1
      have mqe := hM.2.1 _ hq0
      have mqt := (hM.2.2 _ _ hq0 hq1).2.2.2.2.1
      have zx := nI_inj (by omega) (by omega) (hp2.symm.trans hq2)
      subst zx
      have zy := nI_inj (by omega) (by omega) (hp3.symm.trans hq3)
      subst zy
      have zz := nI_inj (by omega) (by omega) (hp4.symm.trans hq4)
      exact absurd zz (by decide)
    · have mpe := hM.2.1 _ hp0
      have mpt := (hM.2.2 _ _ hp0 hp1).2.2.2.2.1
      have mqe := hM.2.1 _ hq0
      have mqt := (hM.2.2 _ _ hq0 hq1).2.2.2.2.1
      have zx := nI_inj (by omega) (by omega) (hp2.symm.trans hq2)
      subst zx
      have zy := nI_inj (by omega) (by omega) (hp3.symm.trans hq3)
      subst zy
      exact absurd ⟨0, by omega, hp4⟩ hq4
  · rcases h2 with ⟨hq0, rfl⟩ | ⟨eXq, tXq, hq0, hq1, hq2, hq3, hq4, rfl⟩ | ⟨eXq, tXq, hq0, hq1, hq2, hq3, hq4, rfl⟩ | ⟨eXq, tXq, hq0, hq1, hq2, hq3, hq4, rfl⟩ | ⟨eXq, tXq, hq0, hq1, hq2, hq3, hq4, rfl⟩ | ⟨eXq, tXq, hq0, hq1, hq2, hq3, hq4, rfl⟩ | ⟨eXq, tXq, hq0, hq1, hq2, hq3, hq4, rfl⟩ | ⟨eXq, tXq, hq0, hq1, hq2, hq3, hq4, rfl⟩ | ⟨eXq, tXq, hq0, hq1, hq2, hq3, hq4, rfl⟩
    · have mpe := hM.2.1 _ hp0
      have mpt := (hM.2.2 _ _ hp0 hp1).2.2.2.2.1
      exact absurd ⟨_, _, hp0, hp1, hp2, hp3⟩ hq0
    · have mpe := hM.2.1 _ hp0
      have mpt := (hM.2.2 _ _ hp0 hp1).2.2.2.2.1
      have mqe := hM.2.1 _ hq0
      have mqt := (hM.2.2 _ _ hq0 hq1).2.2.2.2.1
      have zx := nI_inj (by omega) (by omega) (hp2.symm.trans hq2)
      subst zx
      have zy := nI_inj (by omega) (by omega) (hp3.symm.trans hq3)
      subst zy
      have zz := nI_inj (by omega) (by omega) (hp4.symm.trans hq4)
      exact absurd zz (by decide)
    · have mpe := hM.2.1 _ hp0
      have mpt := (hM.2.2 _ _ hp0 hp1).2.2.2.2.1
      have mqe := hM.2.1 _ hq0
      have mqt := (hM.2.2 _ _ hq0 hq1).2.2.2.2.1
      have zx := nI_inj (by omega) (by omega) (hp2.symm.trans hq2)
      subst zx
      have zy := nI_inj (by omega) (by omega) (hp3.symm.trans hq3)
      subst zy
      rfl
    · have mpe := hM.2.1 _ hp0
      have mpt := (hM.2.2 _ _ hp0 hp1).2.2.2.2.1
      have mqe := hM.2.1 _ hq0
      have mqt := (hM.2.2 _ _ hq0 hq1).2.2.2.2.1
      have zx := nI_inj (by omega) (by omega) (hp2.symm.trans hq2)
      subst zx
      have zy := nI_inj (by omega) (by omega) (hp3.symm.trans hq3)
      subst zy
      have zz := nI_inj (by omega) (by omega) (hp4.symm.trans hq4)
      exact absurd zz (by decide)
    · have mpe := hM.2.1 _ hp0
      have mpt := (hM.2.2 _ _ hp0 hp1).2.2.2.2.1
      have mqe := hM.2.1 _ hq0
      have mqt := (hM.2.2 _ _ hq0 hq1).2.2.2.2.1
      have zx := nI_inj (by omega) (by omega) (hp2.symm.trans hq2)
      subst zx
      have zy := nI_inj (by omega) (by omega) (hp3.symm.trans hq3)
      subst zy
      have zz := nI_inj (by omega) (by omega) (hp4.symm.trans hq4)
      exact absurd zz (by decide)
    · have mpe := hM.2.1 _ hp0
      have mpt := (hM.2.2 _ _ hp0 hp1).2.2.2.2.1
      have mqe := hM.2.1 _ hq0
      have mqt := (hM.2.2 _ _ hq0 hq1).2.2.2.2.1
      have zx := nI_inj (by omega) (by omega) (hp2.symm.trans hq2)
      subst zx
      have zy := nI_inj (by omega) (by omega) (hp3.symm.trans hq3)
      subst zy
      have zz := nI_inj (by omega) (by omega) (hp4.symm.trans hq4)
      exact absurd zz (by decide)
    · have mpe := hM.2.1 _ hp0
      have mpt := (hM.2.2 _ _ hp0 hp1).2.2.2.2.1
      have mqe := hM.2.1 _ hq0
      have mqt := (hM.2.2 _ _ hq0 hq1).2.2.2.2.1
      have zx := nI_inj (by omega) (by omega) (hp2.symm.trans hq2)
      subst zx
      have zy := nI_inj (by omega) (by omega) (hp3.symm.trans hq3)
      subst zy
      have zz := nI_inj (by omega) (by omega) (hp4.symm.trans hq4)
      exact absurd zz (by decide)
    · have mpe := hM.2.1 _ hp0
      have mpt := (hM.2.2 _ _ hp0 hp1).2.2.2.2.1
      have mqe := hM.2.1 _ hq0
      have mqt := (hM.2.2 _ _ hq0 hq1).2.2.2.2.1
      have zx := nI_inj (by omega) (by omega) (hp2.symm.trans hq2)
      subst zx
      have zy := nI_inj (by omega) (by omega) (hp3.symm.trans hq3)
      subst zy
      have zz := nI_inj (by omega) (by omega) (hp4.symm.trans hq4)
      exact absurd zz (by decide)
    · have mpe := hM.2.1 _ hp0
      have mpt := (hM.2.2 _ _ hp0 hp1).2.2.2.2.1
      have mqe := hM.2.1 _ hq0
      have mqt := (hM.2.2 _ _ hq0 hq1).2.2.2.2.1
      have zx := nI_inj (by omega) (by omega) (hp2.symm.trans hq2)
      subst zx
      have zy := nI_inj (by omega) (by omega) (hp3.symm.trans hq3)
      subst zy
      exact absurd ⟨1, by omega, hp4⟩ hq4
  · rcases h2 with ⟨hq0, rfl⟩ | ⟨eXq, tXq, hq0, hq1, hq2, hq3, hq4, rfl⟩ | ⟨eXq, tXq, hq0, hq1, hq2, hq3, hq4, rfl⟩ | ⟨eXq, tXq, hq0, hq1, hq2, hq3, hq4, rfl⟩ | ⟨eXq, tXq, hq0, hq1, hq2, hq3, hq4, rfl⟩ | ⟨eXq, tXq, hq0, hq1, hq2, hq3, hq4, rfl⟩ | ⟨eXq, tXq, hq0, hq1, hq2, hq3, hq4, rfl⟩ | ⟨eXq, tXq, hq0, hq1, hq2, hq3, hq4, rfl⟩ | ⟨eXq, tXq, hq0, hq1, hq2, hq3, hq4, rfl⟩
    · have mpe := hM.2.1 _ hp0
      have mpt := (hM.2.2 _ _ hp0 hp1).2.2.2.2.1
      exact absurd ⟨_, _, hp0, hp1, hp2, hp3⟩ hq0
    · have mpe := hM.2.1 _ hp0
      have mpt := (hM.2.2 _ _ hp0 hp1).2.2.2.2.1
      have mqe := hM.2.1 _ hq0
      have mqt := (hM.2.2 _ _ hq0 hq1).2.2.2.2.1
      have zx := nI_inj (by omega) (by omega) (hp2.symm.trans hq2)
      subst zx
      have zy := nI_inj (by omega) (by omega) (hp3.symm.trans hq3)
      subst zy
      have zz := nI_inj (by omega) (by omega) (hp4.symm.trans hq4)
      exact absurd zz (by decide)
    · have mpe := hM.2.1 _ hp0
      have mpt := (hM.2.2 _ _ hp0 hp1).2.2.2.2.1
      have mqe := hM.2.1 _ hq0
      have mqt := (hM.2.2 _ _ hq0 hq1).2.2.2.2.1
      have zx := nI_inj (by omega) (by omega) (hp2.symm.trans hq2)
      subst zx
      have zy := nI_inj (by omega) (by omega) (hp3.symm.trans hq3)
      subst zy
      have zz := nI_inj (by omega) (by omega) (hp4.symm.trans hq4)
      exact absurd zz (by decide)
    · have mpe := hM.2.1 _ hp0
      have mpt := (hM.2.2 _ _ hp0 hp1).2.2.2.2.1
      have mqe := hM.2.1 _ hq0
      have mqt := (hM.2.2 _ _ hq0 hq1).2.2.2.2.1
      have zx := nI_inj (by omega) (by omega) (hp2.symm.trans hq2)
      subst zx
      have zy := nI_inj (by omega) (by omega) (hp3.symm.trans hq3)
      subst zy
      rfl
    · have mpe := hM.2.1 _ hp0
      have mpt := (hM.2.2 _ _ hp0 hp1).2.2.2.2.1
      have mqe := hM.2.1 _ hq0
      have mqt := (hM.2.2 _ _ hq0 hq1).2.2.2.2.1
      have zx := nI_inj (by omega) (by omega) (hp2.symm.trans hq2)
      subst zx
      have zy := nI_inj (by omega) (by omega) (hp3.symm.trans hq3)
      subst zy
      have zz := nI_inj (by omega) (by omega) (hp4.symm.trans hq4)
      exact absurd zz (by decide)
    · have mpe := hM.2.1 _ hp0
      have mpt := (hM.2.2 _ _ hp0 hp1).2.2.2.2.1
      have mqe := hM.2.1 _ hq0
      have mqt := (hM.2.2 _ _ hq0 hq1).2.2.2.2.1
      have zx := nI_inj (by omega) (by omega) (hp2.symm.trans hq2)
      subst zx
      have zy := nI_inj (by omega) (by omega) (hp3.symm.trans hq3)
      subst zy
      have zz := nI_inj (by omega) (by omega) (hp4.symm.trans hq4)
      exact absurd zz (by decide)
    · have mpe := hM.2.1 _ hp0
      have mpt := (hM.2.2 _ _ hp0 hp1).2.2.2.2.1
      have mqe := hM.2.1 _ hq0
      have mqt := (hM.2.2 _ _ hq0 hq1).2.2.2.2.1
      have zx := nI_inj (by omega) (by omega) (hp2.symm.trans hq2)
      subst zx
      have zy := nI_inj (by omega) (by omega) (hp3.symm.trans hq3)
      subst zy
      have zz := nI_inj (by omega) (by omega) (hp4.symm.trans hq4)
      exact absurd zz (by decide)
    · have mpe := hM.2.1 _ hp0
      have mpt := (hM.2.2 _ _ hp0 hp1).2.2.2.2.1
      have mqe := hM.2.1 _ hq0
      have mqt := (hM.2.2 _ _ hq0 hq1).2.2.2.2.1
      have zx := nI_inj (by omega) (by omega) (hp2.symm.trans hq2)
      subst zx
      have zy := nI_inj (by omega) (by omega) (hp3.symm.trans hq3)
      subst zy
      have zz := nI_inj (by omega) (by omega) (hp4.symm.trans hq4)
      exact absurd zz (by decide)
    · have mpe := hM.2.1 _ hp0
      have mpt := (hM.2.2 _ _ hp0 hp1).2.2.2.2.1
      have mqe := hM.2.1 _ hq0
      have mqt := (hM.2.2 _ _ hq0 hq1).2.2.2.2.1
      have zx := nI_inj (by omega) (by omega) (hp2.symm.trans hq2)
      subst zx
      have zy := nI_inj (by omega) (by omega) (hp3.symm.trans hq3)
      subst zy
      exact absurd ⟨2, by omega, hp4⟩ hq4
  · rcases h2 with ⟨hq0, rfl⟩ | ⟨eXq, tXq, hq0, hq1, hq2, hq3, hq4, rfl⟩ | ⟨eXq, tXq, hq0, hq1, hq2, hq3, hq4, rfl⟩ | ⟨eXq, tXq, hq0, hq1, hq2, hq3, hq4, rfl⟩ | ⟨eXq, tXq, hq0, hq1, hq2, hq3, hq4, rfl⟩ | ⟨eXq, tXq, hq0, hq1, hq2, hq3, hq4, rfl⟩ | ⟨eXq, tXq, hq0, hq1, hq2, hq3, hq4, rfl⟩ | ⟨eXq, tXq, hq0, hq1, hq2, hq3, hq4, rfl⟩ | ⟨eXq, tXq, hq0, hq1, hq2, hq3, hq4, rfl⟩
    · have mpe := hM.2.1 _ hp0
      have mpt := (hM.2.2 _ _ hp0 hp1).2.2.2.2.1
      exact absurd ⟨_, _, hp0, hp1, hp2, hp3⟩ hq0
    · have mpe := hM.2.1 _ hp0
      have mpt := (hM.2.2 _ _ hp0 hp1).2.2.2.2.1
      have mqe := hM.2.1 _ hq0
      have mqt := (hM.2.2 _ _ hq0 hq1).2.2.2.2.1
      have zx := nI_inj (by omega) (by omega) (hp2.symm.trans hq2)
      subst zx
      have zy := nI_inj (by omega) (by omega) (hp3.symm.trans hq3)
      subst zy
      have zz := nI_inj (by omega) (by omega) (hp4.symm.trans hq4)
      exact absurd zz (by decide)
    · have mpe := hM.2.1 _ hp0
      have mpt := (hM.2.2 _ _ hp0 hp1).2.2.2.2.1
      have mqe := hM.2.1 _ hq0
      have mqt := (hM.2.2 _ _ hq0 hq1).2.2.2.2.1
      have zx := nI_inj (by omega) (by omega) (hp2.symm.trans hq2)
      subst zx
      have zy := nI_inj (by omega) (by omega) (hp3.symm.trans hq3)
      subst zy
      have zz := nI_inj (by omega) (by omega) (hp4.symm.trans hq4)
      exact absurd zz (by decide)
    · have mpe := hM.2.1 _ hp0
      have mpt := (hM.2.2 _ _ hp0 hp1).2.2.2.2.1
      have mqe := hM.2.1 _ hq0
      have mqt := (hM.2.2 _ _ hq0 hq1).2.2.2.2.1
      have zx := nI_inj (by omega) (by omega) (hp2.symm.trans hq2)
      subst zx
      have zy := nI_inj (by omega) (by omega) (hp3.symm.trans hq3)
      subst zy
      have zz := nI_inj (by omega) (by omega) (hp4.symm.trans hq4)
      exact absurd zz (by decide)
    · have mpe := hM.2.1 _ hp0
      have mpt := (hM.2.2 _ _ hp0 hp1).2.2.2.2.1
      have mqe := hM.2.1 _ hq0
      have mqt := (hM.2.2 _ _ hq0 hq1).2.2.2.2.1
      have zx := nI_inj (by omega) (by omega) (hp2.symm.trans hq2)
      subst zx
      have zy := nI_inj (by omega) (by omega) (hp3.symm.trans hq3)
      subst zy
      rfl
    · have mpe := hM.2.1 _ hp0
      have mpt := (hM.2.2 _ _ hp0 hp1).2.2.2.2.1
      have mqe := hM.2.1 _ hq0
      have mqt := (hM.2.2 _ _ hq0 hq1).2.2.2.2.1
      have zx := nI_inj (by omega) (by omega) (hp2.symm.trans hq2)
      subst zx
      have zy := nI_inj (by omega) (by omega) (hp3.symm.trans hq3)
      subst zy
      have zz := nI_inj (by omega) (by omega) (hp4.symm.trans hq4)
      exact absurd zz (by decide)
    · have mpe := hM.2.1 _ hp0
      have mpt := (hM.2.2 _ _ hp0 hp1).2.2.2.2.1
      have mqe := hM.2.1 _ hq0
      have mqt := (hM.2.2 _ _ hq0 hq1).2.2.2.2.1
      have zx := nI_inj (by omega) (by omega) (hp2.symm.trans hq2)
      subst zx
      have zy := nI_inj (by omega) (by omega) (hp3.symm.trans hq3)
      subst zy
      have zz := nI_inj (by omega) (by omega) (hp4.symm.trans hq4)
      exact absurd zz (by decide)
    · have mpe := hM.2.1 _ hp0
      have mpt := (hM.2.2 _ _ hp0 hp1).2.2.2.2.1
      have mqe := hM.2.1 _ hq0
      have mqt := (hM.2.2 _ _ hq0 hq1).2.2.2.2.1
      have zx := nI_inj (by omega) (by omega) (hp2.symm.trans hq2)
      subst zx
      have zy := nI_inj (by omega) (by omega) (hp3.symm.trans hq3)
      subst zy
      have zz := nI_inj (by omega) (by omega) (hp4.symm.trans hq4)
      exact absurd zz (by decide)
    · have mpe := hM.2.1 _ hp0
      have mpt := (hM.2.2 _ _ hp0 hp1).2.2.2.2.1
      have mqe := hM.2.1 _ hq0
      have mqt := (hM.2.2 _ _ hq0 hq1).2.2.2.2.1
      have zx := nI_inj (by omega) (by omega) (hp2.symm.trans hq2)
      subst zx
      have zy := nI_inj (by omega) (by omega) (hp3.symm.trans hq3)
      subst zy
      exact absurd ⟨3, by omega, hp4⟩ hq4
  · rcases h2 with ⟨hq0, rfl⟩ | ⟨eXq, tXq, hq0, hq1, hq2, hq3, hq4, rfl⟩ | ⟨eXq, tXq, hq0, hq1, hq2, hq3, hq4, rfl⟩ | ⟨eXq, tXq, hq0, hq1, hq2, hq3, hq4, rfl⟩ | ⟨eXq, tXq, hq0, hq1, hq2, hq3, hq4, rfl⟩ | ⟨eXq, tXq, hq0, hq1, hq2, hq3, hq4, rfl⟩ | ⟨eXq, tXq, hq0, hq1, hq2, hq3, hq4, rfl⟩ | ⟨eXq, tXq, hq0, hq1, hq2, hq3, hq4, rfl⟩ | ⟨eXq, tXq, hq0, hq1, hq2, hq3, hq4, rfl⟩
    · have mpe := hM.2.1 _ hp0
      have mpt := (hM.2.2 _ _ hp0 hp1).2.2.2.2.1
      exact absurd ⟨_, _, hp0, hp1, hp2, hp3⟩ hq0
    · have mpe := hM.2.1 _ hp0
      have mpt := (hM.2.2 _ _ hp0 hp1).2.2.2.2.1
      have mqe := hM.2.1 _ hq0
      have mqt := (hM.2.2 _ _ hq0 hq1).2.2.2.2.1
      have zx := nI_inj (by omega) (by omega) (hp2.symm.trans hq2)
      subst zx
      have zy := nI_inj (by omega) (by omega) (hp3.symm.trans hq3)
      subst zy
      have zz := nI_inj (by omega) (by omega) (hp4.symm.trans hq4)
      exact absurd zz (by decide)
    · have mpe := hM.2.1 _ hp0
      have mpt := (hM.2.2 _ _ hp0 hp1).2.2.2.2.1
      have mqe := hM.2.1 _ hq0
      have mqt := (hM.2.2 _ _ hq0 hq1).2.2.2.2.1
      have zx := nI_inj (by omega) (by omega) (hp2.symm.trans hq2)
      subst zx
      have zy := nI_inj (by omega) (by omega) (hp3.symm.trans hq3)
      subst zy
      have zz := nI_inj (by omega) (by omega) (hp4.symm.trans hq4)
      exact absurd zz (by decide)
    · have mpe := hM.2.1 _ hp0
      have mpt := (hM.2.2 _ _ hp0 hp1).2.2.2.2.1
      have mqe := hM.2.1 _ hq0
      have mqt := (hM.2.2 _ _ hq0 hq1).2.2.2.2.1
      have zx := nI_inj (by omega) (by omega) (hp2.symm.trans hq2)
      subst zx
      have zy := nI_inj (by omega) (by omega) (hp3.symm.trans hq3)
      subst zy
      have zz := nI_inj (by omega) (by omega) (hp4.symm.trans hq4)
      exact absurd zz (by decide)
    · have mpe := hM.2.1 _ hp0
      have mpt := (hM.2.2 _ _ hp0 hp1).2.2.2.2.1
      have mqe := hM.2.1 _ hq0
      have mqt := (hM.2.2 _ _ hq0 hq1).2.2.2.2.1
      have zx := nI_inj (by omega) (by omega) (hp2.symm.trans hq2)
      subst zx
      have zy := nI_inj (by omega) (by omega) (hp3.symm.trans hq3)
      subst zy
      have zz := nI_inj (by omega) (by omega) (hp4.symm.trans hq4)
      exact absurd zz (by decide)
    · have mpe := hM.2.1 _ hp0
      have mpt := (hM.2.2 _ _ hp0 hp1).2.2.2.2.1
      have mqe := hM.2.1 _ hq0
      have mqt := (hM.2.2 _ _ hq0 hq1).2.2.2.2.1
      have zx := nI_inj (by omega) (by omega) (hp2.symm.trans hq2)
      subst zx
      have zy := nI_inj (by omega) (by omega) (hp3.symm.trans hq3)
      subst zy
      rfl
    · have mpe := hM.2.1 _ hp0
      have mpt := (hM.2.2 _ _ hp0 hp1).2.2.2.2.1
      have mqe := hM.2.1 _ hq0
      have mqt := (hM.2.2 _ _ hq0 hq1).2.2.2.2.1
      have zx := nI_inj (by omega) (by omega) (hp2.symm.trans hq2)
      subst zx
      have zy := nI_inj (by omega) (by omega) (hp3.symm.trans hq3)
      subst zy
      have zz := nI_inj (by omega) (by omega) (hp4.symm.trans hq4)
      exact absurd zz (by decide)
    · have mpe := hM.2.1 _ hp0
      have mpt := (hM.2.2 _ _ hp0 hp1).2.2.2.2.1
      have mqe := hM.2.1 _ hq0
      have mqt := (hM.2.2 _ _ hq0 hq1).2.2.2.2.1
      have zx := nI_inj (by omega) (by omega) (hp2.symm.trans hq2)
      subst zx
      have zy := nI_inj (by omega) (by omega) (hp3.symm.trans hq3)
      subst zy
      have zz := nI_inj (by omega) (by omega) (hp4.symm.trans hq4)
      exact absurd zz (by decide)
    · have mpe := hM.2.1 _ hp0
      have mpt := (hM.2.2 _ _ hp0 hp1).2.2.2.2.1
      have mqe := hM.2.1 _ hq0
      have mqt := (hM.2.2 _ _ hq0 hq1).2.2.2.2.1
      have zx := nI_inj (by omega) (by omega) (hp2.symm.trans hq2)
      subst zx
      have zy := nI_inj (by omega) (by omega) (hp3.symm.trans hq3)
      subst zy
      exact absurd ⟨4, by omega, hp4⟩ hq4
  · rcases h2 with ⟨hq0, rfl⟩ | ⟨eXq, tXq, hq0, hq1, hq2, hq3, hq4, rfl⟩ | ⟨eXq, tXq, hq0, hq1, hq2, hq3, hq4, rfl⟩ | ⟨eXq, tXq, hq0, hq1, hq2, hq3, hq4, rfl⟩ | ⟨eXq, tXq, hq0, hq1, hq2, hq3, hq4, rfl⟩ | ⟨eXq, tXq, hq0, hq1, hq2, hq3, hq4, rfl⟩ | ⟨eXq, tXq, hq0, hq1, hq2, hq3, hq4, rfl⟩ | ⟨eXq, tXq, hq0, hq1, hq2, hq3, hq4, rfl⟩ | ⟨eXq, tXq, hq0, hq1, hq2, hq3, hq4, rfl⟩
    · have mpe := hM.2.1 _ hp0
      have mpt := (hM.2.2 _ _ hp0 hp1).2.2.2.2.1
      exact absurd ⟨_, _, hp0, hp1, hp2, hp3⟩ hq0
    · have mpe := hM.2.1 _ hp0
      have mpt := (hM.2.2 _ _ hp0 hp1).2.2.2.2.1
      have mqe := hM.2.1 _ hq0
      have mqt := (hM.2.2 _ _ hq0 hq1).2.2.2.2.1
      have zx := nI_inj (by omega) (by omega) (hp2.symm.trans hq2)
      subst zx
      have zy := nI_inj (by omega) (by omega) (hp3.symm.trans hq3)
      subst zy
      have zz := nI_inj (by omega) (by omega) (hp4.symm.trans hq4)
      exact absurd zz (by decide)
    · have mpe := hM.2.1 _ hp0
      have mpt := (hM.2.2 _ _ hp0 hp1).2.2.2.2.1
      have mqe := hM.2.1 _ hq0
      have mqt := (hM.2.2 _ _ hq0 hq1).2.2.2.2.1
      have zx := nI_inj (by omega) (by omega) (hp2.symm.trans hq2)
      subst zx
      have zy := nI_inj (by omega) (by omega) (hp3.symm.trans hq3)
      subst zy
      have zz := nI_inj (by omega) (by omega) (hp4.symm.trans hq4)
      exact absurd zz (by decide)
    · have mpe := hM.2.1 _ hp0
      have mpt := (hM.2.2 _ _ hp0 hp1).2.2.2.2.1
      have mqe := hM.2.1 _ hq0
      have mqt := (hM.2.2 _ _ hq0 hq1).2.2.2.2.1
      have zx := nI_inj (by omega) (by omega) (hp2.symm.trans hq2)
      subst zx
      have zy := nI_inj (by omega) (by omega) (hp3.symm.trans hq3)
      subst zy
      have zz := nI_inj (by omega) (by omega) (hp4.symm.trans hq4)
      exact absurd zz (by decide)
    · have mpe := hM.2.1 _ hp0
      have mpt := (hM.2.2 _ _ hp0 hp1).2.2.2.2.1
      have mqe := hM.2.1 _ hq0
      have mqt := (hM.2.2 _ _ hq0 hq1).2.2.2.2.1
      have zx := nI_inj (by omega) (by omega) (hp2.symm.trans hq2)
      subst zx
      have zy := nI_inj (by omega) (by omega) (hp3.symm.trans hq3)
      subst zy
      have zz := nI_inj (by omega) (by omega) (hp4.symm.trans hq4)
      exact absurd zz (by decide)
    · have mpe := hM.2.1 _ hp0
      have mpt := (hM.2.2 _ _ hp0 hp1).2.2.2.2.1
      have mqe := hM.2.1 _ hq0
      have mqt := (hM.2.2 _ _ hq0 hq1).2.2.2.2.1
      have zx := nI_inj (by omega) (by omega) (hp2.symm.trans hq2)
      subst zx
      have zy := nI_inj (by omega) (by omega) (hp3.symm.trans hq3)
      subst zy
      have zz := nI_inj (by omega) (by omega) (hp4.symm.trans hq4)
      exact absurd zz (by decide)
    · have mpe := hM.2.1 _ hp0
      have mpt := (hM.2.2 _ _ hp0 hp1).2.2.2.2.1
      have mqe := hM.2.1 _ hq0
      have mqt := (hM.2.2 _ _ hq0 hq1).2.2.2.2.1
      have zx := nI_inj (by omega) (by omega) (hp2.symm.trans hq2)
      subst zx
      have zy := nI_inj (by omega) (by omega) (hp3.symm.trans hq3)
      subst zy
      rfl
    · have mpe := hM.2.1 _ hp0
      have mpt := (hM.2.2 _ _ hp0 hp1).2.2.2.2.1
      have mqe := hM.2.1 _ hq0
      have mqt := (hM.2.2 _ _ hq0 hq1).2.2.2.2.1
      have zx := nI_inj (by omega) (by omega) (hp2.symm.trans hq2)
      subst zx
      have zy := nI_inj (by omega) (by omega) (hp3.symm.trans hq3)
      subst zy
      have zz := nI_inj (by omega) (by omega) (hp4.symm.trans hq4)
      exact absurd zz (by decide)
    · have mpe := hM.2.1 _ hp0
      have mpt := (hM.2.2 _ _ hp0 hp1).2.2.2.2.1
      have mqe := hM.2.1 _ hq0
      have mqt := (hM.2.2 _ _ hq0 hq1).2.2.2.2.1
      have zx := nI_inj (by omega) (by omega) (hp2.symm.trans hq2)
      subst zx
      have zy := nI_inj (by omega) (by omega) (hp3.symm.trans hq3)
      subst zy
      exact absurd ⟨5, by omega, hp4⟩ hq4
  · rcases h2 with ⟨hq0, rfl⟩ | ⟨eXq, tXq, hq0, hq1, hq2, hq3, hq4, rfl⟩ | ⟨eXq, tXq, hq0, hq1, hq2, hq3, hq4, rfl⟩ | ⟨eXq, tXq, hq0, hq1, hq2, hq3, hq4, rfl⟩ | ⟨eXq, tXq, hq0, hq1, hq2, hq3, hq4, rfl⟩ | ⟨eXq, tXq, hq0, hq1, hq2, hq3, hq4, rfl⟩ | ⟨eXq, tXq, hq0, hq1, hq2, hq3, hq4, rfl⟩ | ⟨eXq, tXq, hq0, hq1, hq2, hq3, hq4, rfl⟩ | ⟨eXq, tXq, hq0, hq1, hq2, hq3, hq4, rfl⟩
    · have mpe := hM.2.1 _ hp0
      have mpt := (hM.2.2 _ _ hp0 hp1).2.2.2.2.1
      exact absurd ⟨_, _, hp0, hp1, hp2, hp3⟩ hq0
    · have mpe := hM.2.1 _ hp0
      have mpt := (hM.2.2 _ _ hp0 hp1).2.2.2.2.1
      have mqe := hM.2.1 _ hq0
      have mqt := (hM.2.2 _ _ hq0 hq1).2.2.2.2.1
      have zx := nI_inj (by omega) (by omega) (hp2.symm.trans hq2)
      subst zx
      have zy := nI_inj (by omega) (by omega) (hp3.symm.trans hq3)
      subst zy
      have zz := nI_inj (by omega) (by omega) (hp4.symm.trans hq4)
      exact absurd zz (by decide)
    · have mpe := hM.2.1 _ hp0
      have mpt := (hM.2.2 _ _ hp0 hp1).2.2.2.2.1
      have mqe := hM.2.1 _ hq0
      have mqt := (hM.2.2 _ _ hq0 hq1).2.2.2.2.1
      have zx := nI_inj (by omega) (by omega) (hp2.symm.trans hq2)
      subst zx
      have zy := nI_inj (by omega) (by omega) (hp3.symm.trans hq3)
      subst zy
      have zz := nI_inj (by omega) (by omega) (hp4.symm.trans hq4)
      exact absurd zz (by decide)
    · have mpe := hM.2.1 _ hp0
      have mpt := (hM.2.2 _ _ hp0 hp1).2.2.2.2.1
      have mqe := hM.2.1 _ hq0
      have mqt := (hM.2.2 _ _ hq0 hq1).2.2.2.2.1
      have zx := nI_inj (by omega) (by omega) (hp2.symm.trans hq2)
      subst zx
      have zy := nI_inj (by omega) (by omega) (hp3.symm.trans hq3)
      subst zy
      have zz := nI_inj (by omega) (by omega) (hp4.symm.trans hq4)
      exact absurd zz (by decide)
    · have mpe := hM.2.1 _ hp0
      have mpt := (hM.2.2 _ _ hp0 hp1).2.2.2.2.1
      have mqe := hM.2.1 _ hq0
      have mqt := (hM.2.2 _ _ hq0 hq1).2.2.2.2.1
      have zx := nI_inj (by omega) (by omega) (hp2.symm.trans hq2)
      subst zx
      have zy := nI_inj (by omega) (by omega) (hp3.symm.trans hq3)
      subst zy
      have zz := nI_inj (by omega) (by omega) (hp4.symm.trans hq4)
      exact absurd zz (by decide)
    · have mpe := hM.2.1 _ hp0
      have mpt := (hM.2.2 _ _ hp0 hp1).2.2.2.2.1
      have mqe := hM.2.1 _ hq0
      have mqt := (hM.2.2 _ _ hq0 hq1).2.2.2.2.1
      have zx := nI_inj (by omega) (by omega) (hp2.symm.trans hq2)
      subst zx
      have zy := nI_inj (by omega) (by omega) (hp3.symm.trans hq3)
      subst zy
      have zz := nI_inj (by omega) (by omega) (hp4.symm.trans hq4)
      exact absurd zz (by decide)
    · have mpe := hM.2.1 _ hp0
      have mpt := (hM.2.2 _ _ hp0 hp1).2.2.2.2.1
      have mqe := hM.2.1 _ hq0
      have mqt := (hM.2.2 _ _ hq0 hq1).2.2.2.2.1
      have zx := nI_inj (by omega) (by omega) (hp2.symm.trans hq2)
      subst zx
      have zy := nI_inj (by omega) (by omega) (hp3.symm.trans hq3)
      subst zy
      have zz := nI_inj (by omega) (by omega) (hp4.symm.trans hq4)
      exact absurd zz (by decide)
    · have mpe := hM.2.1 _ hp0
      have mpt := (hM.2.2 _ _ hp0 hp1).2.2.2.2.1
      have mqe := hM.2.1 _ hq0
      have mqt := (hM.2.2 _ _ hq0 hq1).2.2.2.2.1
      have zx := nI_inj (by omega) (by omega) (hp2.symm.trans hq2)
      subst zx
      have zy := nI_inj (by omega) (by omega) (hp3.symm.trans hq3)
      subst zy
      rfl
    · have mpe := hM.2.1 _ hp0
      have mpt := (hM.2.2 _ _ hp0 hp1).2.2.2.2.1
      have mqe := hM.2.1 _ hq0
      have mqt := (hM.2.2 _ _ hq0 hq1).2.2.2.2.1
      have zx := nI_inj (by omega) (by omega) (hp2.symm.trans hq2)
      subst zx
      have zy := nI_inj (by omega) (by omega) (hp3.symm.trans hq3)
      subst zy
      exact absurd ⟨6, by omega, hp4⟩ hq4
  · rcases h2 with ⟨hq0, rfl⟩ | ⟨eXq, tXq, hq0, hq1, hq2, hq3, hq4, rfl⟩ | ⟨eXq, tXq, hq0, hq1, hq2, hq3, hq4, rfl⟩ | ⟨eXq, tXq, hq0, hq1, hq2, hq3, hq4, rfl⟩ | ⟨eXq, tXq, hq0, hq1, hq2, hq3, hq4, rfl⟩ | ⟨eXq, tXq, hq0, hq1, hq2, hq3, hq4, rfl⟩ | ⟨eXq, tXq, hq0, hq1, hq2, hq3, hq4, rfl⟩ | ⟨eXq, tXq, hq0, hq1, hq2, hq3, hq4, rfl⟩ | ⟨eXq, tXq, hq0, hq1, hq2, hq3, hq4, rfl⟩
    · have mpe := hM.2.1 _ hp0
      have mpt := (hM.2.2 _ _ hp0 hp1).2.2.2.2.1
      exact absurd ⟨_, _, hp0, hp1, hp2, hp3⟩ hq0
    · have mpe := hM.2.1 _ hp0
      have mpt := (hM.2.2 _ _ hp0 hp1).2.2.2.2.1
      have mqe := hM.2.1 _ hq0
      have mqt := (hM.2.2 _ _ hq0 hq1).2.2.2.2.1
      have zx := nI_inj (by omega) (by omega) (hp2.symm.trans hq2)
      subst zx
      have zy := nI_inj (by omega) (by omega) (hp3.symm.trans hq3)
      subst zy
      exact absurd ⟨0, by omega, hq4⟩ hp4
    · have mpe := hM.2.1 _ hp0
      have mpt := (hM.2.2 _ _ hp0 hp1).2.2.2.2.1
      have mqe := hM.2.1 _ hq0
      have mqt := (hM.2.2 _ _ hq0 hq1).2.2.2.2.1
      have zx := nI_inj (by omega) (by omega) (hp2.symm.trans hq2)
      subst zx
      have zy := nI_inj (by omega) (by omega) (hp3.symm.trans hq3)
      subst zy
      exact absurd ⟨1, by omega, hq4⟩ hp4
    · have mpe := hM.2.1 _ hp0
      have mpt := (hM.2.2 _ _ hp0 hp1).2.2.2.2.1
      have mqe := hM.2.1 _ hq0
      have mqt := (hM.2.2 _ _ hq0 hq1).2.2.2.2.1
      have zx := nI_inj (by omega) (by omega) (hp2.symm.trans hq2)
      subst zx
      have zy := nI_inj (by omega) (by omega) (hp3.symm.trans hq3)
      subst zy
      exact absurd ⟨2, by omega, hq4⟩ hp4
    · have mpe := hM.2.1 _ hp0
      have mpt := (hM.2.2 _ _ hp0 hp1).2.2.2.2.1
      have mqe := hM.2.1 _ hq0
      have mqt := (hM.2.2 _ _ hq0 hq1).2.2.2.2.1
      have zx := nI_inj (by omega) (by omega) (hp2.symm.trans hq2)
      subst zx
      have zy := nI_inj (by omega) (by omega) (hp3.symm.trans hq3)
      subst zy
      exact absurd ⟨3, by omega, hq4⟩ hp4
    · have mpe := hM.2.1 _ hp0
      have mpt := (hM.2.2 _ _ hp0 hp1).2.2.2.2.1
      have mqe := hM.2.1 _ hq0
      have mqt := (hM.2.2 _ _ hq0 hq1).2.2.2.2.1
      have zx := nI_inj (by omega) (by omega) (hp2.symm.trans hq2)
      subst zx
      have zy := nI_inj (by omega) (by omega) (hp3.symm.trans hq3)
      subst zy
      exact absurd ⟨4, by omega, hq4⟩ hp4
    · have mpe := hM.2.1 _ hp0
      have mpt := (hM.2.2 _ _ hp0 hp1).2.2.2.2.1
      have mqe := hM.2.1 _ hq0
      have mqt := (hM.2.2 _ _ hq0 hq1).2.2.2.2.1
      have zx := nI_inj (by omega) (by omega) (hp2.symm.trans hq2)
      subst zx
      have zy := nI_inj (by omega) (by omega) (hp3.symm.trans hq3)
      subst zy
      exact absurd ⟨5, by omega, hq4⟩ hp4
    · have mpe := hM.2.1 _ hp0
      have mpt := (hM.2.2 _ _ hp0 hp1).2.2.2.2.1
      have mqe := hM.2.1 _ hq0
      have mqt := (hM.2.2 _ _ hq0 hq1).2.2.2.2.1
      have zx := nI_inj (by omega) (by omega) (hp2.symm.trans hq2)
      subst zx
      have zy := nI_inj (by omega) (by omega) (hp3.symm.trans hq3)
      subst zy
      exact absurd ⟨6, by omega, hq4⟩ hp4
    · have mpe := hM.2.1 _ hp0
      have mpt := (hM.2.2 _ _ hp0 hp1).2.2.2.2.1
      have mqe := hM.2.1 _ hq0
      have mqt := (hM.2.2 _ _ hq0 hq1).2.2.2.2.1
      have zx := nI_inj (by omega) (by omega) (hp2.symm.trans hq2)
      subst zx
      have zy := nI_inj (by omega) (by omega) (hp3.symm.trans hq3)
      subst zy
      rfl
theorem eq_caption {st pn : Nat} {sg : Nat → Nat} {x y z q : Int32} {r1 r2 : Int32} (hM : mOK sg) (h1 : (¬ pCp (szF sg) (atF sg 5) x y z ∧ r1 = (-1)) ∨ (∃ (eX : Nat) (tX : Nat) (kX : Nat), eX < 8 ∧ tX < sg (10 + 76 * eX) ∧ kX < sg (11 + 76 * eX + 15 * tX + 5) ∧ x = nI eX ∧ y = nI tX ∧ z = nI kX ∧ (¬ ∃ n : Nat, 0 ≤ n ∧ n ≤ 2 ∧ q = nI n) ∧ r1 = (-2)) ∨ (∃ (eX : Nat) (tX : Nat) (kX : Nat) (wX : Nat), eX < 8 ∧ tX < sg (10 + 76 * eX) ∧ kX < sg (11 + 76 * eX + 15 * tX + 5) ∧ x = nI eX ∧ y = nI tX ∧ z = nI kX ∧ wX ≤ 2 ∧ q = nI wX ∧ r1 = nI (sg (11 + 76 * eX + 15 * tX + (6 + 3 * kX + wX))))) (h2 : (¬ pCp (szF sg) (atF sg 5) x y z ∧ r2 = (-1)) ∨ (∃ (eX : Nat) (tX : Nat) (kX : Nat), eX < 8 ∧ tX < sg (10 + 76 * eX) ∧ kX < sg (11 + 76 * eX + 15 * tX + 5) ∧ x = nI eX ∧ y = nI tX ∧ z = nI kX ∧ (¬ ∃ n : Nat, 0 ≤ n ∧ n ≤ 2 ∧ q = nI n) ∧ r2 = (-2)) ∨ (∃ (eX : Nat) (tX : Nat) (kX : Nat) (wX : Nat), eX < 8 ∧ tX < sg (10 + 76 * eX) ∧ kX < sg (11 + 76 * eX + 15 * tX + 5) ∧ x = nI eX ∧ y = nI tX ∧ z = nI kX ∧ wX ≤ 2 ∧ q = nI wX ∧ r2 = nI (sg (11 + 76 * eX + 15 * tX + (6 + 3 * kX + wX))))) : r1 = r2 := by
  rcases h1 with ⟨hp0, rfl⟩ | ⟨eXp, tXp, kXp, hp0, hp1, hp2, hp3, hp4, hp5, hp6, rfl⟩ | ⟨eXp, tXp, kXp, wXp, hp0, hp1, hp2, hp3, hp4, hp5, hp6, hp7, rfl⟩
  · rcases h2 with ⟨hq0, rfl⟩ | ⟨eXq, tXq, kXq, hq0, hq1, hq2, hq3, hq4, hq5, hq6, rfl⟩ | ⟨eXq, tXq, kXq, wXq, hq0, hq1, hq2, hq3, hq4, hq5, hq6, hq7, rfl⟩
    · rfl
    · have mqe := hM.2.1 _ hq0
      have mqt := (hM.2.2 _ _ hq0 hq1).2.2.2.2.1
      exact absurd ⟨_, _, _, hq0, hq1, hq2, hq3, hq4, hq5⟩ hp0
    · have mqe := hM.2.1 _ hq0
      have mqt := (hM.2.2 _ _ hq0 hq1).2.2.2.2.1
      exact absurd ⟨_, _, _, hq0, hq1, hq2, hq3, hq4, hq5⟩ hp0
  · rcases h2 with ⟨hq0, rfl⟩ | ⟨eXq, tXq, kXq, hq0, hq1, hq2, hq3, hq4, hq5, hq6, rfl⟩ | ⟨eXq, tXq, kXq, wXq, hq0, hq1, hq2, hq3, hq4, hq5, hq6, hq7, rfl⟩
    · have mpe := hM.2.1 _ hp0
      have mpt := (hM.2.2 _ _ hp0 hp1).2.2.2.2.1
      exact absurd ⟨_, _, _, hp0, hp1, hp2, hp3, hp4, hp5⟩ hq0
    · have mpe := hM.2.1 _ hp0
      have mpt := (hM.2.2 _ _ hp0 hp1).2.2.2.2.1
      have mqe := hM.2.1 _ hq0
      have mqt := (hM.2.2 _ _ hq0 hq1).2.2.2.2.1
      have zx := nI_inj (by omega) (by omega) (hp3.symm.trans hq3)
      subst zx
      have zy := nI_inj (by omega) (by omega) (hp4.symm.trans hq4)
      subst zy
      have zz := nI_inj (by omega) (by omega) (hp5.symm.trans hq5)
      subst zz
      rfl
    · have mpe := hM.2.1 _ hp0
      have mpt := (hM.2.2 _ _ hp0 hp1).2.2.2.2.1
      have mqe := hM.2.1 _ hq0
      have mqt := (hM.2.2 _ _ hq0 hq1).2.2.2.2.1
      have zx := nI_inj (by omega) (by omega) (hp3.symm.trans hq3)
      subst zx
      have zy := nI_inj (by omega) (by omega) (hp4.symm.trans hq4)
      subst zy
      have zz := nI_inj (by omega) (by omega) (hp5.symm.trans hq5)
      subst zz
      exact absurd ⟨wXq, by omega, by omega, hq7⟩ hp6
  · rcases h2 with ⟨hq0, rfl⟩ | ⟨eXq, tXq, kXq, hq0, hq1, hq2, hq3, hq4, hq5, hq6, rfl⟩ | ⟨eXq, tXq, kXq, wXq, hq0, hq1, hq2, hq3, hq4, hq5, hq6, hq7, rfl⟩
    · have mpe := hM.2.1 _ hp0
      have mpt := (hM.2.2 _ _ hp0 hp1).2.2.2.2.1
      exact absurd ⟨_, _, _, hp0, hp1, hp2, hp3, hp4, hp5⟩ hq0
    · have mpe := hM.2.1 _ hp0
      have mpt := (hM.2.2 _ _ hp0 hp1).2.2.2.2.1
      have mqe := hM.2.1 _ hq0
      have mqt := (hM.2.2 _ _ hq0 hq1).2.2.2.2.1
      have zx := nI_inj (by omega) (by omega) (hp3.symm.trans hq3)
      subst zx
      have zy := nI_inj (by omega) (by omega) (hp4.symm.trans hq4)
      subst zy
      have zz := nI_inj (by omega) (by omega) (hp5.symm.trans hq5)
      subst zz
      exact absurd ⟨wXp, by omega, by omega, hp7⟩ hq6
    · have mpe := hM.2.1 _ hp0
      have mpt := (hM.2.2 _ _ hp0 hp1).2.2.2.2.1
      have mqe := hM.2.1 _ hq0
      have mqt := (hM.2.2 _ _ hq0 hq1).2.2.2.2.1
      have zx := nI_inj (by omega) (by omega) (hp3.symm.trans hq3)
      subst zx
      have zy := nI_inj (by omega) (by omega) (hp4.symm.trans hq4)
      subst zy
      have zz := nI_inj (by omega) (by omega) (hp5.symm.trans hq5)
      subst zz
      have zq := nI_inj (by omega) (by omega) (hp7.symm.trans hq7)
      subst zq
      rfl
theorem eq_visitor {st pn : Nat} {sg : Nat → Nat} {x : Int32} {r1 r2 : Int32} (hM : mOK sg) (h1 : ((¬ ∃ n : Nat, 0 ≤ n ∧ n ≤ 5 ∧ x = nI n) ∧ r1 = (-2)) ∨ (∃ (wX : Nat), wX ≤ 5 ∧ x = nI wX ∧ sg 2 = 0 ∧ r1 = (-5)) ∨ (∃ (wX : Nat), wX < 4 ∧ x = nI wX ∧ 0 < sg 2 ∧ r1 = nI (sg (3 + wX))) ∨ (x = nI 4 ∧ 0 < sg 2 ∧ r1 = nI (bitsN (sg 6) 16)) ∨ (x = nI 5 ∧ 0 < sg 2 ∧ sN sg = none ∧ r1 = (-5)) ∨ (∃ (tX : Nat), x = nI 5 ∧ 0 < sg 2 ∧ sN sg = some tX ∧ r1 = nI tX)) (h2 : ((¬ ∃ n : Nat, 0 ≤ n ∧ n ≤ 5 ∧ x = nI n) ∧ r2 = (-2)) ∨ (∃ (wX : Nat), wX ≤ 5 ∧ x = nI wX ∧ sg 2 = 0 ∧ r2 = (-5)) ∨ (∃ (wX : Nat), wX < 4 ∧ x = nI wX ∧ 0 < sg 2 ∧ r2 = nI (sg (3 + wX))) ∨ (x = nI 4 ∧ 0 < sg 2 ∧ r2 = nI (bitsN (sg 6) 16)) ∨ (x = nI 5 ∧ 0 < sg 2 ∧ sN sg = none ∧ r2 = (-5)) ∨ (∃ (tX : Nat), x = nI 5 ∧ 0 < sg 2 ∧ sN sg = some tX ∧ r2 = nI tX)) : r1 = r2 := by
  rcases h1 with ⟨hp0, rfl⟩ | ⟨wXp, hp0, hp1, hp2, rfl⟩ | ⟨wXp, hp0, hp1, hp2, rfl⟩ | ⟨hp0, hp1, rfl⟩ | ⟨hp0, hp1, hp2, rfl⟩ | ⟨tXp, hp0, hp1, hp2, rfl⟩
  · rcases h2 with ⟨hq0, rfl⟩ | ⟨wXq, hq0, hq1, hq2, rfl⟩ | ⟨wXq, hq0, hq1, hq2, rfl⟩ | ⟨hq0, hq1, rfl⟩ | ⟨hq0, hq1, hq2, rfl⟩ | ⟨tXq, hq0, hq1, hq2, rfl⟩
    · rfl
    · exact absurd ⟨wXq, by omega, by omega, hq1⟩ hp0
    · exact absurd ⟨wXq, by omega, by omega, hq1⟩ hp0
    · exact absurd ⟨4, by omega, by omega, hq0⟩ hp0
    · exact absurd ⟨5, by omega, by omega, hq0⟩ hp0
    · have mqe := hM.2.1 _ hM.1.1
      have mqt := (hM.2.2 _ _ hM.1.1 (sN_some hM hq2).2).2.2.2.2.1
      exact absurd ⟨5, by omega, by omega, hq0⟩ hp0
  · rcases h2 with ⟨hq0, rfl⟩ | ⟨wXq, hq0, hq1, hq2, rfl⟩ | ⟨wXq, hq0, hq1, hq2, rfl⟩ | ⟨hq0, hq1, rfl⟩ | ⟨hq0, hq1, hq2, rfl⟩ | ⟨tXq, hq0, hq1, hq2, rfl⟩
    · exact absurd ⟨wXp, by omega, by omega, hp1⟩ hq0
    · have zx := nI_inj (by omega) (by omega) (hp1.symm.trans hq1)
      subst zx
      rfl
    · have zx := nI_inj (by omega) (by omega) (hp1.symm.trans hq1)
      subst zx
      first | omega | contradiction | (simp_all; done)
    · have zx := nI_inj (by omega) (by omega) (hp1.symm.trans hq0)
      subst zx
      first | omega | contradiction | (simp_all; done)
    · have zx := nI_inj (by omega) (by omega) (hp1.symm.trans hq0)
      subst zx
      first | omega | contradiction | (simp_all; done)
    · have mqe := hM.2.1 _ hM.1.1
      have mqt := (hM.2.2 _ _ hM.1.1 (sN_some hM hq2).2).2.2.2.2.1
      have zx := nI_inj (by omega) (by omega) (hp1.symm.trans hq0)
      subst zx
      first | omega | contradiction | (simp_all; done)
  · rcases h2 with ⟨hq0, rfl⟩ | ⟨wXq, hq0, hq1, hq2, rfl⟩ | ⟨wXq, hq0, hq1, hq2, rfl⟩ | ⟨hq0, hq1, rfl⟩ | ⟨hq0, hq1, hq2, rfl⟩ | ⟨tXq, hq0, hq1, hq2, rfl⟩
    · exact absurd ⟨wXp, by omega, by omega, hp1⟩ hq0
    · have zx := nI_inj (by omega) (by omega) (hp1.symm.trans hq1)
      subst zx
      first | omega | contradiction | (simp_all; done)
    · have zx := nI_inj (by omega) (by omega) (hp1.symm.trans hq1)
      subst zx
      rfl
    · have zx := nI_inj (by omega) (by omega) (hp1.symm.trans hq0)
      subst zx
      first | omega | contradiction | (simp_all; done)
    · have zx := nI_inj (by omega) (by omega) (hp1.symm.trans hq0)
      subst zx
      first | omega | contradiction | (simp_all; done)
    · have mqe := hM.2.1 _ hM.1.1
      have mqt := (hM.2.2 _ _ hM.1.1 (sN_some hM hq2).2).2.2.2.2.1
      have zx := nI_inj (by omega) (by omega) (hp1.symm.trans hq0)
      subst zx
      first | omega | contradiction | (simp_all; done)
  · rcases h2 with ⟨hq0, rfl⟩ | ⟨wXq, hq0, hq1, hq2, rfl⟩ | ⟨wXq, hq0, hq1, hq2, rfl⟩ | ⟨hq0, hq1, rfl⟩ | ⟨hq0, hq1, hq2, rfl⟩ | ⟨tXq, hq0, hq1, hq2, rfl⟩
    · exact absurd ⟨4, by omega, by omega, hp0⟩ hq0
    · have zx := nI_inj (by omega) (by omega) (hp0.symm.trans hq1)
      subst zx
      first | omega | contradiction | (simp_all; done)
    · have zx := nI_inj (by omega) (by omega) (hp0.symm.trans hq1)
      subst zx
      first | omega | contradiction | (simp_all; done)
    · rfl
    · have zx := nI_inj (by omega) (by omega) (hp0.symm.trans hq0)
      exact absurd zx (by decide)
    · have mqe := hM.2.1 _ hM.1.1
      have mqt := (hM.2.2 _ _ hM.1.1 (sN_some hM hq2).2).2.2.2.2.1
      have zx := nI_inj (by omega) (by omega) (hp0.symm.trans hq0)
      exact absurd zx (by decide)
  · rcases h2 with ⟨hq0, rfl⟩ | ⟨wXq, hq0, hq1, hq2, rfl⟩ | ⟨wXq, hq0, hq1, hq2, rfl⟩ | ⟨hq0, hq1, rfl⟩ | ⟨hq0, hq1, hq2, rfl⟩ | ⟨tXq, hq0, hq1, hq2, rfl⟩
    · exact absurd ⟨5, by omega, by omega, hp0⟩ hq0
    · have zx := nI_inj (by omega) (by omega) (hp0.symm.trans hq1)
      subst zx
      first | omega | contradiction | (simp_all; done)
    · have zx := nI_inj (by omega) (by omega) (hp0.symm.trans hq1)
      subst zx
      first | omega | contradiction | (simp_all; done)
    · have zx := nI_inj (by omega) (by omega) (hp0.symm.trans hq0)
      exact absurd zx (by decide)
    · rfl
    · have mqe := hM.2.1 _ hM.1.1
      have mqt := (hM.2.2 _ _ hM.1.1 (sN_some hM hq2).2).2.2.2.2.1
      exact absurd (hp2.symm.trans hq2) (by intro hh; cases hh)
  · rcases h2 with ⟨hq0, rfl⟩ | ⟨wXq, hq0, hq1, hq2, rfl⟩ | ⟨wXq, hq0, hq1, hq2, rfl⟩ | ⟨hq0, hq1, rfl⟩ | ⟨hq0, hq1, hq2, rfl⟩ | ⟨tXq, hq0, hq1, hq2, rfl⟩
    · have mpe := hM.2.1 _ hM.1.1
      have mpt := (hM.2.2 _ _ hM.1.1 (sN_some hM hp2).2).2.2.2.2.1
      exact absurd ⟨5, by omega, by omega, hp0⟩ hq0
    · have mpe := hM.2.1 _ hM.1.1
      have mpt := (hM.2.2 _ _ hM.1.1 (sN_some hM hp2).2).2.2.2.2.1
      have zx := nI_inj (by omega) (by omega) (hp0.symm.trans hq1)
      subst zx
      first | omega | contradiction | (simp_all; done)
    · have mpe := hM.2.1 _ hM.1.1
      have mpt := (hM.2.2 _ _ hM.1.1 (sN_some hM hp2).2).2.2.2.2.1
      have zx := nI_inj (by omega) (by omega) (hp0.symm.trans hq1)
      subst zx
      first | omega | contradiction | (simp_all; done)
    · have mpe := hM.2.1 _ hM.1.1
      have mpt := (hM.2.2 _ _ hM.1.1 (sN_some hM hp2).2).2.2.2.2.1
      have zx := nI_inj (by omega) (by omega) (hp0.symm.trans hq0)
      exact absurd zx (by decide)
    · have mpe := hM.2.1 _ hM.1.1
      have mpt := (hM.2.2 _ _ hM.1.1 (sN_some hM hp2).2).2.2.2.2.1
      exact absurd (hp2.symm.trans hq2) (by intro hh; cases hh)
    · have mpe := hM.2.1 _ hM.1.1
      have mpt := (hM.2.2 _ _ hM.1.1 (sN_some hM hp2).2).2.2.2.2.1
      have mqe := hM.2.1 _ hM.1.1
      have mqt := (hM.2.2 _ _ hM.1.1 (sN_some hM hq2).2).2.2.2.2.1
      have zs := Option.some.inj (hp2.symm.trans hq2)
      subst zs
      rfl
theorem eq_shown {st pn : Nat} {sg : Nat → Nat} {x y : Int32} {r1 r2 : Int32} (hM : mOK sg) (h1 : (¬ pE x ∧ r1 = (-1)) ∨ (∃ (eX : Nat), eX < 8 ∧ x = nI eX ∧ (¬ ∃ n : Nat, 4 ≤ n ∧ n ≤ 99 ∧ y = nI n) ∧ r1 = (-2)) ∨ (∃ (eX : Nat) (aX : Nat), eX < 8 ∧ x = nI eX ∧ 4 ≤ aX ∧ aX ≤ 99 ∧ y = nI aX ∧ shT sg eX aX = none ∧ r1 = (-5)) ∨ (∃ (eX : Nat) (aX : Nat) (tX : Nat), eX < 8 ∧ x = nI eX ∧ 4 ≤ aX ∧ aX ≤ 99 ∧ y = nI aX ∧ shT sg eX aX = some tX ∧ r1 = nI tX)) (h2 : (¬ pE x ∧ r2 = (-1)) ∨ (∃ (eX : Nat), eX < 8 ∧ x = nI eX ∧ (¬ ∃ n : Nat, 4 ≤ n ∧ n ≤ 99 ∧ y = nI n) ∧ r2 = (-2)) ∨ (∃ (eX : Nat) (aX : Nat), eX < 8 ∧ x = nI eX ∧ 4 ≤ aX ∧ aX ≤ 99 ∧ y = nI aX ∧ shT sg eX aX = none ∧ r2 = (-5)) ∨ (∃ (eX : Nat) (aX : Nat) (tX : Nat), eX < 8 ∧ x = nI eX ∧ 4 ≤ aX ∧ aX ≤ 99 ∧ y = nI aX ∧ shT sg eX aX = some tX ∧ r2 = nI tX)) : r1 = r2 := by
  rcases h1 with ⟨hp0, rfl⟩ | ⟨eXp, hp0, hp1, hp2, rfl⟩ | ⟨eXp, aXp, hp0, hp1, hp2, hp3, hp4, hp5, rfl⟩ | ⟨eXp, aXp, tXp, hp0, hp1, hp2, hp3, hp4, hp5, rfl⟩
  · rcases h2 with ⟨hq0, rfl⟩ | ⟨eXq, hq0, hq1, hq2, rfl⟩ | ⟨eXq, aXq, hq0, hq1, hq2, hq3, hq4, hq5, rfl⟩ | ⟨eXq, aXq, tXq, hq0, hq1, hq2, hq3, hq4, hq5, rfl⟩
    · rfl
    · have mqe := hM.2.1 _ hq0
      exact absurd ⟨_, hq0, hq1⟩ hp0
    · have mqe := hM.2.1 _ hq0
      exact absurd ⟨_, hq0, hq1⟩ hp0
    · have mqe := hM.2.1 _ hq0
      exact absurd ⟨_, hq0, hq1⟩ hp0
  · rcases h2 with ⟨hq0, rfl⟩ | ⟨eXq, hq0, hq1, hq2, rfl⟩ | ⟨eXq, aXq, hq0, hq1, hq2, hq3, hq4, hq5, rfl⟩ | ⟨eXq, aXq, tXq, hq0, hq1, hq2, hq3, hq4, hq5, rfl⟩
    · have mpe := hM.2.1 _ hp0
      exact absurd ⟨_, hp0, hp1⟩ hq0
    · have mpe := hM.2.1 _ hp0
      have mqe := hM.2.1 _ hq0
      have zx := nI_inj (by omega) (by omega) (hp1.symm.trans hq1)
      subst zx
      rfl
    · have mpe := hM.2.1 _ hp0
      have mqe := hM.2.1 _ hq0
      have zx := nI_inj (by omega) (by omega) (hp1.symm.trans hq1)
      subst zx
      exact absurd ⟨aXq, by omega, by omega, hq4⟩ hp2
    · have mpe := hM.2.1 _ hp0
      have mqe := hM.2.1 _ hq0
      have zx := nI_inj (by omega) (by omega) (hp1.symm.trans hq1)
      subst zx
      exact absurd ⟨aXq, by omega, by omega, hq4⟩ hp2
  · rcases h2 with ⟨hq0, rfl⟩ | ⟨eXq, hq0, hq1, hq2, rfl⟩ | ⟨eXq, aXq, hq0, hq1, hq2, hq3, hq4, hq5, rfl⟩ | ⟨eXq, aXq, tXq, hq0, hq1, hq2, hq3, hq4, hq5, rfl⟩
    · have mpe := hM.2.1 _ hp0
      exact absurd ⟨_, hp0, hp1⟩ hq0
    · have mpe := hM.2.1 _ hp0
      have mqe := hM.2.1 _ hq0
      have zx := nI_inj (by omega) (by omega) (hp1.symm.trans hq1)
      subst zx
      exact absurd ⟨aXp, by omega, by omega, hp4⟩ hq2
    · have mpe := hM.2.1 _ hp0
      have mqe := hM.2.1 _ hq0
      have zx := nI_inj (by omega) (by omega) (hp1.symm.trans hq1)
      subst zx
      have zy := nI_inj (by omega) (by omega) (hp4.symm.trans hq4)
      subst zy
      rfl
    · have mpe := hM.2.1 _ hp0
      have mqe := hM.2.1 _ hq0
      have zx := nI_inj (by omega) (by omega) (hp1.symm.trans hq1)
      subst zx
      have zy := nI_inj (by omega) (by omega) (hp4.symm.trans hq4)
      subst zy
      exact absurd (hp5.symm.trans hq5) (by intro hh; cases hh)
  · rcases h2 with ⟨hq0, rfl⟩ | ⟨eXq, hq0, hq1, hq2, rfl⟩ | ⟨eXq, aXq, hq0, hq1, hq2, hq3, hq4, hq5, rfl⟩ | ⟨eXq, aXq, tXq, hq0, hq1, hq2, hq3, hq4, hq5, rfl⟩
    · have mpe := hM.2.1 _ hp0
      exact absurd ⟨_, hp0, hp1⟩ hq0
    · have mpe := hM.2.1 _ hp0
      have mqe := hM.2.1 _ hq0
      have zx := nI_inj (by omega) (by omega) (hp1.symm.trans hq1)
      subst zx
      exact absurd ⟨aXp, by omega, by omega, hp4⟩ hq2
    · have mpe := hM.2.1 _ hp0
      have mqe := hM.2.1 _ hq0
      have zx := nI_inj (by omega) (by omega) (hp1.symm.trans hq1)
      subst zx
      have zy := nI_inj (by omega) (by omega) (hp4.symm.trans hq4)
      subst zy
      exact absurd (hp5.symm.trans hq5) (by intro hh; cases hh)
    · have mpe := hM.2.1 _ hp0
      have mqe := hM.2.1 _ hq0
      have zx := nI_inj (by omega) (by omega) (hp1.symm.trans hq1)
      subst zx
      have zy := nI_inj (by omega) (by omega) (hp4.symm.trans hq4)
      subst zy
      have zs := Option.some.inj (hp5.symm.trans hq5)
      subst zs
      rfl
theorem eq_unmet {st pn : Nat} {sg : Nat → Nat} {x : Int32} {r1 r2 : Int32} (hM : mOK sg) (h1 : ((¬ ∃ n : Nat, 4 ≤ n ∧ n ≤ 99 ∧ x = nI n) ∧ r1 = (-2)) ∨ (∃ (aX : Nat), 4 ≤ aX ∧ aX ≤ 99 ∧ x = nI aX ∧ r1 = andN (allF (szF sg) (atF sg 3) 8) (metF (fun e => shT sg e aX) (atF sg 3) 8))) (h2 : ((¬ ∃ n : Nat, 4 ≤ n ∧ n ≤ 99 ∧ x = nI n) ∧ r2 = (-2)) ∨ (∃ (aX : Nat), 4 ≤ aX ∧ aX ≤ 99 ∧ x = nI aX ∧ r2 = andN (allF (szF sg) (atF sg 3) 8) (metF (fun e => shT sg e aX) (atF sg 3) 8))) : r1 = r2 := by
  rcases h1 with ⟨hp0, rfl⟩ | ⟨aXp, hp0, hp1, hp2, rfl⟩
  · rcases h2 with ⟨hq0, rfl⟩ | ⟨aXq, hq0, hq1, hq2, rfl⟩
    · rfl
    · exact absurd ⟨aXq, by omega, by omega, hq2⟩ hp0
  · rcases h2 with ⟨hq0, rfl⟩ | ⟨aXq, hq0, hq1, hq2, rfl⟩
    · exact absurd ⟨aXp, by omega, by omega, hp2⟩ hq0
    · have zx := nI_inj (by omega) (by omega) (hp2.symm.trans hq2)
      subst zx
      rfl
theorem eq_ages {st pn : Nat} {sg : Nat → Nat} {x y z : Int32} {r1 r2 : Int32} (hM : mOK sg) (h1 : (¬ pTn (szF sg) x y ∧ r1 = (-1)) ∨ (∃ (eX : Nat) (tX : Nat), eX < 8 ∧ tX < sg (10 + 76 * eX) ∧ x = nI eX ∧ y = nI tX ∧ (¬ ∃ n : Nat, 0 ≤ n ∧ n ≤ 2 ∧ z = nI n) ∧ r1 = (-2)) ∨ (∃ (eX : Nat) (tX : Nat), eX < 8 ∧ tX < sg (10 + 76 * eX) ∧ x = nI eX ∧ y = nI tX ∧ z = nI 0 ∧ r1 = enc (agL (agP (fun a => shT sg eX a) tX) 96)) ∨ (∃ (eX : Nat) (tX : Nat), eX < 8 ∧ tX < sg (10 + 76 * eX) ∧ x = nI eX ∧ y = nI tX ∧ z = nI 1 ∧ r1 = enc (agG (agP (fun a => shT sg eX a) tX) 96)) ∨ (∃ (eX : Nat) (tX : Nat), eX < 8 ∧ tX < sg (10 + 76 * eX) ∧ x = nI eX ∧ y = nI tX ∧ z = nI 2 ∧ r1 = nI (agM (agP (fun a => shT sg eX a) tX) 96))) (h2 : (¬ pTn (szF sg) x y ∧ r2 = (-1)) ∨ (∃ (eX : Nat) (tX : Nat), eX < 8 ∧ tX < sg (10 + 76 * eX) ∧ x = nI eX ∧ y = nI tX ∧ (¬ ∃ n : Nat, 0 ≤ n ∧ n ≤ 2 ∧ z = nI n) ∧ r2 = (-2)) ∨ (∃ (eX : Nat) (tX : Nat), eX < 8 ∧ tX < sg (10 + 76 * eX) ∧ x = nI eX ∧ y = nI tX ∧ z = nI 0 ∧ r2 = enc (agL (agP (fun a => shT sg eX a) tX) 96)) ∨ (∃ (eX : Nat) (tX : Nat), eX < 8 ∧ tX < sg (10 + 76 * eX) ∧ x = nI eX ∧ y = nI tX ∧ z = nI 1 ∧ r2 = enc (agG (agP (fun a => shT sg eX a) tX) 96)) ∨ (∃ (eX : Nat) (tX : Nat), eX < 8 ∧ tX < sg (10 + 76 * eX) ∧ x = nI eX ∧ y = nI tX ∧ z = nI 2 ∧ r2 = nI (agM (agP (fun a => shT sg eX a) tX) 96))) : r1 = r2 := by
  rcases h1 with ⟨hp0, rfl⟩ | ⟨eXp, tXp, hp0, hp1, hp2, hp3, hp4, rfl⟩ | ⟨eXp, tXp, hp0, hp1, hp2, hp3, hp4, rfl⟩ | ⟨eXp, tXp, hp0, hp1, hp2, hp3, hp4, rfl⟩ | ⟨eXp, tXp, hp0, hp1, hp2, hp3, hp4, rfl⟩
  · rcases h2 with ⟨hq0, rfl⟩ | ⟨eXq, tXq, hq0, hq1, hq2, hq3, hq4, rfl⟩ | ⟨eXq, tXq, hq0, hq1, hq2, hq3, hq4, rfl⟩ | ⟨eXq, tXq, hq0, hq1, hq2, hq3, hq4, rfl⟩ | ⟨eXq, tXq, hq0, hq1, hq2, hq3, hq4, rfl⟩
    · rfl
    · have mqe := hM.2.1 _ hq0
      have mqt := (hM.2.2 _ _ hq0 hq1).2.2.2.2.1
      exact absurd ⟨_, _, hq0, hq1, hq2, hq3⟩ hp0
    · have mqe := hM.2.1 _ hq0
      have mqt := (hM.2.2 _ _ hq0 hq1).2.2.2.2.1
      exact absurd ⟨_, _, hq0, hq1, hq2, hq3⟩ hp0
    · have mqe := hM.2.1 _ hq0
      have mqt := (hM.2.2 _ _ hq0 hq1).2.2.2.2.1
      exact absurd ⟨_, _, hq0, hq1, hq2, hq3⟩ hp0
    · have mqe := hM.2.1 _ hq0
      have mqt := (hM.2.2 _ _ hq0 hq1).2.2.2.2.1
      exact absurd ⟨_, _, hq0, hq1, hq2, hq3⟩ hp0
  · rcases h2 with ⟨hq0, rfl⟩ | ⟨eXq, tXq, hq0, hq1, hq2, hq3, hq4, rfl⟩ | ⟨eXq, tXq, hq0, hq1, hq2, hq3, hq4, rfl⟩ | ⟨eXq, tXq, hq0, hq1, hq2, hq3, hq4, rfl⟩ | ⟨eXq, tXq, hq0, hq1, hq2, hq3, hq4, rfl⟩
    · have mpe := hM.2.1 _ hp0
      have mpt := (hM.2.2 _ _ hp0 hp1).2.2.2.2.1
      exact absurd ⟨_, _, hp0, hp1, hp2, hp3⟩ hq0
    · have mpe := hM.2.1 _ hp0
      have mpt := (hM.2.2 _ _ hp0 hp1).2.2.2.2.1
      have mqe := hM.2.1 _ hq0
      have mqt := (hM.2.2 _ _ hq0 hq1).2.2.2.2.1
      have zx := nI_inj (by omega) (by omega) (hp2.symm.trans hq2)
      subst zx
      have zy := nI_inj (by omega) (by omega) (hp3.symm.trans hq3)
      subst zy
      rfl
    · have mpe := hM.2.1 _ hp0
      have mpt := (hM.2.2 _ _ hp0 hp1).2.2.2.2.1
      have mqe := hM.2.1 _ hq0
      have mqt := (hM.2.2 _ _ hq0 hq1).2.2.2.2.1
      have zx := nI_inj (by omega) (by omega) (hp2.symm.trans hq2)
      subst zx
      have zy := nI_inj (by omega) (by omega) (hp3.symm.trans hq3)
      subst zy
      exact absurd ⟨0, by omega, by omega, hq4⟩ hp4
    · have mpe := hM.2.1 _ hp0
      have mpt := (hM.2.2 _ _ hp0 hp1).2.2.2.2.1
      have mqe := hM.2.1 _ hq0
      have mqt := (hM.2.2 _ _ hq0 hq1).2.2.2.2.1
      have zx := nI_inj (by omega) (by omega) (hp2.symm.trans hq2)
      subst zx
      have zy := nI_inj (by omega) (by omega) (hp3.symm.trans hq3)
      subst zy
      exact absurd ⟨1, by omega, by omega, hq4⟩ hp4
    · have mpe := hM.2.1 _ hp0
      have mpt := (hM.2.2 _ _ hp0 hp1).2.2.2.2.1
      have mqe := hM.2.1 _ hq0
      have mqt := (hM.2.2 _ _ hq0 hq1).2.2.2.2.1
      have zx := nI_inj (by omega) (by omega) (hp2.symm.trans hq2)
      subst zx
      have zy := nI_inj (by omega) (by omega) (hp3.symm.trans hq3)
      subst zy
      exact absurd ⟨2, by omega, by omega, hq4⟩ hp4
  · rcases h2 with ⟨hq0, rfl⟩ | ⟨eXq, tXq, hq0, hq1, hq2, hq3, hq4, rfl⟩ | ⟨eXq, tXq, hq0, hq1, hq2, hq3, hq4, rfl⟩ | ⟨eXq, tXq, hq0, hq1, hq2, hq3, hq4, rfl⟩ | ⟨eXq, tXq, hq0, hq1, hq2, hq3, hq4, rfl⟩
    · have mpe := hM.2.1 _ hp0
      have mpt := (hM.2.2 _ _ hp0 hp1).2.2.2.2.1
      exact absurd ⟨_, _, hp0, hp1, hp2, hp3⟩ hq0
    · have mpe := hM.2.1 _ hp0
      have mpt := (hM.2.2 _ _ hp0 hp1).2.2.2.2.1
      have mqe := hM.2.1 _ hq0
      have mqt := (hM.2.2 _ _ hq0 hq1).2.2.2.2.1
      have zx := nI_inj (by omega) (by omega) (hp2.symm.trans hq2)
      subst zx
      have zy := nI_inj (by omega) (by omega) (hp3.symm.trans hq3)
      subst zy
      exact absurd ⟨0, by omega, by omega, hp4⟩ hq4
    · have mpe := hM.2.1 _ hp0
      have mpt := (hM.2.2 _ _ hp0 hp1).2.2.2.2.1
      have mqe := hM.2.1 _ hq0
      have mqt := (hM.2.2 _ _ hq0 hq1).2.2.2.2.1
      have zx := nI_inj (by omega) (by omega) (hp2.symm.trans hq2)
      subst zx
      have zy := nI_inj (by omega) (by omega) (hp3.symm.trans hq3)
      subst zy
      rfl
    · have mpe := hM.2.1 _ hp0
      have mpt := (hM.2.2 _ _ hp0 hp1).2.2.2.2.1
      have mqe := hM.2.1 _ hq0
      have mqt := (hM.2.2 _ _ hq0 hq1).2.2.2.2.1
      have zx := nI_inj (by omega) (by omega) (hp2.symm.trans hq2)
      subst zx
      have zy := nI_inj (by omega) (by omega) (hp3.symm.trans hq3)
      subst zy
      have zz := nI_inj (by omega) (by omega) (hp4.symm.trans hq4)
      exact absurd zz (by decide)
    · have mpe := hM.2.1 _ hp0
      have mpt := (hM.2.2 _ _ hp0 hp1).2.2.2.2.1
      have mqe := hM.2.1 _ hq0
      have mqt := (hM.2.2 _ _ hq0 hq1).2.2.2.2.1
      have zx := nI_inj (by omega) (by omega) (hp2.symm.trans hq2)
      subst zx
      have zy := nI_inj (by omega) (by omega) (hp3.symm.trans hq3)
      subst zy
      have zz := nI_inj (by omega) (by omega) (hp4.symm.trans hq4)
      exact absurd zz (by decide)
  · rcases h2 with ⟨hq0, rfl⟩ | ⟨eXq, tXq, hq0, hq1, hq2, hq3, hq4, rfl⟩ | ⟨eXq, tXq, hq0, hq1, hq2, hq3, hq4, rfl⟩ | ⟨eXq, tXq, hq0, hq1, hq2, hq3, hq4, rfl⟩ | ⟨eXq, tXq, hq0, hq1, hq2, hq3, hq4, rfl⟩
    · have mpe := hM.2.1 _ hp0
      have mpt := (hM.2.2 _ _ hp0 hp1).2.2.2.2.1
      exact absurd ⟨_, _, hp0, hp1, hp2, hp3⟩ hq0
    · have mpe := hM.2.1 _ hp0
      have mpt := (hM.2.2 _ _ hp0 hp1).2.2.2.2.1
      have mqe := hM.2.1 _ hq0
      have mqt := (hM.2.2 _ _ hq0 hq1).2.2.2.2.1
      have zx := nI_inj (by omega) (by omega) (hp2.symm.trans hq2)
      subst zx
      have zy := nI_inj (by omega) (by omega) (hp3.symm.trans hq3)
      subst zy
      exact absurd ⟨1, by omega, by omega, hp4⟩ hq4
    · have mpe := hM.2.1 _ hp0
      have mpt := (hM.2.2 _ _ hp0 hp1).2.2.2.2.1
      have mqe := hM.2.1 _ hq0
      have mqt := (hM.2.2 _ _ hq0 hq1).2.2.2.2.1
      have zx := nI_inj (by omega) (by omega) (hp2.symm.trans hq2)
      subst zx
      have zy := nI_inj (by omega) (by omega) (hp3.symm.trans hq3)
      subst zy
      have zz := nI_inj (by omega) (by omega) (hp4.symm.trans hq4)
      exact absurd zz (by decide)
    · have mpe := hM.2.1 _ hp0
      have mpt := (hM.2.2 _ _ hp0 hp1).2.2.2.2.1
      have mqe := hM.2.1 _ hq0
      have mqt := (hM.2.2 _ _ hq0 hq1).2.2.2.2.1
      have zx := nI_inj (by omega) (by omega) (hp2.symm.trans hq2)
      subst zx
      have zy := nI_inj (by omega) (by omega) (hp3.symm.trans hq3)
      subst zy
      rfl
    · have mpe := hM.2.1 _ hp0
      have mpt := (hM.2.2 _ _ hp0 hp1).2.2.2.2.1
      have mqe := hM.2.1 _ hq0
      have mqt := (hM.2.2 _ _ hq0 hq1).2.2.2.2.1
      have zx := nI_inj (by omega) (by omega) (hp2.symm.trans hq2)
      subst zx
      have zy := nI_inj (by omega) (by omega) (hp3.symm.trans hq3)
      subst zy
      have zz := nI_inj (by omega) (by omega) (hp4.symm.trans hq4)
      exact absurd zz (by decide)
  · rcases h2 with ⟨hq0, rfl⟩ | ⟨eXq, tXq, hq0, hq1, hq2, hq3, hq4, rfl⟩ | ⟨eXq, tXq, hq0, hq1, hq2, hq3, hq4, rfl⟩ | ⟨eXq, tXq, hq0, hq1, hq2, hq3, hq4, rfl⟩ | ⟨eXq, tXq, hq0, hq1, hq2, hq3, hq4, rfl⟩
    · have mpe := hM.2.1 _ hp0
      have mpt := (hM.2.2 _ _ hp0 hp1).2.2.2.2.1
      exact absurd ⟨_, _, hp0, hp1, hp2, hp3⟩ hq0
    · have mpe := hM.2.1 _ hp0
      have mpt := (hM.2.2 _ _ hp0 hp1).2.2.2.2.1
      have mqe := hM.2.1 _ hq0
      have mqt := (hM.2.2 _ _ hq0 hq1).2.2.2.2.1
      have zx := nI_inj (by omega) (by omega) (hp2.symm.trans hq2)
      subst zx
      have zy := nI_inj (by omega) (by omega) (hp3.symm.trans hq3)
      subst zy
      exact absurd ⟨2, by omega, by omega, hp4⟩ hq4
    · have mpe := hM.2.1 _ hp0
      have mpt := (hM.2.2 _ _ hp0 hp1).2.2.2.2.1
      have mqe := hM.2.1 _ hq0
      have mqt := (hM.2.2 _ _ hq0 hq1).2.2.2.2.1
      have zx := nI_inj (by omega) (by omega) (hp2.symm.trans hq2)
      subst zx
      have zy := nI_inj (by omega) (by omega) (hp3.symm.trans hq3)
      subst zy
      have zz := nI_inj (by omega) (by omega) (hp4.symm.trans hq4)
      exact absurd zz (by decide)
    · have mpe := hM.2.1 _ hp0
      have mpt := (hM.2.2 _ _ hp0 hp1).2.2.2.2.1
      have mqe := hM.2.1 _ hq0
      have mqt := (hM.2.2 _ _ hq0 hq1).2.2.2.2.1
      have zx := nI_inj (by omega) (by omega) (hp2.symm.trans hq2)
      subst zx
      have zy := nI_inj (by omega) (by omega) (hp3.symm.trans hq3)
      subst zy
      have zz := nI_inj (by omega) (by omega) (hp4.symm.trans hq4)
      exact absurd zz (by decide)
    · have mpe := hM.2.1 _ hp0
      have mpt := (hM.2.2 _ _ hp0 hp1).2.2.2.2.1
      have mqe := hM.2.1 _ hq0
      have mqt := (hM.2.2 _ _ hq0 hq1).2.2.2.2.1
      have zx := nI_inj (by omega) (by omega) (hp2.symm.trans hq2)
      subst zx
      have zy := nI_inj (by omega) (by omega) (hp3.symm.trans hq3)
      subst zy
      rfl
theorem eq_count {st pn : Nat} {sg : Nat → Nat} {x : Int32} {r1 r2 : Int32} (hM : mOK sg) (h1 : (x = nI 0 ∧ r1 = nI (sumN (szF sg) 8)) ∨ (x = nI 1 ∧ r1 = nI (capS (szF sg) (atF sg 5) 8)) ∨ (x = nI 2 ∧ r1 = nI (sg 0)) ∨ (x = nI 3 ∧ r1 = nI (sg 1)) ∨ (x = nI 4 ∧ r1 = nI (sg 7)) ∨ (x = nI 5 ∧ r1 = nI (sg 8)) ∨ (x = nI 6 ∧ r1 = nI (sg 9)) ∨ (x = nI 7 ∧ r1 = nI (capS (szF sg) (nrF (atF sg 4)) 8)) ∨ (x = nI 8 ∧ r1 = nI (bitsN (allF (szF sg) (atF sg 3) 8) 16)) ∨ (x = nI 9 ∧ r1 = nI st) ∨ (x = nI 10 ∧ r1 = nI pn) ∨ ((¬ ∃ k : Nat, k < 11 ∧ x = nI k) ∧ r1 = (-2))) (h2 : (x = nI 0 ∧ r2 = nI (sumN (szF sg) 8)) ∨ (x = nI 1 ∧ r2 = nI (capS (szF sg) (atF sg 5) 8)) ∨ (x = nI 2 ∧ r2 = nI (sg 0)) ∨ (x = nI 3 ∧ r2 = nI (sg 1)) ∨ (x = nI 4 ∧ r2 = nI (sg 7)) ∨ (x = nI 5 ∧ r2 = nI (sg 8)) ∨ (x = nI 6 ∧ r2 = nI (sg 9)) ∨ (x = nI 7 ∧ r2 = nI (capS (szF sg) (nrF (atF sg 4)) 8)) ∨ (x = nI 8 ∧ r2 = nI (bitsN (allF (szF sg) (atF sg 3) 8) 16)) ∨ (x = nI 9 ∧ r2 = nI st) ∨ (x = nI 10 ∧ r2 = nI pn) ∨ ((¬ ∃ k : Nat, k < 11 ∧ x = nI k) ∧ r2 = (-2))) : r1 = r2 := by
  rcases h1 with ⟨hp0, rfl⟩ | ⟨hp0, rfl⟩ | ⟨hp0, rfl⟩ | ⟨hp0, rfl⟩ | ⟨hp0, rfl⟩ | ⟨hp0, rfl⟩ | ⟨hp0, rfl⟩ | ⟨hp0, rfl⟩ | ⟨hp0, rfl⟩ | ⟨hp0, rfl⟩ | ⟨hp0, rfl⟩ | ⟨hp0, rfl⟩
  · rcases h2 with ⟨hq0, rfl⟩ | ⟨hq0, rfl⟩ | ⟨hq0, rfl⟩ | ⟨hq0, rfl⟩ | ⟨hq0, rfl⟩ | ⟨hq0, rfl⟩ | ⟨hq0, rfl⟩ | ⟨hq0, rfl⟩ | ⟨hq0, rfl⟩ | ⟨hq0, rfl⟩ | ⟨hq0, rfl⟩ | ⟨hq0, rfl⟩
    · rfl
    · have zx := nI_inj (by omega) (by omega) (hp0.symm.trans hq0)
      exact absurd zx (by decide)
    · have zx := nI_inj (by omega) (by omega) (hp0.symm.trans hq0)
      exact absurd zx (by decide)
    · have zx := nI_inj (by omega) (by omega) (hp0.symm.trans hq0)
      exact absurd zx (by decide)
    · have zx := nI_inj (by omega) (by omega) (hp0.symm.trans hq0)
      exact absurd zx (by decide)
    · have zx := nI_inj (by omega) (by omega) (hp0.symm.trans hq0)
      exact absurd zx (by decide)
    · have zx := nI_inj (by omega) (by omega) (hp0.symm.trans hq0)
      exact absurd zx (by decide)
    · have zx := nI_inj (by omega) (by omega) (hp0.symm.trans hq0)
      exact absurd zx (by decide)
    · have zx := nI_inj (by omega) (by omega) (hp0.symm.trans hq0)
      exact absurd zx (by decide)
    · have zx := nI_inj (by omega) (by omega) (hp0.symm.trans hq0)
      exact absurd zx (by decide)
    · have zx := nI_inj (by omega) (by omega) (hp0.symm.trans hq0)
      exact absurd zx (by decide)
    · exact absurd ⟨0, by omega, hp0⟩ hq0
  · rcases h2 with ⟨hq0, rfl⟩ | ⟨hq0, rfl⟩ | ⟨hq0, rfl⟩ | ⟨hq0, rfl⟩ | ⟨hq0, rfl⟩ | ⟨hq0, rfl⟩ | ⟨hq0, rfl⟩ | ⟨hq0, rfl⟩ | ⟨hq0, rfl⟩ | ⟨hq0, rfl⟩ | ⟨hq0, rfl⟩ | ⟨hq0, rfl⟩
    · have zx := nI_inj (by omega) (by omega) (hp0.symm.trans hq0)
      exact absurd zx (by decide)
    · rfl
    · have zx := nI_inj (by omega) (by omega) (hp0.symm.trans hq0)
      exact absurd zx (by decide)
    · have zx := nI_inj (by omega) (by omega) (hp0.symm.trans hq0)
      exact absurd zx (by decide)
    · have zx := nI_inj (by omega) (by omega) (hp0.symm.trans hq0)
      exact absurd zx (by decide)
    · have zx := nI_inj (by omega) (by omega) (hp0.symm.trans hq0)
      exact absurd zx (by decide)
    · have zx := nI_inj (by omega) (by omega) (hp0.symm.trans hq0)
      exact absurd zx (by decide)
    · have zx := nI_inj (by omega) (by omega) (hp0.symm.trans hq0)
      exact absurd zx (by decide)
    · have zx := nI_inj (by omega) (by omega) (hp0.symm.trans hq0)
      exact absurd zx (by decide)
    · have zx := nI_inj (by omega) (by omega) (hp0.symm.trans hq0)
      exact absurd zx (by decide)
    · have zx := nI_inj (by omega) (by omega) (hp0.symm.trans hq0)
      exact absurd zx (by decide)
    · exact absurd ⟨1, by omega, hp0⟩ hq0
  · rcases h2 with ⟨hq0, rfl⟩ | ⟨hq0, rfl⟩ | ⟨hq0, rfl⟩ | ⟨hq0, rfl⟩ | ⟨hq0, rfl⟩ | ⟨hq0, rfl⟩ | ⟨hq0, rfl⟩ | ⟨hq0, rfl⟩ | ⟨hq0, rfl⟩ | ⟨hq0, rfl⟩ | ⟨hq0, rfl⟩ | ⟨hq0, rfl⟩
    · have zx := nI_inj (by omega) (by omega) (hp0.symm.trans hq0)
      exact absurd zx (by decide)
    · have zx := nI_inj (by omega) (by omega) (hp0.symm.trans hq0)
      exact absurd zx (by decide)
    · rfl
    · have zx := nI_inj (by omega) (by omega) (hp0.symm.trans hq0)
      exact absurd zx (by decide)
    · have zx := nI_inj (by omega) (by omega) (hp0.symm.trans hq0)
      exact absurd zx (by decide)
    · have zx := nI_inj (by omega) (by omega) (hp0.symm.trans hq0)
      exact absurd zx (by decide)
    · have zx := nI_inj (by omega) (by omega) (hp0.symm.trans hq0)
      exact absurd zx (by decide)
    · have zx := nI_inj (by omega) (by omega) (hp0.symm.trans hq0)
      exact absurd zx (by decide)
    · have zx := nI_inj (by omega) (by omega) (hp0.symm.trans hq0)
      exact absurd zx (by decide)
    · have zx := nI_inj (by omega) (by omega) (hp0.symm.trans hq0)
      exact absurd zx (by decide)
    · have zx := nI_inj (by omega) (by omega) (hp0.symm.trans hq0)
      exact absurd zx (by decide)
    · exact absurd ⟨2, by omega, hp0⟩ hq0
  · rcases h2 with ⟨hq0, rfl⟩ | ⟨hq0, rfl⟩ | ⟨hq0, rfl⟩ | ⟨hq0, rfl⟩ | ⟨hq0, rfl⟩ | ⟨hq0, rfl⟩ | ⟨hq0, rfl⟩ | ⟨hq0, rfl⟩ | ⟨hq0, rfl⟩ | ⟨hq0, rfl⟩ | ⟨hq0, rfl⟩ | ⟨hq0, rfl⟩
    · have zx := nI_inj (by omega) (by omega) (hp0.symm.trans hq0)
      exact absurd zx (by decide)
    · have zx := nI_inj (by omega) (by omega) (hp0.symm.trans hq0)
      exact absurd zx (by decide)
    · have zx := nI_inj (by omega) (by omega) (hp0.symm.trans hq0)
      exact absurd zx (by decide)
    · rfl
    · have zx := nI_inj (by omega) (by omega) (hp0.symm.trans hq0)
      exact absurd zx (by decide)
    · have zx := nI_inj (by omega) (by omega) (hp0.symm.trans hq0)
      exact absurd zx (by decide)
    · have zx := nI_inj (by omega) (by omega) (hp0.symm.trans hq0)
      exact absurd zx (by decide)
    · have zx := nI_inj (by omega) (by omega) (hp0.symm.trans hq0)
      exact absurd zx (by decide)
    · have zx := nI_inj (by omega) (by omega) (hp0.symm.trans hq0)
      exact absurd zx (by decide)
    · have zx := nI_inj (by omega) (by omega) (hp0.symm.trans hq0)
      exact absurd zx (by decide)
    · have zx := nI_inj (by omega) (by omega) (hp0.symm.trans hq0)
      exact absurd zx (by decide)
    · exact absurd ⟨3, by omega, hp0⟩ hq0
  · rcases h2 with ⟨hq0, rfl⟩ | ⟨hq0, rfl⟩ | ⟨hq0, rfl⟩ | ⟨hq0, rfl⟩ | ⟨hq0, rfl⟩ | ⟨hq0, rfl⟩ | ⟨hq0, rfl⟩ | ⟨hq0, rfl⟩ | ⟨hq0, rfl⟩ | ⟨hq0, rfl⟩ | ⟨hq0, rfl⟩ | ⟨hq0, rfl⟩
    · have zx := nI_inj (by omega) (by omega) (hp0.symm.trans hq0)
      exact absurd zx (by decide)
    · have zx := nI_inj (by omega) (by omega) (hp0.symm.trans hq0)
      exact absurd zx (by decide)
    · have zx := nI_inj (by omega) (by omega) (hp0.symm.trans hq0)
      exact absurd zx (by decide)
    · have zx := nI_inj (by omega) (by omega) (hp0.symm.trans hq0)
      exact absurd zx (by decide)
    · rfl
    · have zx := nI_inj (by omega) (by omega) (hp0.symm.trans hq0)
      exact absurd zx (by decide)
    · have zx := nI_inj (by omega) (by omega) (hp0.symm.trans hq0)
      exact absurd zx (by decide)
    · have zx := nI_inj (by omega) (by omega) (hp0.symm.trans hq0)
      exact absurd zx (by decide)
    · have zx := nI_inj (by omega) (by omega) (hp0.symm.trans hq0)
      exact absurd zx (by decide)
    · have zx := nI_inj (by omega) (by omega) (hp0.symm.trans hq0)
      exact absurd zx (by decide)
    · have zx := nI_inj (by omega) (by omega) (hp0.symm.trans hq0)
      exact absurd zx (by decide)
    · exact absurd ⟨4, by omega, hp0⟩ hq0
  · rcases h2 with ⟨hq0, rfl⟩ | ⟨hq0, rfl⟩ | ⟨hq0, rfl⟩ | ⟨hq0, rfl⟩ | ⟨hq0, rfl⟩ | ⟨hq0, rfl⟩ | ⟨hq0, rfl⟩ | ⟨hq0, rfl⟩ | ⟨hq0, rfl⟩ | ⟨hq0, rfl⟩ | ⟨hq0, rfl⟩ | ⟨hq0, rfl⟩
    · have zx := nI_inj (by omega) (by omega) (hp0.symm.trans hq0)
      exact absurd zx (by decide)
    · have zx := nI_inj (by omega) (by omega) (hp0.symm.trans hq0)
      exact absurd zx (by decide)
    · have zx := nI_inj (by omega) (by omega) (hp0.symm.trans hq0)
      exact absurd zx (by decide)
    · have zx := nI_inj (by omega) (by omega) (hp0.symm.trans hq0)
      exact absurd zx (by decide)
    · have zx := nI_inj (by omega) (by omega) (hp0.symm.trans hq0)
      exact absurd zx (by decide)
    · rfl
    · have zx := nI_inj (by omega) (by omega) (hp0.symm.trans hq0)
      exact absurd zx (by decide)
    · have zx := nI_inj (by omega) (by omega) (hp0.symm.trans hq0)
      exact absurd zx (by decide)
    · have zx := nI_inj (by omega) (by omega) (hp0.symm.trans hq0)
      exact absurd zx (by decide)
    · have zx := nI_inj (by omega) (by omega) (hp0.symm.trans hq0)
      exact absurd zx (by decide)
    · have zx := nI_inj (by omega) (by omega) (hp0.symm.trans hq0)
      exact absurd zx (by decide)
    · exact absurd ⟨5, by omega, hp0⟩ hq0
  · rcases h2 with ⟨hq0, rfl⟩ | ⟨hq0, rfl⟩ | ⟨hq0, rfl⟩ | ⟨hq0, rfl⟩ | ⟨hq0, rfl⟩ | ⟨hq0, rfl⟩ | ⟨hq0, rfl⟩ | ⟨hq0, rfl⟩ | ⟨hq0, rfl⟩ | ⟨hq0, rfl⟩ | ⟨hq0, rfl⟩ | ⟨hq0, rfl⟩
    · have zx := nI_inj (by omega) (by omega) (hp0.symm.trans hq0)
      exact absurd zx (by decide)
    · have zx := nI_inj (by omega) (by omega) (hp0.symm.trans hq0)
      exact absurd zx (by decide)
    · have zx := nI_inj (by omega) (by omega) (hp0.symm.trans hq0)
      exact absurd zx (by decide)
    · have zx := nI_inj (by omega) (by omega) (hp0.symm.trans hq0)
      exact absurd zx (by decide)
    · have zx := nI_inj (by omega) (by omega) (hp0.symm.trans hq0)
      exact absurd zx (by decide)
    · have zx := nI_inj (by omega) (by omega) (hp0.symm.trans hq0)
      exact absurd zx (by decide)
    · rfl
    · have zx := nI_inj (by omega) (by omega) (hp0.symm.trans hq0)
      exact absurd zx (by decide)
    · have zx := nI_inj (by omega) (by omega) (hp0.symm.trans hq0)
      exact absurd zx (by decide)
    · have zx := nI_inj (by omega) (by omega) (hp0.symm.trans hq0)
      exact absurd zx (by decide)
    · have zx := nI_inj (by omega) (by omega) (hp0.symm.trans hq0)
      exact absurd zx (by decide)
    · exact absurd ⟨6, by omega, hp0⟩ hq0
  · rcases h2 with ⟨hq0, rfl⟩ | ⟨hq0, rfl⟩ | ⟨hq0, rfl⟩ | ⟨hq0, rfl⟩ | ⟨hq0, rfl⟩ | ⟨hq0, rfl⟩ | ⟨hq0, rfl⟩ | ⟨hq0, rfl⟩ | ⟨hq0, rfl⟩ | ⟨hq0, rfl⟩ | ⟨hq0, rfl⟩ | ⟨hq0, rfl⟩
    · have zx := nI_inj (by omega) (by omega) (hp0.symm.trans hq0)
      exact absurd zx (by decide)
    · have zx := nI_inj (by omega) (by omega) (hp0.symm.trans hq0)
      exact absurd zx (by decide)
    · have zx := nI_inj (by omega) (by omega) (hp0.symm.trans hq0)
      exact absurd zx (by decide)
    · have zx := nI_inj (by omega) (by omega) (hp0.symm.trans hq0)
      exact absurd zx (by decide)
    · have zx := nI_inj (by omega) (by omega) (hp0.symm.trans hq0)
      exact absurd zx (by decide)
    · have zx := nI_inj (by omega) (by omega) (hp0.symm.trans hq0)
      exact absurd zx (by decide)
    · have zx := nI_inj (by omega) (by omega) (hp0.symm.trans hq0)
      exact absurd zx (by decide)
    · rfl
    · have zx := nI_inj (by omega) (by omega) (hp0.symm.trans hq0)
      exact absurd zx (by decide)
    · have zx := nI_inj (by omega) (by omega) (hp0.symm.trans hq0)
      exact absurd zx (by decide)
    · have zx := nI_inj (by omega) (by omega) (hp0.symm.trans hq0)
      exact absurd zx (by decide)
    · exact absurd ⟨7, by omega, hp0⟩ hq0
  · rcases h2 with ⟨hq0, rfl⟩ | ⟨hq0, rfl⟩ | ⟨hq0, rfl⟩ | ⟨hq0, rfl⟩ | ⟨hq0, rfl⟩ | ⟨hq0, rfl⟩ | ⟨hq0, rfl⟩ | ⟨hq0, rfl⟩ | ⟨hq0, rfl⟩ | ⟨hq0, rfl⟩ | ⟨hq0, rfl⟩ | ⟨hq0, rfl⟩
    · have zx := nI_inj (by omega) (by omega) (hp0.symm.trans hq0)
      exact absurd zx (by decide)
    · have zx := nI_inj (by omega) (by omega) (hp0.symm.trans hq0)
      exact absurd zx (by decide)
    · have zx := nI_inj (by omega) (by omega) (hp0.symm.trans hq0)
      exact absurd zx (by decide)
    · have zx := nI_inj (by omega) (by omega) (hp0.symm.trans hq0)
      exact absurd zx (by decide)
    · have zx := nI_inj (by omega) (by omega) (hp0.symm.trans hq0)
      exact absurd zx (by decide)
    · have zx := nI_inj (by omega) (by omega) (hp0.symm.trans hq0)
      exact absurd zx (by decide)
    · have zx := nI_inj (by omega) (by omega) (hp0.symm.trans hq0)
      exact absurd zx (by decide)
    · have zx := nI_inj (by omega) (by omega) (hp0.symm.trans hq0)
      exact absurd zx (by decide)
    · rfl
    · have zx := nI_inj (by omega) (by omega) (hp0.symm.trans hq0)
      exact absurd zx (by decide)
    · have zx := nI_inj (by omega) (by omega) (hp0.symm.trans hq0)
      exact absurd zx (by decide)
    · exact absurd ⟨8, by omega, hp0⟩ hq0
  · rcases h2 with ⟨hq0, rfl⟩ | ⟨hq0, rfl⟩ | ⟨hq0, rfl⟩ | ⟨hq0, rfl⟩ | ⟨hq0, rfl⟩ | ⟨hq0, rfl⟩ | ⟨hq0, rfl⟩ | ⟨hq0, rfl⟩ | ⟨hq0, rfl⟩ | ⟨hq0, rfl⟩ | ⟨hq0, rfl⟩ | ⟨hq0, rfl⟩
    · have zx := nI_inj (by omega) (by omega) (hp0.symm.trans hq0)
      exact absurd zx (by decide)
    · have zx := nI_inj (by omega) (by omega) (hp0.symm.trans hq0)
      exact absurd zx (by decide)
    · have zx := nI_inj (by omega) (by omega) (hp0.symm.trans hq0)
      exact absurd zx (by decide)
    · have zx := nI_inj (by omega) (by omega) (hp0.symm.trans hq0)
      exact absurd zx (by decide)
    · have zx := nI_inj (by omega) (by omega) (hp0.symm.trans hq0)
      exact absurd zx (by decide)
    · have zx := nI_inj (by omega) (by omega) (hp0.symm.trans hq0)
      exact absurd zx (by decide)
    · have zx := nI_inj (by omega) (by omega) (hp0.symm.trans hq0)
      exact absurd zx (by decide)
    · have zx := nI_inj (by omega) (by omega) (hp0.symm.trans hq0)
      exact absurd zx (by decide)
    · have zx := nI_inj (by omega) (by omega) (hp0.symm.trans hq0)
      exact absurd zx (by decide)
    · rfl
    · have zx := nI_inj (by omega) (by omega) (hp0.symm.trans hq0)
      exact absurd zx (by decide)
    · exact absurd ⟨9, by omega, hp0⟩ hq0
  · rcases h2 with ⟨hq0, rfl⟩ | ⟨hq0, rfl⟩ | ⟨hq0, rfl⟩ | ⟨hq0, rfl⟩ | ⟨hq0, rfl⟩ | ⟨hq0, rfl⟩ | ⟨hq0, rfl⟩ | ⟨hq0, rfl⟩ | ⟨hq0, rfl⟩ | ⟨hq0, rfl⟩ | ⟨hq0, rfl⟩ | ⟨hq0, rfl⟩
    · have zx := nI_inj (by omega) (by omega) (hp0.symm.trans hq0)
      exact absurd zx (by decide)
    · have zx := nI_inj (by omega) (by omega) (hp0.symm.trans hq0)
      exact absurd zx (by decide)
    · have zx := nI_inj (by omega) (by omega) (hp0.symm.trans hq0)
      exact absurd zx (by decide)
    · have zx := nI_inj (by omega) (by omega) (hp0.symm.trans hq0)
      exact absurd zx (by decide)
    · have zx := nI_inj (by omega) (by omega) (hp0.symm.trans hq0)
      exact absurd zx (by decide)
    · have zx := nI_inj (by omega) (by omega) (hp0.symm.trans hq0)
      exact absurd zx (by decide)
    · have zx := nI_inj (by omega) (by omega) (hp0.symm.trans hq0)
      exact absurd zx (by decide)
    · have zx := nI_inj (by omega) (by omega) (hp0.symm.trans hq0)
      exact absurd zx (by decide)
    · have zx := nI_inj (by omega) (by omega) (hp0.symm.trans hq0)
      exact absurd zx (by decide)
    · have zx := nI_inj (by omega) (by omega) (hp0.symm.trans hq0)
      exact absurd zx (by decide)
    · rfl
    · exact absurd ⟨10, by omega, hp0⟩ hq0
  · rcases h2 with ⟨hq0, rfl⟩ | ⟨hq0, rfl⟩ | ⟨hq0, rfl⟩ | ⟨hq0, rfl⟩ | ⟨hq0, rfl⟩ | ⟨hq0, rfl⟩ | ⟨hq0, rfl⟩ | ⟨hq0, rfl⟩ | ⟨hq0, rfl⟩ | ⟨hq0, rfl⟩ | ⟨hq0, rfl⟩ | ⟨hq0, rfl⟩
    · exact absurd ⟨0, by omega, hq0⟩ hp0
    · exact absurd ⟨1, by omega, hq0⟩ hp0
    · exact absurd ⟨2, by omega, hq0⟩ hp0
    · exact absurd ⟨3, by omega, hq0⟩ hp0
    · exact absurd ⟨4, by omega, hq0⟩ hp0
    · exact absurd ⟨5, by omega, hq0⟩ hp0
    · exact absurd ⟨6, by omega, hq0⟩ hp0
    · exact absurd ⟨7, by omega, hq0⟩ hp0
    · exact absurd ⟨8, by omega, hq0⟩ hp0
    · exact absurd ⟨9, by omega, hq0⟩ hp0
    · exact absurd ⟨10, by omega, hq0⟩ hp0
    · rfl
theorem eq_round {sg : Nat → Nat} {x y z : Int32} {r1 r2 : Int32} {u : (Nat → Nat) × (Nat → Nat) × (Nat → Nat)} (h1 : (∃ (gU : Nat → Nat) (zU : Nat → Nat) (cU : Nat → Nat), ¬ pVi x y z ∧ r1 = (-2) ∧ u = (gU, zU, cU)) ∨ (∃ (aX : Nat) (pX : Nat) (sX : Nat) (gU : Nat → Nat) (zU : Nat → Nat) (cU : Nat → Nat), 4 ≤ aX ∧ aX ≤ 99 ∧ 30 ≤ pX ∧ pX ≤ 400 ∧ 1 ≤ sX ∧ sX ≤ 9999 ∧ x = nI aX ∧ y = nI pX ∧ z = nI sX ∧ r1 = nI ((rnS (sg 1) pX sX (fun k => shT sg ((sg 0 + k) % 8) aX) (fun k => atF sg 3 ((sg 0 + k) % 8)) (fun k => atF sg 0 ((sg 0 + k) % 8)) 8).2) ∧ u = (gU, zU, cU))) (h2 : (¬ pVi x y z ∧ r2 = (-2)) ∨ (∃ (aX : Nat) (pX : Nat) (sX : Nat), 4 ≤ aX ∧ aX ≤ 99 ∧ 30 ≤ pX ∧ pX ≤ 400 ∧ 1 ≤ sX ∧ sX ≤ 9999 ∧ x = nI aX ∧ y = nI pX ∧ z = nI sX ∧ r2 = nI ((rnS (sg 1) pX sX (fun k => shT sg ((sg 0 + k) % 8) aX) (fun k => atF sg 3 ((sg 0 + k) % 8)) (fun k => atF sg 0 ((sg 0 + k) % 8)) 8).2))) : r1 = r2 := by
  rcases h1 with ⟨gUp, zUp, cUp, hp0, rfl, rfl⟩ | ⟨aXp, pXp, sXp, gUp, zUp, cUp, hp0, hp1, hp2, hp3, hp4, hp5, hp6, hp7, hp8, rfl, rfl⟩
  · rcases h2 with ⟨hq0, rfl⟩ | ⟨aXq, pXq, sXq, hq0, hq1, hq2, hq3, hq4, hq5, hq6, hq7, hq8, rfl⟩
    · rfl
    · exact absurd ⟨_, _, _, hq0, hq1, hq2, hq3, hq4, hq5, hq6, hq7, hq8⟩ hp0
  · rcases h2 with ⟨hq0, rfl⟩ | ⟨aXq, pXq, sXq, hq0, hq1, hq2, hq3, hq4, hq5, hq6, hq7, hq8, rfl⟩
    · exact absurd ⟨_, _, _, hp0, hp1, hp2, hp3, hp4, hp5, hp6, hp7, hp8⟩ hq0
    · have zx := nI_inj (by omega) (by omega) (hp6.symm.trans hq6)
      subst zx
      have zy := nI_inj (by omega) (by omega) (hp7.symm.trans hq7)
      subst zy
      have zz := nI_inj (by omega) (by omega) (hp8.symm.trans hq8)
      subst zz
      rfl
theorem eq_refusal {re er ra rb x : Int32} {r1 r2 : Int32} (hr : (er = 0 ∧ ra = -5 ∧ rb = -5) ∨ (¬ er = 0 ∧ re = ra ∧ er = rb)) (h1 : ((¬ ∃ n : Nat, 0 ≤ n ∧ n ≤ 1 ∧ x = nI n) ∧ r1 = (-2)) ∨ (∃ (wX : Nat), wX ≤ 1 ∧ x = nI wX ∧ er = 0 ∧ r1 = (-5)) ∨ (x = nI 0 ∧ ¬ er = 0 ∧ r1 = re) ∨ (x = nI 1 ∧ ¬ er = 0 ∧ r1 = er)) (h2 : ((¬ ∃ n : Nat, 0 ≤ n ∧ n ≤ 1 ∧ x = nI n) ∧ r2 = (-2)) ∨ (x = nI 0 ∧ r2 = ra) ∨ (x = nI 1 ∧ r2 = rb)) : r1 = r2 := by
  rcases h1 with ⟨h1, rfl⟩ | ⟨w1, hw, hx, h1, rfl⟩ | ⟨hx, h1, rfl⟩ | ⟨hx, h1, rfl⟩
  · rcases h2 with ⟨h2, rfl⟩ | ⟨h2, rfl⟩ | ⟨h2, rfl⟩
    · rfl
    · exact absurd ⟨0, by omega, by omega, h2⟩ h1
    · exact absurd ⟨1, by omega, by omega, h2⟩ h1
  · rcases hr with ⟨-, e1, e2⟩ | ⟨n, -, -⟩
    · rcases h2 with ⟨h2, rfl⟩ | ⟨h2, rfl⟩ | ⟨h2, rfl⟩
      · exact absurd ⟨w1, by omega, hw, hx⟩ h2
      · exact e1.symm
      · exact e2.symm
    · exact absurd h1 n
  · rcases hr with ⟨n, -, -⟩ | ⟨-, e1, e2⟩
    · exact absurd n h1
    · rcases h2 with ⟨h2, rfl⟩ | ⟨h2, rfl⟩ | ⟨h2, rfl⟩
      · exact absurd ⟨0, by omega, by omega, hx⟩ h2
      · exact e1
      · exact absurd (nI_inj (by omega) (by omega) (hx.symm.trans h2)) (by decide)
  · rcases hr with ⟨n, -, -⟩ | ⟨-, e1, e2⟩
    · exact absurd n h1
    · rcases h2 with ⟨h2, rfl⟩ | ⟨h2, rfl⟩ | ⟨h2, rfl⟩
      · exact absurd ⟨1, by omega, by omega, hx⟩ h2
      · exact absurd (nI_inj (by omega) (by omega) (hx.symm.trans h2)) (by decide)
      · exact e2
