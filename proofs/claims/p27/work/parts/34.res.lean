/-! what calls answer, of arguments that are known -/
theorem tx_0 {sg : Nat → Nat} {e t : Nat} {r : Int32} (hM : mOK sg) (he : e < 8) (ht : t < sg (10 + 76 * e)) (ht9 : t < 1000000) (h : (¬ pTn (szF sg) (nI e) (nI t) ∧ r = (-1)) ∨ (∃ (eX : Nat) (tX : Nat), eX < 8 ∧ tX < sg (10 + 76 * eX) ∧ (nI e) = nI eX ∧ (nI t) = nI tX ∧ (nI 0) = nI 0 ∧ r = nI (sg (11 + 76 * eX + 15 * tX + 0))) ∨ (∃ (eX : Nat) (tX : Nat), eX < 8 ∧ tX < sg (10 + 76 * eX) ∧ (nI e) = nI eX ∧ (nI t) = nI tX ∧ (nI 0) = nI 1 ∧ r = nI (sg (11 + 76 * eX + 15 * tX + 1))) ∨ (∃ (eX : Nat) (tX : Nat), eX < 8 ∧ tX < sg (10 + 76 * eX) ∧ (nI e) = nI eX ∧ (nI t) = nI tX ∧ (nI 0) = nI 2 ∧ r = nI (sg (11 + 76 * eX + 15 * tX + 2))) ∨ (∃ (eX : Nat) (tX : Nat), eX < 8 ∧ tX < sg (10 + 76 * eX) ∧ (nI e) = nI eX ∧ (nI t) = nI tX ∧ (nI 0) = nI 3 ∧ r = nI (sg (11 + 76 * eX + 15 * tX + 3))) ∨ (∃ (eX : Nat) (tX : Nat), eX < 8 ∧ tX < sg (10 + 76 * eX) ∧ (nI e) = nI eX ∧ (nI t) = nI tX ∧ (nI 0) = nI 4 ∧ r = nI (rdg sg eX tX)) ∨ (∃ (eX : Nat) (tX : Nat), eX < 8 ∧ tX < sg (10 + 76 * eX) ∧ (nI e) = nI eX ∧ (nI t) = nI tX ∧ (nI 0) = nI 5 ∧ r = nI (sg (11 + 76 * eX + 15 * tX + 5))) ∨ (∃ (eX : Nat) (tX : Nat), eX < 8 ∧ tX < sg (10 + 76 * eX) ∧ (nI e) = nI eX ∧ (nI t) = nI tX ∧ (nI 0) = nI 6 ∧ r = nI (sg (11 + 76 * eX + 15 * tX + 4))) ∨ (∃ (eX : Nat) (tX : Nat), eX < 8 ∧ tX < sg (10 + 76 * eX) ∧ (nI e) = nI eX ∧ (nI t) = nI tX ∧ (¬ ∃ k : Nat, k < 7 ∧ (nI 0) = nI k) ∧ r = (-2))) : r = nI (sg (11 + 76 * e + 15 * t + 0)) := by
  rcases h with ⟨h, -⟩ | ⟨e1, t1, q1, q2, q3, q4, q5, rfl⟩ | ⟨e1, t1, q1, q2, q3, q4, q5, rfl⟩ | ⟨e1, t1, q1, q2, q3, q4, q5, rfl⟩ | ⟨e1, t1, q1, q2, q3, q4, q5, rfl⟩ | ⟨e1, t1, q1, q2, q3, q4, q5, rfl⟩ | ⟨e1, t1, q1, q2, q3, q4, q5, rfl⟩ | ⟨e1, t1, q1, q2, q3, q4, q5, rfl⟩ | ⟨e1, t1, q1, q2, q3, q4, q5, -⟩
  · exact absurd ⟨e, t, he, ht, rfl, rfl⟩ h
  · have i1 := nI_inj (by omega) (by omega) q3
    subst i1
    have h5 := hM.2.1 e q1
    have i2 := nI_inj (by omega) (by omega) q4
    subst i2
    rfl
  · have i3 := nI_inj (by omega) (by omega) q5
    omega
  · have i3 := nI_inj (by omega) (by omega) q5
    omega
  · have i3 := nI_inj (by omega) (by omega) q5
    omega
  · have i3 := nI_inj (by omega) (by omega) q5
    omega
  · have i3 := nI_inj (by omega) (by omega) q5
    omega
  · have i3 := nI_inj (by omega) (by omega) q5
    omega
  · exact absurd ⟨0, by decide, rfl⟩ q5
theorem tx_1 {sg : Nat → Nat} {e t : Nat} {r : Int32} (hM : mOK sg) (he : e < 8) (ht : t < sg (10 + 76 * e)) (ht9 : t < 1000000) (h : (¬ pTn (szF sg) (nI e) (nI t) ∧ r = (-1)) ∨ (∃ (eX : Nat) (tX : Nat), eX < 8 ∧ tX < sg (10 + 76 * eX) ∧ (nI e) = nI eX ∧ (nI t) = nI tX ∧ (nI 1) = nI 0 ∧ r = nI (sg (11 + 76 * eX + 15 * tX + 0))) ∨ (∃ (eX : Nat) (tX : Nat), eX < 8 ∧ tX < sg (10 + 76 * eX) ∧ (nI e) = nI eX ∧ (nI t) = nI tX ∧ (nI 1) = nI 1 ∧ r = nI (sg (11 + 76 * eX + 15 * tX + 1))) ∨ (∃ (eX : Nat) (tX : Nat), eX < 8 ∧ tX < sg (10 + 76 * eX) ∧ (nI e) = nI eX ∧ (nI t) = nI tX ∧ (nI 1) = nI 2 ∧ r = nI (sg (11 + 76 * eX + 15 * tX + 2))) ∨ (∃ (eX : Nat) (tX : Nat), eX < 8 ∧ tX < sg (10 + 76 * eX) ∧ (nI e) = nI eX ∧ (nI t) = nI tX ∧ (nI 1) = nI 3 ∧ r = nI (sg (11 + 76 * eX + 15 * tX + 3))) ∨ (∃ (eX : Nat) (tX : Nat), eX < 8 ∧ tX < sg (10 + 76 * eX) ∧ (nI e) = nI eX ∧ (nI t) = nI tX ∧ (nI 1) = nI 4 ∧ r = nI (rdg sg eX tX)) ∨ (∃ (eX : Nat) (tX : Nat), eX < 8 ∧ tX < sg (10 + 76 * eX) ∧ (nI e) = nI eX ∧ (nI t) = nI tX ∧ (nI 1) = nI 5 ∧ r = nI (sg (11 + 76 * eX + 15 * tX + 5))) ∨ (∃ (eX : Nat) (tX : Nat), eX < 8 ∧ tX < sg (10 + 76 * eX) ∧ (nI e) = nI eX ∧ (nI t) = nI tX ∧ (nI 1) = nI 6 ∧ r = nI (sg (11 + 76 * eX + 15 * tX + 4))) ∨ (∃ (eX : Nat) (tX : Nat), eX < 8 ∧ tX < sg (10 + 76 * eX) ∧ (nI e) = nI eX ∧ (nI t) = nI tX ∧ (¬ ∃ k : Nat, k < 7 ∧ (nI 1) = nI k) ∧ r = (-2))) : r = nI (sg (11 + 76 * e + 15 * t + 1)) := by
  rcases h with ⟨h, -⟩ | ⟨e1, t1, q1, q2, q3, q4, q5, rfl⟩ | ⟨e1, t1, q1, q2, q3, q4, q5, rfl⟩ | ⟨e1, t1, q1, q2, q3, q4, q5, rfl⟩ | ⟨e1, t1, q1, q2, q3, q4, q5, rfl⟩ | ⟨e1, t1, q1, q2, q3, q4, q5, rfl⟩ | ⟨e1, t1, q1, q2, q3, q4, q5, rfl⟩ | ⟨e1, t1, q1, q2, q3, q4, q5, rfl⟩ | ⟨e1, t1, q1, q2, q3, q4, q5, -⟩
  · exact absurd ⟨e, t, he, ht, rfl, rfl⟩ h
  · have i3 := nI_inj (by omega) (by omega) q5
    omega
  · have i1 := nI_inj (by omega) (by omega) q3
    subst i1
    have h5 := hM.2.1 e q1
    have i2 := nI_inj (by omega) (by omega) q4
    subst i2
    rfl
  · have i3 := nI_inj (by omega) (by omega) q5
    omega
  · have i3 := nI_inj (by omega) (by omega) q5
    omega
  · have i3 := nI_inj (by omega) (by omega) q5
    omega
  · have i3 := nI_inj (by omega) (by omega) q5
    omega
  · have i3 := nI_inj (by omega) (by omega) q5
    omega
  · exact absurd ⟨1, by decide, rfl⟩ q5
theorem tx_2 {sg : Nat → Nat} {e t : Nat} {r : Int32} (hM : mOK sg) (he : e < 8) (ht : t < sg (10 + 76 * e)) (ht9 : t < 1000000) (h : (¬ pTn (szF sg) (nI e) (nI t) ∧ r = (-1)) ∨ (∃ (eX : Nat) (tX : Nat), eX < 8 ∧ tX < sg (10 + 76 * eX) ∧ (nI e) = nI eX ∧ (nI t) = nI tX ∧ (nI 2) = nI 0 ∧ r = nI (sg (11 + 76 * eX + 15 * tX + 0))) ∨ (∃ (eX : Nat) (tX : Nat), eX < 8 ∧ tX < sg (10 + 76 * eX) ∧ (nI e) = nI eX ∧ (nI t) = nI tX ∧ (nI 2) = nI 1 ∧ r = nI (sg (11 + 76 * eX + 15 * tX + 1))) ∨ (∃ (eX : Nat) (tX : Nat), eX < 8 ∧ tX < sg (10 + 76 * eX) ∧ (nI e) = nI eX ∧ (nI t) = nI tX ∧ (nI 2) = nI 2 ∧ r = nI (sg (11 + 76 * eX + 15 * tX + 2))) ∨ (∃ (eX : Nat) (tX : Nat), eX < 8 ∧ tX < sg (10 + 76 * eX) ∧ (nI e) = nI eX ∧ (nI t) = nI tX ∧ (nI 2) = nI 3 ∧ r = nI (sg (11 + 76 * eX + 15 * tX + 3))) ∨ (∃ (eX : Nat) (tX : Nat), eX < 8 ∧ tX < sg (10 + 76 * eX) ∧ (nI e) = nI eX ∧ (nI t) = nI tX ∧ (nI 2) = nI 4 ∧ r = nI (rdg sg eX tX)) ∨ (∃ (eX : Nat) (tX : Nat), eX < 8 ∧ tX < sg (10 + 76 * eX) ∧ (nI e) = nI eX ∧ (nI t) = nI tX ∧ (nI 2) = nI 5 ∧ r = nI (sg (11 + 76 * eX + 15 * tX + 5))) ∨ (∃ (eX : Nat) (tX : Nat), eX < 8 ∧ tX < sg (10 + 76 * eX) ∧ (nI e) = nI eX ∧ (nI t) = nI tX ∧ (nI 2) = nI 6 ∧ r = nI (sg (11 + 76 * eX + 15 * tX + 4))) ∨ (∃ (eX : Nat) (tX : Nat), eX < 8 ∧ tX < sg (10 + 76 * eX) ∧ (nI e) = nI eX ∧ (nI t) = nI tX ∧ (¬ ∃ k : Nat, k < 7 ∧ (nI 2) = nI k) ∧ r = (-2))) : r = nI (sg (11 + 76 * e + 15 * t + 2)) := by
  rcases h with ⟨h, -⟩ | ⟨e1, t1, q1, q2, q3, q4, q5, rfl⟩ | ⟨e1, t1, q1, q2, q3, q4, q5, rfl⟩ | ⟨e1, t1, q1, q2, q3, q4, q5, rfl⟩ | ⟨e1, t1, q1, q2, q3, q4, q5, rfl⟩ | ⟨e1, t1, q1, q2, q3, q4, q5, rfl⟩ | ⟨e1, t1, q1, q2, q3, q4, q5, rfl⟩ | ⟨e1, t1, q1, q2, q3, q4, q5, rfl⟩ | ⟨e1, t1, q1, q2, q3, q4, q5, -⟩
  · exact absurd ⟨e, t, he, ht, rfl, rfl⟩ h
  · have i3 := nI_inj (by omega) (by omega) q5
    omega
  · have i3 := nI_inj (by omega) (by omega) q5
    omega
  · have i1 := nI_inj (by omega) (by omega) q3
    subst i1
    have h5 := hM.2.1 e q1
    have i2 := nI_inj (by omega) (by omega) q4
    subst i2
    rfl
  · have i3 := nI_inj (by omega) (by omega) q5
    omega
  · have i3 := nI_inj (by omega) (by omega) q5
    omega
  · have i3 := nI_inj (by omega) (by omega) q5
    omega
  · have i3 := nI_inj (by omega) (by omega) q5
    omega
  · exact absurd ⟨2, by decide, rfl⟩ q5
theorem tx_3 {sg : Nat → Nat} {e t : Nat} {r : Int32} (hM : mOK sg) (he : e < 8) (ht : t < sg (10 + 76 * e)) (ht9 : t < 1000000) (h : (¬ pTn (szF sg) (nI e) (nI t) ∧ r = (-1)) ∨ (∃ (eX : Nat) (tX : Nat), eX < 8 ∧ tX < sg (10 + 76 * eX) ∧ (nI e) = nI eX ∧ (nI t) = nI tX ∧ (nI 3) = nI 0 ∧ r = nI (sg (11 + 76 * eX + 15 * tX + 0))) ∨ (∃ (eX : Nat) (tX : Nat), eX < 8 ∧ tX < sg (10 + 76 * eX) ∧ (nI e) = nI eX ∧ (nI t) = nI tX ∧ (nI 3) = nI 1 ∧ r = nI (sg (11 + 76 * eX + 15 * tX + 1))) ∨ (∃ (eX : Nat) (tX : Nat), eX < 8 ∧ tX < sg (10 + 76 * eX) ∧ (nI e) = nI eX ∧ (nI t) = nI tX ∧ (nI 3) = nI 2 ∧ r = nI (sg (11 + 76 * eX + 15 * tX + 2))) ∨ (∃ (eX : Nat) (tX : Nat), eX < 8 ∧ tX < sg (10 + 76 * eX) ∧ (nI e) = nI eX ∧ (nI t) = nI tX ∧ (nI 3) = nI 3 ∧ r = nI (sg (11 + 76 * eX + 15 * tX + 3))) ∨ (∃ (eX : Nat) (tX : Nat), eX < 8 ∧ tX < sg (10 + 76 * eX) ∧ (nI e) = nI eX ∧ (nI t) = nI tX ∧ (nI 3) = nI 4 ∧ r = nI (rdg sg eX tX)) ∨ (∃ (eX : Nat) (tX : Nat), eX < 8 ∧ tX < sg (10 + 76 * eX) ∧ (nI e) = nI eX ∧ (nI t) = nI tX ∧ (nI 3) = nI 5 ∧ r = nI (sg (11 + 76 * eX + 15 * tX + 5))) ∨ (∃ (eX : Nat) (tX : Nat), eX < 8 ∧ tX < sg (10 + 76 * eX) ∧ (nI e) = nI eX ∧ (nI t) = nI tX ∧ (nI 3) = nI 6 ∧ r = nI (sg (11 + 76 * eX + 15 * tX + 4))) ∨ (∃ (eX : Nat) (tX : Nat), eX < 8 ∧ tX < sg (10 + 76 * eX) ∧ (nI e) = nI eX ∧ (nI t) = nI tX ∧ (¬ ∃ k : Nat, k < 7 ∧ (nI 3) = nI k) ∧ r = (-2))) : r = nI (sg (11 + 76 * e + 15 * t + 3)) := by
  rcases h with ⟨h, -⟩ | ⟨e1, t1, q1, q2, q3, q4, q5, rfl⟩ | ⟨e1, t1, q1, q2, q3, q4, q5, rfl⟩ | ⟨e1, t1, q1, q2, q3, q4, q5, rfl⟩ | ⟨e1, t1, q1, q2, q3, q4, q5, rfl⟩ | ⟨e1, t1, q1, q2, q3, q4, q5, rfl⟩ | ⟨e1, t1, q1, q2, q3, q4, q5, rfl⟩ | ⟨e1, t1, q1, q2, q3, q4, q5, rfl⟩ | ⟨e1, t1, q1, q2, q3, q4, q5, -⟩
  · exact absurd ⟨e, t, he, ht, rfl, rfl⟩ h
  · have i3 := nI_inj (by omega) (by omega) q5
    omega
  · have i3 := nI_inj (by omega) (by omega) q5
    omega
  · have i3 := nI_inj (by omega) (by omega) q5
    omega
  · have i1 := nI_inj (by omega) (by omega) q3
    subst i1
    have h5 := hM.2.1 e q1
    have i2 := nI_inj (by omega) (by omega) q4
    subst i2
    rfl
  · have i3 := nI_inj (by omega) (by omega) q5
    omega
  · have i3 := nI_inj (by omega) (by omega) q5
    omega
  · have i3 := nI_inj (by omega) (by omega) q5
    omega
  · exact absurd ⟨3, by decide, rfl⟩ q5
theorem tx_4 {sg : Nat → Nat} {e t : Nat} {r : Int32} (hM : mOK sg) (he : e < 8) (ht : t < sg (10 + 76 * e)) (ht9 : t < 1000000) (h : (¬ pTn (szF sg) (nI e) (nI t) ∧ r = (-1)) ∨ (∃ (eX : Nat) (tX : Nat), eX < 8 ∧ tX < sg (10 + 76 * eX) ∧ (nI e) = nI eX ∧ (nI t) = nI tX ∧ (nI 4) = nI 0 ∧ r = nI (sg (11 + 76 * eX + 15 * tX + 0))) ∨ (∃ (eX : Nat) (tX : Nat), eX < 8 ∧ tX < sg (10 + 76 * eX) ∧ (nI e) = nI eX ∧ (nI t) = nI tX ∧ (nI 4) = nI 1 ∧ r = nI (sg (11 + 76 * eX + 15 * tX + 1))) ∨ (∃ (eX : Nat) (tX : Nat), eX < 8 ∧ tX < sg (10 + 76 * eX) ∧ (nI e) = nI eX ∧ (nI t) = nI tX ∧ (nI 4) = nI 2 ∧ r = nI (sg (11 + 76 * eX + 15 * tX + 2))) ∨ (∃ (eX : Nat) (tX : Nat), eX < 8 ∧ tX < sg (10 + 76 * eX) ∧ (nI e) = nI eX ∧ (nI t) = nI tX ∧ (nI 4) = nI 3 ∧ r = nI (sg (11 + 76 * eX + 15 * tX + 3))) ∨ (∃ (eX : Nat) (tX : Nat), eX < 8 ∧ tX < sg (10 + 76 * eX) ∧ (nI e) = nI eX ∧ (nI t) = nI tX ∧ (nI 4) = nI 4 ∧ r = nI (rdg sg eX tX)) ∨ (∃ (eX : Nat) (tX : Nat), eX < 8 ∧ tX < sg (10 + 76 * eX) ∧ (nI e) = nI eX ∧ (nI t) = nI tX ∧ (nI 4) = nI 5 ∧ r = nI (sg (11 + 76 * eX + 15 * tX + 5))) ∨ (∃ (eX : Nat) (tX : Nat), eX < 8 ∧ tX < sg (10 + 76 * eX) ∧ (nI e) = nI eX ∧ (nI t) = nI tX ∧ (nI 4) = nI 6 ∧ r = nI (sg (11 + 76 * eX + 15 * tX + 4))) ∨ (∃ (eX : Nat) (tX : Nat), eX < 8 ∧ tX < sg (10 + 76 * eX) ∧ (nI e) = nI eX ∧ (nI t) = nI tX ∧ (¬ ∃ k : Nat, k < 7 ∧ (nI 4) = nI k) ∧ r = (-2))) : r = nI (rdg sg e t) := by
  rcases h with ⟨h, -⟩ | ⟨e1, t1, q1, q2, q3, q4, q5, rfl⟩ | ⟨e1, t1, q1, q2, q3, q4, q5, rfl⟩ | ⟨e1, t1, q1, q2, q3, q4, q5, rfl⟩ | ⟨e1, t1, q1, q2, q3, q4, q5, rfl⟩ | ⟨e1, t1, q1, q2, q3, q4, q5, rfl⟩ | ⟨e1, t1, q1, q2, q3, q4, q5, rfl⟩ | ⟨e1, t1, q1, q2, q3, q4, q5, rfl⟩ | ⟨e1, t1, q1, q2, q3, q4, q5, -⟩
  · exact absurd ⟨e, t, he, ht, rfl, rfl⟩ h
  · have i3 := nI_inj (by omega) (by omega) q5
    omega
  · have i3 := nI_inj (by omega) (by omega) q5
    omega
  · have i3 := nI_inj (by omega) (by omega) q5
    omega
  · have i3 := nI_inj (by omega) (by omega) q5
    omega
  · have i1 := nI_inj (by omega) (by omega) q3
    subst i1
    have h5 := hM.2.1 e q1
    have i2 := nI_inj (by omega) (by omega) q4
    subst i2
    rfl
  · have i3 := nI_inj (by omega) (by omega) q5
    omega
  · have i3 := nI_inj (by omega) (by omega) q5
    omega
  · exact absurd ⟨4, by decide, rfl⟩ q5
theorem tx_5 {sg : Nat → Nat} {e t : Nat} {r : Int32} (hM : mOK sg) (he : e < 8) (ht : t < sg (10 + 76 * e)) (ht9 : t < 1000000) (h : (¬ pTn (szF sg) (nI e) (nI t) ∧ r = (-1)) ∨ (∃ (eX : Nat) (tX : Nat), eX < 8 ∧ tX < sg (10 + 76 * eX) ∧ (nI e) = nI eX ∧ (nI t) = nI tX ∧ (nI 5) = nI 0 ∧ r = nI (sg (11 + 76 * eX + 15 * tX + 0))) ∨ (∃ (eX : Nat) (tX : Nat), eX < 8 ∧ tX < sg (10 + 76 * eX) ∧ (nI e) = nI eX ∧ (nI t) = nI tX ∧ (nI 5) = nI 1 ∧ r = nI (sg (11 + 76 * eX + 15 * tX + 1))) ∨ (∃ (eX : Nat) (tX : Nat), eX < 8 ∧ tX < sg (10 + 76 * eX) ∧ (nI e) = nI eX ∧ (nI t) = nI tX ∧ (nI 5) = nI 2 ∧ r = nI (sg (11 + 76 * eX + 15 * tX + 2))) ∨ (∃ (eX : Nat) (tX : Nat), eX < 8 ∧ tX < sg (10 + 76 * eX) ∧ (nI e) = nI eX ∧ (nI t) = nI tX ∧ (nI 5) = nI 3 ∧ r = nI (sg (11 + 76 * eX + 15 * tX + 3))) ∨ (∃ (eX : Nat) (tX : Nat), eX < 8 ∧ tX < sg (10 + 76 * eX) ∧ (nI e) = nI eX ∧ (nI t) = nI tX ∧ (nI 5) = nI 4 ∧ r = nI (rdg sg eX tX)) ∨ (∃ (eX : Nat) (tX : Nat), eX < 8 ∧ tX < sg (10 + 76 * eX) ∧ (nI e) = nI eX ∧ (nI t) = nI tX ∧ (nI 5) = nI 5 ∧ r = nI (sg (11 + 76 * eX + 15 * tX + 5))) ∨ (∃ (eX : Nat) (tX : Nat), eX < 8 ∧ tX < sg (10 + 76 * eX) ∧ (nI e) = nI eX ∧ (nI t) = nI tX ∧ (nI 5) = nI 6 ∧ r = nI (sg (11 + 76 * eX + 15 * tX + 4))) ∨ (∃ (eX : Nat) (tX : Nat), eX < 8 ∧ tX < sg (10 + 76 * eX) ∧ (nI e) = nI eX ∧ (nI t) = nI tX ∧ (¬ ∃ k : Nat, k < 7 ∧ (nI 5) = nI k) ∧ r = (-2))) : r = nI (sg (11 + 76 * e + 15 * t + 5)) := by
  rcases h with ⟨h, -⟩ | ⟨e1, t1, q1, q2, q3, q4, q5, rfl⟩ | ⟨e1, t1, q1, q2, q3, q4, q5, rfl⟩ | ⟨e1, t1, q1, q2, q3, q4, q5, rfl⟩ | ⟨e1, t1, q1, q2, q3, q4, q5, rfl⟩ | ⟨e1, t1, q1, q2, q3, q4, q5, rfl⟩ | ⟨e1, t1, q1, q2, q3, q4, q5, rfl⟩ | ⟨e1, t1, q1, q2, q3, q4, q5, rfl⟩ | ⟨e1, t1, q1, q2, q3, q4, q5, -⟩
  · exact absurd ⟨e, t, he, ht, rfl, rfl⟩ h
  · have i3 := nI_inj (by omega) (by omega) q5
    omega
  · have i3 := nI_inj (by omega) (by omega) q5
    omega
  · have i3 := nI_inj (by omega) (by omega) q5
    omega
  · have i3 := nI_inj (by omega) (by omega) q5
    omega
  · have i3 := nI_inj (by omega) (by omega) q5
    omega
  · have i1 := nI_inj (by omega) (by omega) q3
    subst i1
    have h5 := hM.2.1 e q1
    have i2 := nI_inj (by omega) (by omega) q4
    subst i2
    rfl
  · have i3 := nI_inj (by omega) (by omega) q5
    omega
  · exact absurd ⟨5, by decide, rfl⟩ q5
theorem tx_no {sg : Nat → Nat} {e t : Nat} {r : Int32} (hM : mOK sg) (he : e < 8) (ht : ¬ t < sg (10 + 76 * e)) (ht9 : t < 1000000) (h : (¬ pTn (szF sg) (nI e) (nI t) ∧ r = (-1)) ∨ (∃ (eX : Nat) (tX : Nat), eX < 8 ∧ tX < sg (10 + 76 * eX) ∧ (nI e) = nI eX ∧ (nI t) = nI tX ∧ (nI 0) = nI 0 ∧ r = nI (sg (11 + 76 * eX + 15 * tX + 0))) ∨ (∃ (eX : Nat) (tX : Nat), eX < 8 ∧ tX < sg (10 + 76 * eX) ∧ (nI e) = nI eX ∧ (nI t) = nI tX ∧ (nI 0) = nI 1 ∧ r = nI (sg (11 + 76 * eX + 15 * tX + 1))) ∨ (∃ (eX : Nat) (tX : Nat), eX < 8 ∧ tX < sg (10 + 76 * eX) ∧ (nI e) = nI eX ∧ (nI t) = nI tX ∧ (nI 0) = nI 2 ∧ r = nI (sg (11 + 76 * eX + 15 * tX + 2))) ∨ (∃ (eX : Nat) (tX : Nat), eX < 8 ∧ tX < sg (10 + 76 * eX) ∧ (nI e) = nI eX ∧ (nI t) = nI tX ∧ (nI 0) = nI 3 ∧ r = nI (sg (11 + 76 * eX + 15 * tX + 3))) ∨ (∃ (eX : Nat) (tX : Nat), eX < 8 ∧ tX < sg (10 + 76 * eX) ∧ (nI e) = nI eX ∧ (nI t) = nI tX ∧ (nI 0) = nI 4 ∧ r = nI (rdg sg eX tX)) ∨ (∃ (eX : Nat) (tX : Nat), eX < 8 ∧ tX < sg (10 + 76 * eX) ∧ (nI e) = nI eX ∧ (nI t) = nI tX ∧ (nI 0) = nI 5 ∧ r = nI (sg (11 + 76 * eX + 15 * tX + 5))) ∨ (∃ (eX : Nat) (tX : Nat), eX < 8 ∧ tX < sg (10 + 76 * eX) ∧ (nI e) = nI eX ∧ (nI t) = nI tX ∧ (nI 0) = nI 6 ∧ r = nI (sg (11 + 76 * eX + 15 * tX + 4))) ∨ (∃ (eX : Nat) (tX : Nat), eX < 8 ∧ tX < sg (10 + 76 * eX) ∧ (nI e) = nI eX ∧ (nI t) = nI tX ∧ (¬ ∃ k : Nat, k < 7 ∧ (nI 0) = nI k) ∧ r = (-2))) : r = (-1) := by
  have hno : ¬ pTn (szF sg) (nI e) (nI t) := by
    rintro ⟨e1, t1, q1, q2, q3, q4⟩
    have i1 := nI_inj (by omega) (by omega) q3
    subst i1
    have h5 := hM.2.1 e q1
    have q2 : t1 < sg (10 + 76 * e) := q2
    have i2 := nI_inj (by omega) (by omega) q4
    subst i2
    exact ht q2
  rcases h with ⟨-, h⟩ | ⟨e1, t1, q1, q2, q3, q4, q5, -⟩ | ⟨e1, t1, q1, q2, q3, q4, q5, -⟩ | ⟨e1, t1, q1, q2, q3, q4, q5, -⟩ | ⟨e1, t1, q1, q2, q3, q4, q5, -⟩ | ⟨e1, t1, q1, q2, q3, q4, q5, -⟩ | ⟨e1, t1, q1, q2, q3, q4, q5, -⟩ | ⟨e1, t1, q1, q2, q3, q4, q5, -⟩ | ⟨e1, t1, q1, q2, q3, q4, q5, -⟩
  · exact h
  · exact absurd ⟨e1, t1, q1, q2, q3, q4⟩ hno
  · exact absurd ⟨e1, t1, q1, q2, q3, q4⟩ hno
  · exact absurd ⟨e1, t1, q1, q2, q3, q4⟩ hno
  · exact absurd ⟨e1, t1, q1, q2, q3, q4⟩ hno
  · exact absurd ⟨e1, t1, q1, q2, q3, q4⟩ hno
  · exact absurd ⟨e1, t1, q1, q2, q3, q4⟩ hno
  · exact absurd ⟨e1, t1, q1, q2, q3, q4⟩ hno
  · exact absurd ⟨e1, t1, q1, q2, q3, q4⟩ hno
theorem cp_1 {sg : Nat → Nat} {e t k : Nat} {r : Int32} (hM : mOK sg) (he : e < 8) (ht : t < sg (10 + 76 * e)) (ht9 : t < 1000000) (hk : k < sg (11 + 76 * e + 15 * t + 5)) (h : (¬ pCp (szF sg) (atF sg 5) (nI e) (nI t) (nI k) ∧ r = (-1)) ∨ (∃ (eX : Nat) (tX : Nat) (kX : Nat), eX < 8 ∧ tX < sg (10 + 76 * eX) ∧ kX < sg (11 + 76 * eX + 15 * tX + 5) ∧ (nI e) = nI eX ∧ (nI t) = nI tX ∧ (nI k) = nI kX ∧ (¬ ∃ n : Nat, 0 ≤ n ∧ n ≤ 2 ∧ (nI 1) = nI n) ∧ r = (-2)) ∨ (∃ (eX : Nat) (tX : Nat) (kX : Nat) (wX : Nat), eX < 8 ∧ tX < sg (10 + 76 * eX) ∧ kX < sg (11 + 76 * eX + 15 * tX + 5) ∧ (nI e) = nI eX ∧ (nI t) = nI tX ∧ (nI k) = nI kX ∧ wX ≤ 2 ∧ (nI 1) = nI wX ∧ r = nI (sg (11 + 76 * eX + 15 * tX + (6 + 3 * kX + wX))))) : r = nI (sg (11 + 76 * e + 15 * t + (6 + 3 * k + 1))) := by
  have h3 := (hM.2.2 e t he ht).2.2.2.2.1
  rcases h with ⟨h, -⟩ | ⟨e1, t1, k1, q1, q2, q3, q4, q5, q6, q7, -⟩ | ⟨e1, t1, k1, w1, q1, q2, q3, q4, q5, q6, q7, q8, rfl⟩
  · exact absurd ⟨e, t, k, he, ht, hk, rfl, rfl, rfl⟩ h
  · exact absurd ⟨1, by decide, by decide, rfl⟩ q7
  · have i1 := nI_inj (by omega) (by omega) q4
    subst i1
    have h5 := hM.2.1 e q1
    have i2 := nI_inj (by omega) (by omega) q5
    subst i2
    have i3 := nI_inj (by omega) (by omega) q6
    subst i3
    have i4 := nI_inj (by omega) (by omega) q8
    subst i4
    rfl
theorem cp_no {sg : Nat → Nat} {e t : Nat} {r : Int32} (hM : mOK sg) (he : e < 8) (ht : t < sg (10 + 76 * e)) (ht9 : t < 1000000) (h : (¬ pCp (szF sg) (atF sg 5) (nI e) (nI t) (nI (sg (11 + 76 * e + 15 * t + 5))) ∧ r = (-1)) ∨ (∃ (eX : Nat) (tX : Nat) (kX : Nat), eX < 8 ∧ tX < sg (10 + 76 * eX) ∧ kX < sg (11 + 76 * eX + 15 * tX + 5) ∧ (nI e) = nI eX ∧ (nI t) = nI tX ∧ (nI (sg (11 + 76 * e + 15 * t + 5))) = nI kX ∧ (¬ ∃ n : Nat, 0 ≤ n ∧ n ≤ 2 ∧ (nI 0) = nI n) ∧ r = (-2)) ∨ (∃ (eX : Nat) (tX : Nat) (kX : Nat) (wX : Nat), eX < 8 ∧ tX < sg (10 + 76 * eX) ∧ kX < sg (11 + 76 * eX + 15 * tX + 5) ∧ (nI e) = nI eX ∧ (nI t) = nI tX ∧ (nI (sg (11 + 76 * e + 15 * t + 5))) = nI kX ∧ wX ≤ 2 ∧ (nI 0) = nI wX ∧ r = nI (sg (11 + 76 * eX + 15 * tX + (6 + 3 * kX + wX))))) : r = (-1) := by
  have h3 := (hM.2.2 e t he ht).2.2.2.2.1
  have hno : ∀ e1 t1 k1 : Nat, e1 < 8 → t1 < sg (10 + 76 * e1) → k1 < sg (11 + 76 * e1 + 15 * t1 + 5) → nI e = nI e1 → nI t = nI t1 → nI (sg (11 + 76 * e + 15 * t + 5)) = nI k1 → False := by
    intro e1 t1 k1 q1 q2 q3 q4 q5 q6
    have i1 := nI_inj (by omega) (by omega) q4
    subst i1
    have h5 := hM.2.1 e q1
    have i2 := nI_inj (by omega) (by omega) q5
    subst i2
    have i3 := nI_inj (by omega) (by omega) q6
    omega
  rcases h with ⟨-, h⟩ | ⟨e1, t1, k1, q1, q2, q3, q4, q5, q6, q7, -⟩ | ⟨e1, t1, k1, w1, q1, q2, q3, q4, q5, q6, q7, q8, -⟩
  · exact h
  · exact (hno e1 t1 k1 q1 q2 q3 q4 q5 q6).elim
  · exact (hno e1 t1 k1 q1 q2 q3 q4 q5 q6).elim
theorem sh_no {sg : Nat → Nat} {e ag : Nat} {r : Int32} (he : e < 8) (h4 : 4 ≤ ag) (h99 : ag ≤ 99) (hs : shT sg e ag = none) (h : (¬ pE (nI e) ∧ r = (-1)) ∨ (∃ (eX : Nat), eX < 8 ∧ (nI e) = nI eX ∧ (¬ ∃ n : Nat, 4 ≤ n ∧ n ≤ 99 ∧ (nI ag) = nI n) ∧ r = (-2)) ∨ (∃ (eX : Nat) (aX : Nat), eX < 8 ∧ (nI e) = nI eX ∧ 4 ≤ aX ∧ aX ≤ 99 ∧ (nI ag) = nI aX ∧ shT sg eX aX = none ∧ r = (-5)) ∨ (∃ (eX : Nat) (aX : Nat) (tX : Nat), eX < 8 ∧ (nI e) = nI eX ∧ 4 ≤ aX ∧ aX ≤ 99 ∧ (nI ag) = nI aX ∧ shT sg eX aX = some tX ∧ r = nI tX)) : r = (-5) := by
  have hae : ∀ a1 : Nat, a1 ≤ 99 → nI ag = nI a1 → ag = a1 := fun a1 h1 h2 => nI_inj (by omega) (by omega) h2
  rcases h with ⟨h, -⟩ | ⟨e1, q1, q2, q3, -⟩ | ⟨e1, a1, q1, q2, q3, q4, q5, q6, rfl⟩ | ⟨e1, a1, t1, q1, q2, q3, q4, q5, q6, rfl⟩
  · exact absurd ⟨e, he, rfl⟩ h
  · exact absurd ⟨ag, h4, h99, rfl⟩ q3
  · have i1 := nI_inj (by omega) (by omega) q2
    subst i1
    have i2 := hae a1 q4 q5
    subst i2
    rfl
  · have i1 := nI_inj (by omega) (by omega) q2
    subst i1
    have i2 := hae a1 q4 q5
    subst i2
    rw [hs] at q6; cases q6
theorem sh_ok {sg : Nat → Nat} {e ag s : Nat} {r : Int32} (he : e < 8) (h4 : 4 ≤ ag) (h99 : ag ≤ 99) (hs : shT sg e ag = some s) (h : (¬ pE (nI e) ∧ r = (-1)) ∨ (∃ (eX : Nat), eX < 8 ∧ (nI e) = nI eX ∧ (¬ ∃ n : Nat, 4 ≤ n ∧ n ≤ 99 ∧ (nI ag) = nI n) ∧ r = (-2)) ∨ (∃ (eX : Nat) (aX : Nat), eX < 8 ∧ (nI e) = nI eX ∧ 4 ≤ aX ∧ aX ≤ 99 ∧ (nI ag) = nI aX ∧ shT sg eX aX = none ∧ r = (-5)) ∨ (∃ (eX : Nat) (aX : Nat) (tX : Nat), eX < 8 ∧ (nI e) = nI eX ∧ 4 ≤ aX ∧ aX ≤ 99 ∧ (nI ag) = nI aX ∧ shT sg eX aX = some tX ∧ r = nI tX)) : r = nI s := by
  have hae : ∀ a1 : Nat, a1 ≤ 99 → nI ag = nI a1 → ag = a1 := fun a1 h1 h2 => nI_inj (by omega) (by omega) h2
  rcases h with ⟨h, -⟩ | ⟨e1, q1, q2, q3, -⟩ | ⟨e1, a1, q1, q2, q3, q4, q5, q6, rfl⟩ | ⟨e1, a1, t1, q1, q2, q3, q4, q5, q6, rfl⟩
  · exact absurd ⟨e, he, rfl⟩ h
  · exact absurd ⟨ag, h4, h99, rfl⟩ q3
  · have i1 := nI_inj (by omega) (by omega) q2
    subst i1
    have i2 := hae a1 q4 q5
    subst i2
    rw [hs] at q6; cases q6
  · have i1 := nI_inj (by omega) (by omega) q2
    subst i1
    have i2 := hae a1 q4 q5
    subst i2
    rw [hs] at q6; cases q6; rfl
theorem un_ok {sg : Nat → Nat} {ag : Nat} {r : Int32} (h4 : 4 ≤ ag) (h99 : ag ≤ 99) (h : ((¬ ∃ n : Nat, 4 ≤ n ∧ n ≤ 99 ∧ (nI ag) = nI n) ∧ r = (-2)) ∨ (∃ (aX : Nat), 4 ≤ aX ∧ aX ≤ 99 ∧ (nI ag) = nI aX ∧ r = andN (allF (szF sg) (atF sg 3) 8) (metF (fun e => shT sg e aX) (atF sg 3) 8))) : r = andN (allF (szF sg) (atF sg 3) 8) (metF (fun e => shT sg e ag) (atF sg 3) 8) := by
  rcases h with ⟨h, -⟩ | ⟨a1, q1, q2, q3, rfl⟩
  · exact absurd ⟨ag, h4, h99, rfl⟩ h
  · have i1 := nI_inj (by omega) (by omega) q3
    subst i1
    rfl
theorem ag_0 {sg : Nat → Nat} {e t : Nat} {r : Int32} (hM : mOK sg) (he : e < 8) (ht : t < sg (10 + 76 * e)) (ht9 : t < 1000000) (h : (¬ pTn (szF sg) (nI e) (nI t) ∧ r = (-1)) ∨ (∃ (eX : Nat) (tX : Nat), eX < 8 ∧ tX < sg (10 + 76 * eX) ∧ (nI e) = nI eX ∧ (nI t) = nI tX ∧ (¬ ∃ n : Nat, 0 ≤ n ∧ n ≤ 2 ∧ (nI 0) = nI n) ∧ r = (-2)) ∨ (∃ (eX : Nat) (tX : Nat), eX < 8 ∧ tX < sg (10 + 76 * eX) ∧ (nI e) = nI eX ∧ (nI t) = nI tX ∧ (nI 0) = nI 0 ∧ r = enc (agL (agP (fun a => shT sg eX a) tX) 96)) ∨ (∃ (eX : Nat) (tX : Nat), eX < 8 ∧ tX < sg (10 + 76 * eX) ∧ (nI e) = nI eX ∧ (nI t) = nI tX ∧ (nI 0) = nI 1 ∧ r = enc (agG (agP (fun a => shT sg eX a) tX) 96)) ∨ (∃ (eX : Nat) (tX : Nat), eX < 8 ∧ tX < sg (10 + 76 * eX) ∧ (nI e) = nI eX ∧ (nI t) = nI tX ∧ (nI 0) = nI 2 ∧ r = nI (agM (agP (fun a => shT sg eX a) tX) 96))) : r = enc (agL (agP (fun a => shT sg e a) t) 96) := by
  rcases h with ⟨h, -⟩ | ⟨e1, t1, q1, q2, q3, q4, q5, -⟩ | ⟨e1, t1, q1, q2, q3, q4, q5, rfl⟩ | ⟨e1, t1, q1, q2, q3, q4, q5, rfl⟩ | ⟨e1, t1, q1, q2, q3, q4, q5, rfl⟩
  · exact absurd ⟨e, t, he, ht, rfl, rfl⟩ h
  · exact absurd ⟨0, by decide, by decide, rfl⟩ q5
  · have i1 := nI_inj (by omega) (by omega) q3
    subst i1
    have h5 := hM.2.1 e q1
    have i2 := nI_inj (by omega) (by omega) q4
    subst i2
    rfl
  · have i3 := nI_inj (by omega) (by omega) q5
    omega
  · have i3 := nI_inj (by omega) (by omega) q5
    omega
theorem ag_1 {sg : Nat → Nat} {e t : Nat} {r : Int32} (hM : mOK sg) (he : e < 8) (ht : t < sg (10 + 76 * e)) (ht9 : t < 1000000) (h : (¬ pTn (szF sg) (nI e) (nI t) ∧ r = (-1)) ∨ (∃ (eX : Nat) (tX : Nat), eX < 8 ∧ tX < sg (10 + 76 * eX) ∧ (nI e) = nI eX ∧ (nI t) = nI tX ∧ (¬ ∃ n : Nat, 0 ≤ n ∧ n ≤ 2 ∧ (nI 1) = nI n) ∧ r = (-2)) ∨ (∃ (eX : Nat) (tX : Nat), eX < 8 ∧ tX < sg (10 + 76 * eX) ∧ (nI e) = nI eX ∧ (nI t) = nI tX ∧ (nI 1) = nI 0 ∧ r = enc (agL (agP (fun a => shT sg eX a) tX) 96)) ∨ (∃ (eX : Nat) (tX : Nat), eX < 8 ∧ tX < sg (10 + 76 * eX) ∧ (nI e) = nI eX ∧ (nI t) = nI tX ∧ (nI 1) = nI 1 ∧ r = enc (agG (agP (fun a => shT sg eX a) tX) 96)) ∨ (∃ (eX : Nat) (tX : Nat), eX < 8 ∧ tX < sg (10 + 76 * eX) ∧ (nI e) = nI eX ∧ (nI t) = nI tX ∧ (nI 1) = nI 2 ∧ r = nI (agM (agP (fun a => shT sg eX a) tX) 96))) : r = enc (agG (agP (fun a => shT sg e a) t) 96) := by
  rcases h with ⟨h, -⟩ | ⟨e1, t1, q1, q2, q3, q4, q5, -⟩ | ⟨e1, t1, q1, q2, q3, q4, q5, rfl⟩ | ⟨e1, t1, q1, q2, q3, q4, q5, rfl⟩ | ⟨e1, t1, q1, q2, q3, q4, q5, rfl⟩
  · exact absurd ⟨e, t, he, ht, rfl, rfl⟩ h
  · exact absurd ⟨1, by decide, by decide, rfl⟩ q5
  · have i3 := nI_inj (by omega) (by omega) q5
    omega
  · have i1 := nI_inj (by omega) (by omega) q3
    subst i1
    have h5 := hM.2.1 e q1
    have i2 := nI_inj (by omega) (by omega) q4
    subst i2
    rfl
  · have i3 := nI_inj (by omega) (by omega) q5
    omega
theorem ag_2 {sg : Nat → Nat} {e t : Nat} {r : Int32} (hM : mOK sg) (he : e < 8) (ht : t < sg (10 + 76 * e)) (ht9 : t < 1000000) (h : (¬ pTn (szF sg) (nI e) (nI t) ∧ r = (-1)) ∨ (∃ (eX : Nat) (tX : Nat), eX < 8 ∧ tX < sg (10 + 76 * eX) ∧ (nI e) = nI eX ∧ (nI t) = nI tX ∧ (¬ ∃ n : Nat, 0 ≤ n ∧ n ≤ 2 ∧ (nI 2) = nI n) ∧ r = (-2)) ∨ (∃ (eX : Nat) (tX : Nat), eX < 8 ∧ tX < sg (10 + 76 * eX) ∧ (nI e) = nI eX ∧ (nI t) = nI tX ∧ (nI 2) = nI 0 ∧ r = enc (agL (agP (fun a => shT sg eX a) tX) 96)) ∨ (∃ (eX : Nat) (tX : Nat), eX < 8 ∧ tX < sg (10 + 76 * eX) ∧ (nI e) = nI eX ∧ (nI t) = nI tX ∧ (nI 2) = nI 1 ∧ r = enc (agG (agP (fun a => shT sg eX a) tX) 96)) ∨ (∃ (eX : Nat) (tX : Nat), eX < 8 ∧ tX < sg (10 + 76 * eX) ∧ (nI e) = nI eX ∧ (nI t) = nI tX ∧ (nI 2) = nI 2 ∧ r = nI (agM (agP (fun a => shT sg eX a) tX) 96))) : r = nI (agM (agP (fun a => shT sg e a) t) 96) := by
  rcases h with ⟨h, -⟩ | ⟨e1, t1, q1, q2, q3, q4, q5, -⟩ | ⟨e1, t1, q1, q2, q3, q4, q5, rfl⟩ | ⟨e1, t1, q1, q2, q3, q4, q5, rfl⟩ | ⟨e1, t1, q1, q2, q3, q4, q5, rfl⟩
  · exact absurd ⟨e, t, he, ht, rfl, rfl⟩ h
  · exact absurd ⟨2, by decide, by decide, rfl⟩ q5
  · have i3 := nI_inj (by omega) (by omega) q5
    omega
  · have i3 := nI_inj (by omega) (by omega) q5
    omega
  · have i1 := nI_inj (by omega) (by omega) q3
    subst i1
    have h5 := hM.2.1 e q1
    have i2 := nI_inj (by omega) (by omega) q4
    subst i2
    rfl
theorem ct_0 {sg : Nat → Nat} {st pn : Nat} {r : Int32}  (h : ((nI 0) = nI 0 ∧ r = nI (sumN (szF sg) 8)) ∨ ((nI 0) = nI 1 ∧ r = nI (capS (szF sg) (atF sg 5) 8)) ∨ ((nI 0) = nI 2 ∧ r = nI (sg 0)) ∨ ((nI 0) = nI 3 ∧ r = nI (sg 1)) ∨ ((nI 0) = nI 4 ∧ r = nI (sg 7)) ∨ ((nI 0) = nI 5 ∧ r = nI (sg 8)) ∨ ((nI 0) = nI 6 ∧ r = nI (sg 9)) ∨ ((nI 0) = nI 7 ∧ r = nI (capS (szF sg) (nrF (atF sg 4)) 8)) ∨ ((nI 0) = nI 8 ∧ r = nI (bitsN (allF (szF sg) (atF sg 3) 8) 16)) ∨ ((nI 0) = nI 9 ∧ r = nI st) ∨ ((nI 0) = nI 10 ∧ r = nI pn) ∨ ((¬ ∃ k : Nat, k < 11 ∧ (nI 0) = nI k) ∧ r = (-2))) : r = nI (sumN (szF sg) 8) := by
  rcases h with ⟨q, rfl⟩ | ⟨q, rfl⟩ | ⟨q, rfl⟩ | ⟨q, rfl⟩ | ⟨q, rfl⟩ | ⟨q, rfl⟩ | ⟨q, rfl⟩ | ⟨q, rfl⟩ | ⟨q, rfl⟩ | ⟨q, rfl⟩ | ⟨q, rfl⟩ | ⟨q, -⟩
  · rfl
  · have i3 := nI_inj (by omega) (by omega) q
    omega
  · have i3 := nI_inj (by omega) (by omega) q
    omega
  · have i3 := nI_inj (by omega) (by omega) q
    omega
  · have i3 := nI_inj (by omega) (by omega) q
    omega
  · have i3 := nI_inj (by omega) (by omega) q
    omega
  · have i3 := nI_inj (by omega) (by omega) q
    omega
  · have i3 := nI_inj (by omega) (by omega) q
    omega
  · have i3 := nI_inj (by omega) (by omega) q
    omega
  · have i3 := nI_inj (by omega) (by omega) q
    omega
  · have i3 := nI_inj (by omega) (by omega) q
    omega
  · exact absurd ⟨0, by decide, rfl⟩ q
theorem ct_1 {sg : Nat → Nat} {st pn : Nat} {r : Int32}  (h : ((nI 1) = nI 0 ∧ r = nI (sumN (szF sg) 8)) ∨ ((nI 1) = nI 1 ∧ r = nI (capS (szF sg) (atF sg 5) 8)) ∨ ((nI 1) = nI 2 ∧ r = nI (sg 0)) ∨ ((nI 1) = nI 3 ∧ r = nI (sg 1)) ∨ ((nI 1) = nI 4 ∧ r = nI (sg 7)) ∨ ((nI 1) = nI 5 ∧ r = nI (sg 8)) ∨ ((nI 1) = nI 6 ∧ r = nI (sg 9)) ∨ ((nI 1) = nI 7 ∧ r = nI (capS (szF sg) (nrF (atF sg 4)) 8)) ∨ ((nI 1) = nI 8 ∧ r = nI (bitsN (allF (szF sg) (atF sg 3) 8) 16)) ∨ ((nI 1) = nI 9 ∧ r = nI st) ∨ ((nI 1) = nI 10 ∧ r = nI pn) ∨ ((¬ ∃ k : Nat, k < 11 ∧ (nI 1) = nI k) ∧ r = (-2))) : r = nI (capS (szF sg) (atF sg 5) 8) := by
  rcases h with ⟨q, rfl⟩ | ⟨q, rfl⟩ | ⟨q, rfl⟩ | ⟨q, rfl⟩ | ⟨q, rfl⟩ | ⟨q, rfl⟩ | ⟨q, rfl⟩ | ⟨q, rfl⟩ | ⟨q, rfl⟩ | ⟨q, rfl⟩ | ⟨q, rfl⟩ | ⟨q, -⟩
  · have i3 := nI_inj (by omega) (by omega) q
    omega
  · rfl
  · have i3 := nI_inj (by omega) (by omega) q
    omega
  · have i3 := nI_inj (by omega) (by omega) q
    omega
  · have i3 := nI_inj (by omega) (by omega) q
    omega
  · have i3 := nI_inj (by omega) (by omega) q
    omega
  · have i3 := nI_inj (by omega) (by omega) q
    omega
  · have i3 := nI_inj (by omega) (by omega) q
    omega
  · have i3 := nI_inj (by omega) (by omega) q
    omega
  · have i3 := nI_inj (by omega) (by omega) q
    omega
  · have i3 := nI_inj (by omega) (by omega) q
    omega
  · exact absurd ⟨1, by decide, rfl⟩ q
theorem ct_2 {sg : Nat → Nat} {st pn : Nat} {r : Int32}  (h : ((nI 2) = nI 0 ∧ r = nI (sumN (szF sg) 8)) ∨ ((nI 2) = nI 1 ∧ r = nI (capS (szF sg) (atF sg 5) 8)) ∨ ((nI 2) = nI 2 ∧ r = nI (sg 0)) ∨ ((nI 2) = nI 3 ∧ r = nI (sg 1)) ∨ ((nI 2) = nI 4 ∧ r = nI (sg 7)) ∨ ((nI 2) = nI 5 ∧ r = nI (sg 8)) ∨ ((nI 2) = nI 6 ∧ r = nI (sg 9)) ∨ ((nI 2) = nI 7 ∧ r = nI (capS (szF sg) (nrF (atF sg 4)) 8)) ∨ ((nI 2) = nI 8 ∧ r = nI (bitsN (allF (szF sg) (atF sg 3) 8) 16)) ∨ ((nI 2) = nI 9 ∧ r = nI st) ∨ ((nI 2) = nI 10 ∧ r = nI pn) ∨ ((¬ ∃ k : Nat, k < 11 ∧ (nI 2) = nI k) ∧ r = (-2))) : r = nI (sg 0) := by
  rcases h with ⟨q, rfl⟩ | ⟨q, rfl⟩ | ⟨q, rfl⟩ | ⟨q, rfl⟩ | ⟨q, rfl⟩ | ⟨q, rfl⟩ | ⟨q, rfl⟩ | ⟨q, rfl⟩ | ⟨q, rfl⟩ | ⟨q, rfl⟩ | ⟨q, rfl⟩ | ⟨q, -⟩
  · have i3 := nI_inj (by omega) (by omega) q
    omega
  · have i3 := nI_inj (by omega) (by omega) q
    omega
  · rfl
  · have i3 := nI_inj (by omega) (by omega) q
    omega
  · have i3 := nI_inj (by omega) (by omega) q
    omega
  · have i3 := nI_inj (by omega) (by omega) q
    omega
  · have i3 := nI_inj (by omega) (by omega) q
    omega
  · have i3 := nI_inj (by omega) (by omega) q
    omega
  · have i3 := nI_inj (by omega) (by omega) q
    omega
  · have i3 := nI_inj (by omega) (by omega) q
    omega
  · have i3 := nI_inj (by omega) (by omega) q
    omega
  · exact absurd ⟨2, by decide, rfl⟩ q
theorem ct_5 {sg : Nat → Nat} {st pn : Nat} {r : Int32}  (h : ((nI 5) = nI 0 ∧ r = nI (sumN (szF sg) 8)) ∨ ((nI 5) = nI 1 ∧ r = nI (capS (szF sg) (atF sg 5) 8)) ∨ ((nI 5) = nI 2 ∧ r = nI (sg 0)) ∨ ((nI 5) = nI 3 ∧ r = nI (sg 1)) ∨ ((nI 5) = nI 4 ∧ r = nI (sg 7)) ∨ ((nI 5) = nI 5 ∧ r = nI (sg 8)) ∨ ((nI 5) = nI 6 ∧ r = nI (sg 9)) ∨ ((nI 5) = nI 7 ∧ r = nI (capS (szF sg) (nrF (atF sg 4)) 8)) ∨ ((nI 5) = nI 8 ∧ r = nI (bitsN (allF (szF sg) (atF sg 3) 8) 16)) ∨ ((nI 5) = nI 9 ∧ r = nI st) ∨ ((nI 5) = nI 10 ∧ r = nI pn) ∨ ((¬ ∃ k : Nat, k < 11 ∧ (nI 5) = nI k) ∧ r = (-2))) : r = nI (sg 8) := by
  rcases h with ⟨q, rfl⟩ | ⟨q, rfl⟩ | ⟨q, rfl⟩ | ⟨q, rfl⟩ | ⟨q, rfl⟩ | ⟨q, rfl⟩ | ⟨q, rfl⟩ | ⟨q, rfl⟩ | ⟨q, rfl⟩ | ⟨q, rfl⟩ | ⟨q, rfl⟩ | ⟨q, -⟩
  · have i3 := nI_inj (by omega) (by omega) q
    omega
  · have i3 := nI_inj (by omega) (by omega) q
    omega
  · have i3 := nI_inj (by omega) (by omega) q
    omega
  · have i3 := nI_inj (by omega) (by omega) q
    omega
  · have i3 := nI_inj (by omega) (by omega) q
    omega
  · rfl
  · have i3 := nI_inj (by omega) (by omega) q
    omega
  · have i3 := nI_inj (by omega) (by omega) q
    omega
  · have i3 := nI_inj (by omega) (by omega) q
    omega
  · have i3 := nI_inj (by omega) (by omega) q
    omega
  · have i3 := nI_inj (by omega) (by omega) q
    omega
  · exact absurd ⟨5, by decide, rfl⟩ q
theorem ct_8 {sg : Nat → Nat} {st pn : Nat} {r : Int32}  (h : ((nI 8) = nI 0 ∧ r = nI (sumN (szF sg) 8)) ∨ ((nI 8) = nI 1 ∧ r = nI (capS (szF sg) (atF sg 5) 8)) ∨ ((nI 8) = nI 2 ∧ r = nI (sg 0)) ∨ ((nI 8) = nI 3 ∧ r = nI (sg 1)) ∨ ((nI 8) = nI 4 ∧ r = nI (sg 7)) ∨ ((nI 8) = nI 5 ∧ r = nI (sg 8)) ∨ ((nI 8) = nI 6 ∧ r = nI (sg 9)) ∨ ((nI 8) = nI 7 ∧ r = nI (capS (szF sg) (nrF (atF sg 4)) 8)) ∨ ((nI 8) = nI 8 ∧ r = nI (bitsN (allF (szF sg) (atF sg 3) 8) 16)) ∨ ((nI 8) = nI 9 ∧ r = nI st) ∨ ((nI 8) = nI 10 ∧ r = nI pn) ∨ ((¬ ∃ k : Nat, k < 11 ∧ (nI 8) = nI k) ∧ r = (-2))) : r = nI (bitsN (allF (szF sg) (atF sg 3) 8) 16) := by
  rcases h with ⟨q, rfl⟩ | ⟨q, rfl⟩ | ⟨q, rfl⟩ | ⟨q, rfl⟩ | ⟨q, rfl⟩ | ⟨q, rfl⟩ | ⟨q, rfl⟩ | ⟨q, rfl⟩ | ⟨q, rfl⟩ | ⟨q, rfl⟩ | ⟨q, rfl⟩ | ⟨q, -⟩
  · have i3 := nI_inj (by omega) (by omega) q
    omega
  · have i3 := nI_inj (by omega) (by omega) q
    omega
  · have i3 := nI_inj (by omega) (by omega) q
    omega
  · have i3 := nI_inj (by omega) (by omega) q
    omega
  · have i3 := nI_inj (by omega) (by omega) q
    omega
  · have i3 := nI_inj (by omega) (by omega) q
    omega
  · have i3 := nI_inj (by omega) (by omega) q
    omega
  · have i3 := nI_inj (by omega) (by omega) q
    omega
  · rfl
  · have i3 := nI_inj (by omega) (by omega) q
    omega
  · have i3 := nI_inj (by omega) (by omega) q
    omega
  · exact absurd ⟨8, by decide, rfl⟩ q
theorem vn_0 {sg : Nat → Nat} {r : Int32} (h0 : sg 2 = 0) (h : ((¬ ∃ n : Nat, 0 ≤ n ∧ n ≤ 5 ∧ (nI 0) = nI n) ∧ r = (-2)) ∨ (∃ (wX : Nat), wX ≤ 5 ∧ (nI 0) = nI wX ∧ sg 2 = 0 ∧ r = (-5)) ∨ (∃ (wX : Nat), wX < 4 ∧ (nI 0) = nI wX ∧ 0 < sg 2 ∧ r = nI (sg (3 + wX))) ∨ ((nI 0) = nI 4 ∧ 0 < sg 2 ∧ r = nI (bitsN (sg 6) 16)) ∨ ((nI 0) = nI 5 ∧ 0 < sg 2 ∧ sN sg = none ∧ r = (-5)) ∨ (∃ (tX : Nat), (nI 0) = nI 5 ∧ 0 < sg 2 ∧ sN sg = some tX ∧ r = nI tX)) : r = (-5) := by
  rcases h with ⟨q, -⟩ | ⟨w1, q1, q2, q3, rfl⟩ | ⟨w1, q1, q2, q3, rfl⟩ | ⟨q1, q2, rfl⟩ | ⟨q1, q2, q3, rfl⟩ | ⟨t1, q1, q2, q3, rfl⟩
  · exact absurd ⟨0, by decide, by decide, rfl⟩ q
  · rfl
  · omega
  · omega
  · omega
  · omega
theorem vn_5 {sg : Nat → Nat} {r : Int32} (h0 : sg 2 = 0) (h : ((¬ ∃ n : Nat, 0 ≤ n ∧ n ≤ 5 ∧ (nI 5) = nI n) ∧ r = (-2)) ∨ (∃ (wX : Nat), wX ≤ 5 ∧ (nI 5) = nI wX ∧ sg 2 = 0 ∧ r = (-5)) ∨ (∃ (wX : Nat), wX < 4 ∧ (nI 5) = nI wX ∧ 0 < sg 2 ∧ r = nI (sg (3 + wX))) ∨ ((nI 5) = nI 4 ∧ 0 < sg 2 ∧ r = nI (bitsN (sg 6) 16)) ∨ ((nI 5) = nI 5 ∧ 0 < sg 2 ∧ sN sg = none ∧ r = (-5)) ∨ (∃ (tX : Nat), (nI 5) = nI 5 ∧ 0 < sg 2 ∧ sN sg = some tX ∧ r = nI tX)) : r = (-5) := by
  rcases h with ⟨q, -⟩ | ⟨w1, q1, q2, q3, rfl⟩ | ⟨w1, q1, q2, q3, rfl⟩ | ⟨q1, q2, rfl⟩ | ⟨q1, q2, q3, rfl⟩ | ⟨t1, q1, q2, q3, rfl⟩
  · exact absurd ⟨5, by decide, by decide, rfl⟩ q
  · rfl
  · omega
  · omega
  · omega
  · omega
theorem vi_0 {sg : Nat → Nat} {r : Int32} (h1 : sg 2 = 1) (h : ((¬ ∃ n : Nat, 0 ≤ n ∧ n ≤ 5 ∧ (nI 0) = nI n) ∧ r = (-2)) ∨ (∃ (wX : Nat), wX ≤ 5 ∧ (nI 0) = nI wX ∧ sg 2 = 0 ∧ r = (-5)) ∨ (∃ (wX : Nat), wX < 4 ∧ (nI 0) = nI wX ∧ 0 < sg 2 ∧ r = nI (sg (3 + wX))) ∨ ((nI 0) = nI 4 ∧ 0 < sg 2 ∧ r = nI (bitsN (sg 6) 16)) ∨ ((nI 0) = nI 5 ∧ 0 < sg 2 ∧ sN sg = none ∧ r = (-5)) ∨ (∃ (tX : Nat), (nI 0) = nI 5 ∧ 0 < sg 2 ∧ sN sg = some tX ∧ r = nI tX)) : r = nI (sg 3) := by
  rcases h with ⟨q, -⟩ | ⟨w1, q1, q2, q3, rfl⟩ | ⟨w1, q1, q2, q3, rfl⟩ | ⟨q1, q2, rfl⟩ | ⟨q1, q2, q3, rfl⟩ | ⟨t1, q1, q2, q3, rfl⟩
  · exact absurd ⟨0, by decide, by decide, rfl⟩ q
  · omega
  · have i3 := nI_inj (by omega) (by omega) q2
    subst i3
    rfl
  · have i3 := nI_inj (by omega) (by omega) q1
    omega
  · have i3 := nI_inj (by omega) (by omega) q1
    omega
  · have i3 := nI_inj (by omega) (by omega) q1
    omega
theorem vi_1 {sg : Nat → Nat} {r : Int32} (h1 : sg 2 = 1) (h : ((¬ ∃ n : Nat, 0 ≤ n ∧ n ≤ 5 ∧ (nI 1) = nI n) ∧ r = (-2)) ∨ (∃ (wX : Nat), wX ≤ 5 ∧ (nI 1) = nI wX ∧ sg 2 = 0 ∧ r = (-5)) ∨ (∃ (wX : Nat), wX < 4 ∧ (nI 1) = nI wX ∧ 0 < sg 2 ∧ r = nI (sg (3 + wX))) ∨ ((nI 1) = nI 4 ∧ 0 < sg 2 ∧ r = nI (bitsN (sg 6) 16)) ∨ ((nI 1) = nI 5 ∧ 0 < sg 2 ∧ sN sg = none ∧ r = (-5)) ∨ (∃ (tX : Nat), (nI 1) = nI 5 ∧ 0 < sg 2 ∧ sN sg = some tX ∧ r = nI tX)) : r = nI (sg 4) := by
  rcases h with ⟨q, -⟩ | ⟨w1, q1, q2, q3, rfl⟩ | ⟨w1, q1, q2, q3, rfl⟩ | ⟨q1, q2, rfl⟩ | ⟨q1, q2, q3, rfl⟩ | ⟨t1, q1, q2, q3, rfl⟩
  · exact absurd ⟨1, by decide, by decide, rfl⟩ q
  · omega
  · have i3 := nI_inj (by omega) (by omega) q2
    subst i3
    rfl
  · have i3 := nI_inj (by omega) (by omega) q1
    omega
  · have i3 := nI_inj (by omega) (by omega) q1
    omega
  · have i3 := nI_inj (by omega) (by omega) q1
    omega
theorem vi_2 {sg : Nat → Nat} {r : Int32} (h1 : sg 2 = 1) (h : ((¬ ∃ n : Nat, 0 ≤ n ∧ n ≤ 5 ∧ (nI 2) = nI n) ∧ r = (-2)) ∨ (∃ (wX : Nat), wX ≤ 5 ∧ (nI 2) = nI wX ∧ sg 2 = 0 ∧ r = (-5)) ∨ (∃ (wX : Nat), wX < 4 ∧ (nI 2) = nI wX ∧ 0 < sg 2 ∧ r = nI (sg (3 + wX))) ∨ ((nI 2) = nI 4 ∧ 0 < sg 2 ∧ r = nI (bitsN (sg 6) 16)) ∨ ((nI 2) = nI 5 ∧ 0 < sg 2 ∧ sN sg = none ∧ r = (-5)) ∨ (∃ (tX : Nat), (nI 2) = nI 5 ∧ 0 < sg 2 ∧ sN sg = some tX ∧ r = nI tX)) : r = nI (sg 5) := by
  rcases h with ⟨q, -⟩ | ⟨w1, q1, q2, q3, rfl⟩ | ⟨w1, q1, q2, q3, rfl⟩ | ⟨q1, q2, rfl⟩ | ⟨q1, q2, q3, rfl⟩ | ⟨t1, q1, q2, q3, rfl⟩
  · exact absurd ⟨2, by decide, by decide, rfl⟩ q
  · omega
  · have i3 := nI_inj (by omega) (by omega) q2
    subst i3
    rfl
  · have i3 := nI_inj (by omega) (by omega) q1
    omega
  · have i3 := nI_inj (by omega) (by omega) q1
    omega
  · have i3 := nI_inj (by omega) (by omega) q1
    omega
theorem vi_3 {sg : Nat → Nat} {r : Int32} (h1 : sg 2 = 1) (h : ((¬ ∃ n : Nat, 0 ≤ n ∧ n ≤ 5 ∧ (nI 3) = nI n) ∧ r = (-2)) ∨ (∃ (wX : Nat), wX ≤ 5 ∧ (nI 3) = nI wX ∧ sg 2 = 0 ∧ r = (-5)) ∨ (∃ (wX : Nat), wX < 4 ∧ (nI 3) = nI wX ∧ 0 < sg 2 ∧ r = nI (sg (3 + wX))) ∨ ((nI 3) = nI 4 ∧ 0 < sg 2 ∧ r = nI (bitsN (sg 6) 16)) ∨ ((nI 3) = nI 5 ∧ 0 < sg 2 ∧ sN sg = none ∧ r = (-5)) ∨ (∃ (tX : Nat), (nI 3) = nI 5 ∧ 0 < sg 2 ∧ sN sg = some tX ∧ r = nI tX)) : r = nI (sg 6) := by
  rcases h with ⟨q, -⟩ | ⟨w1, q1, q2, q3, rfl⟩ | ⟨w1, q1, q2, q3, rfl⟩ | ⟨q1, q2, rfl⟩ | ⟨q1, q2, q3, rfl⟩ | ⟨t1, q1, q2, q3, rfl⟩
  · exact absurd ⟨3, by decide, by decide, rfl⟩ q
  · omega
  · have i3 := nI_inj (by omega) (by omega) q2
    subst i3
    rfl
  · have i3 := nI_inj (by omega) (by omega) q1
    omega
  · have i3 := nI_inj (by omega) (by omega) q1
    omega
  · have i3 := nI_inj (by omega) (by omega) q1
    omega
theorem vi_4 {sg : Nat → Nat} {r : Int32} (h1 : sg 2 = 1) (h : ((¬ ∃ n : Nat, 0 ≤ n ∧ n ≤ 5 ∧ (nI 4) = nI n) ∧ r = (-2)) ∨ (∃ (wX : Nat), wX ≤ 5 ∧ (nI 4) = nI wX ∧ sg 2 = 0 ∧ r = (-5)) ∨ (∃ (wX : Nat), wX < 4 ∧ (nI 4) = nI wX ∧ 0 < sg 2 ∧ r = nI (sg (3 + wX))) ∨ ((nI 4) = nI 4 ∧ 0 < sg 2 ∧ r = nI (bitsN (sg 6) 16)) ∨ ((nI 4) = nI 5 ∧ 0 < sg 2 ∧ sN sg = none ∧ r = (-5)) ∨ (∃ (tX : Nat), (nI 4) = nI 5 ∧ 0 < sg 2 ∧ sN sg = some tX ∧ r = nI tX)) : r = nI (bitsN (sg 6) 16) := by
  rcases h with ⟨q, -⟩ | ⟨w1, q1, q2, q3, rfl⟩ | ⟨w1, q1, q2, q3, rfl⟩ | ⟨q1, q2, rfl⟩ | ⟨q1, q2, q3, rfl⟩ | ⟨t1, q1, q2, q3, rfl⟩
  · exact absurd ⟨4, by decide, by decide, rfl⟩ q
  · omega
  · have i3 := nI_inj (by omega) (by omega) q2
    omega
  · rfl
  · have i3 := nI_inj (by omega) (by omega) q1
    omega
  · have i3 := nI_inj (by omega) (by omega) q1
    omega
theorem vi_5n {sg : Nat → Nat} {r : Int32} (h1 : sg 2 = 1) (hs : sN sg = none) (h : ((¬ ∃ n : Nat, 0 ≤ n ∧ n ≤ 5 ∧ (nI 5) = nI n) ∧ r = (-2)) ∨ (∃ (wX : Nat), wX ≤ 5 ∧ (nI 5) = nI wX ∧ sg 2 = 0 ∧ r = (-5)) ∨ (∃ (wX : Nat), wX < 4 ∧ (nI 5) = nI wX ∧ 0 < sg 2 ∧ r = nI (sg (3 + wX))) ∨ ((nI 5) = nI 4 ∧ 0 < sg 2 ∧ r = nI (bitsN (sg 6) 16)) ∨ ((nI 5) = nI 5 ∧ 0 < sg 2 ∧ sN sg = none ∧ r = (-5)) ∨ (∃ (tX : Nat), (nI 5) = nI 5 ∧ 0 < sg 2 ∧ sN sg = some tX ∧ r = nI tX)) : r = (-5) := by
  rcases h with ⟨q, -⟩ | ⟨w1, q1, q2, q3, rfl⟩ | ⟨w1, q1, q2, q3, rfl⟩ | ⟨q1, q2, rfl⟩ | ⟨q1, q2, q3, rfl⟩ | ⟨t1, q1, q2, q3, rfl⟩
  · exact absurd ⟨5, by decide, by decide, rfl⟩ q
  · omega
  · have i3 := nI_inj (by omega) (by omega) q2
    omega
  · have i3 := nI_inj (by omega) (by omega) q1
    omega
  · rfl
  · rw [hs] at q3; cases q3
theorem vi_5s {sg : Nat → Nat} {t : Nat} {r : Int32} (h1 : sg 2 = 1) (hs : sN sg = some t) (h : ((¬ ∃ n : Nat, 0 ≤ n ∧ n ≤ 5 ∧ (nI 5) = nI n) ∧ r = (-2)) ∨ (∃ (wX : Nat), wX ≤ 5 ∧ (nI 5) = nI wX ∧ sg 2 = 0 ∧ r = (-5)) ∨ (∃ (wX : Nat), wX < 4 ∧ (nI 5) = nI wX ∧ 0 < sg 2 ∧ r = nI (sg (3 + wX))) ∨ ((nI 5) = nI 4 ∧ 0 < sg 2 ∧ r = nI (bitsN (sg 6) 16)) ∨ ((nI 5) = nI 5 ∧ 0 < sg 2 ∧ sN sg = none ∧ r = (-5)) ∨ (∃ (tX : Nat), (nI 5) = nI 5 ∧ 0 < sg 2 ∧ sN sg = some tX ∧ r = nI tX)) : r = nI t := by
  rcases h with ⟨q, -⟩ | ⟨w1, q1, q2, q3, rfl⟩ | ⟨w1, q1, q2, q3, rfl⟩ | ⟨q1, q2, rfl⟩ | ⟨q1, q2, q3, rfl⟩ | ⟨t1, q1, q2, q3, rfl⟩
  · exact absurd ⟨5, by decide, by decide, rfl⟩ q
  · omega
  · have i3 := nI_inj (by omega) (by omega) q2
    omega
  · have i3 := nI_inj (by omega) (by omega) q1
    omega
  · rw [hs] at q3; cases q3
  · rw [hs] at q3; cases q3; rfl
theorem rd_ok {sg : Nat → Nat} {ag pa se : Nat} {r : Int32} {u : (Nat → Nat) × (Nat → Nat) × (Nat → Nat)} (h4 : 4 ≤ ag) (h99 : ag ≤ 99) (p1 : 30 ≤ pa) (p2 : pa ≤ 400) (s1 : 1 ≤ se) (s2 : se ≤ 9999) (h : (∃ (gU : Nat → Nat) (zU : Nat → Nat) (cU : Nat → Nat), ¬ pVi (nI ag) (nI pa) (nI se) ∧ r = (-2) ∧ u = (gU, zU, cU)) ∨ (∃ (aX : Nat) (pX : Nat) (sX : Nat) (gU : Nat → Nat) (zU : Nat → Nat) (cU : Nat → Nat), 4 ≤ aX ∧ aX ≤ 99 ∧ 30 ≤ pX ∧ pX ≤ 400 ∧ 1 ≤ sX ∧ sX ≤ 9999 ∧ (nI ag) = nI aX ∧ (nI pa) = nI pX ∧ (nI se) = nI sX ∧ r = nI ((rnS (sg 1) pX sX (fun k => shT sg ((sg 0 + k) % 8) aX) (fun k => atF sg 3 ((sg 0 + k) % 8)) (fun k => atF sg 0 ((sg 0 + k) % 8)) 8).2) ∧ u = (gU, zU, cU))) : r = nI (rnX sg ag pa se 8).2 := by
  rcases h with ⟨gU, zU, cU, h, -⟩ | ⟨a1, p3, s3, gU, zU, cU, q1, q2, q3, q4, q5, q6, q7, q8, q9, rfl, -⟩
  · exact absurd ⟨ag, pa, se, h4, h99, p1, p2, s1, s2, rfl, rfl, rfl⟩ h
  · have i1 := nI_inj (by omega) (by omega) q7
    subst i1
    have i2 := nI_inj (by omega) (by omega) q8
    subst i2
    have i3 := nI_inj (by omega) (by omega) q9
    subst i3
    rfl
