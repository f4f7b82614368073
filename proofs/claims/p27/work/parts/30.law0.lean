/-! the law's world and what holds at its loop's head -/
abbrev zSt : Type := Nat × Nat × Nat × (Nat → Nat) × (Nat → Nat) × (Nat → Nat)
def hU (h : Nat → zSt) (k : Nat) (q : zSt) : Nat → zSt := fun j => if j = k then q else h j
theorem hU_s (h : Nat → zSt) (k : Nat) (q : zSt) : hU h k q k = q := if_pos rfl
theorem hU_n {h : Nat → zSt} {k : Nat} {q : zSt} {j : Nat} (n : j ≠ k) : hU h k q j = h j := if_neg n
theorem hU_1 (h : Nat → zSt) (k : Nat) (q : zSt) : arU (fun j => (h j).1) k q.1 = fun j => (hU h k q j).1 := by
  funext j
  unfold arU hU
  by_cases c : j = k
  · rw [if_pos c, if_pos c]
  · rw [if_neg c, if_neg c]
theorem knK_min {st : Nat} (h : st ≤ 4) : knK st = min (st + 1) 4 := by
  unfold knK
  by_cases c : st = 4
  · rw [if_pos c]; omega
  · rw [if_neg c]; omega
