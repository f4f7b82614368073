/-! rows of references -/
def arQ (f : Nat → Nat) : Nat → Option Nat := fun j => some (f j)
theorem arQ_up (f : Nat → Nat) (k v : Nat) : va_up (arQ f) k (some v) = arQ (arU f k v) := by
  funext j
  unfold va_up arQ arU
  by_cases h : j = k
  · rw [if_pos h, if_pos h]
  · rw [if_neg h, if_neg h]
section ZQ
variable {p : Program} {l : Launch} {e : Env} {R : Room} {s : State} {m : MethodId} {args : Array Value} {below : List Frame} {meth : Method} {c : Code} {H : Heap} {locs : List Loc} {cells slots : Nat} {Q : State → Prop}
variable {cc : ByteArray} {pc : Nat} {ls : Array Slot} {rest st : List Value}
variable {D : va_G} {cl : List vw_C} {A : Nat → Prop} {a : Nat} {tys : List (ClassId × FieldType)} {ws : va_W} {H0 : Heap}
theorem zk_qld (hx : p.tables.exec = Jvm.exec) (hb : c.code = cc) (hK : va_K D cl tys s) (hP : va_P D cl ws H) (q0 t0 : Nat) {cA : ClassId} {C : String} {n : Nat} {f : Nat → Nat} (ha : ws[q0]? = some (a, .inl (cA, n, .inr (.inr (.inr (.inr (arQ f))))))) (ht : tys[t0]? = some (cA, .object C)) {k : Nat} (hn : n < 2147483648) (hk : k < n) (hdg : decode cc pc = .ok (.aaload, 1)) (kk : W p l e R s m args below meth c H locs cells slots Q (F0 m (pc + 1) ls (.ref (f k) :: rest))) : W p l e R s m args below meth c H locs cells slots Q (F0 m pc ls (.int (nI k) :: .ref a :: rest)) :=
  va_aldq hx hb hK hP q0 t0 ha ht (vp_in_nI hk hn) hdg (by rw [nI_clamp (Nat.lt_trans hk hn)]; exact kk)
theorem zk_qst (hx : p.tables.exec = Jvm.exec) (hb : c.code = cc) (hK : va_K D cl tys s) (hP : va_P D cl ws H) (hD : va_D A ws) (hS : va_S A H0 H locs) (q0 t0 qk ci : Nat) {cA : ClassId} {r : vw_C} {n v : Nat} {vs : List Value} {f : Nat → Nat} (ha : ws[q0]? = some (a, .inl (cA, n, .inr (.inr (.inr (.inr (arQ f))))))) (ht : tys[t0]? = some (cA, .object r.1)) (hv : ws[qk]? = some (v, .inr (ci, vs))) (hc : cl[ci]? = some r) {k : Nat} (hn : n < 2147483648) (hk : k < n) {ws2 : va_W} (hw : ws.set q0 (a, .inl (cA, n, .inr (.inr (.inr (.inr (arQ (arU f k v))))))) = ws2) (hdg : decode cc pc = .ok (.aastore, 1))
    (kk : ∀ (H1 : Heap) (locs1 : List Loc), va_P D cl ws2 H1 → va_D A ws2 → va_S A H0 H1 locs1 → W p l e R s m args below meth c H1 locs1 cells slots Q (F0 m (pc + 1) ls rest)) : W p l e R s m args below meth c H locs cells slots Q (F0 m pc ls (.ref v :: .int (nI k) :: .ref a :: rest)) := by
  subst hw
  refine va_astq hx hb hK hP hD hS q0 t0 qk ci ha ht hv hc (vp_in_nI hk hn) hdg (fun H1 locs1 h1 h2 h3 => ?_)
  rw [nI_clamp (Nat.lt_trans hk hn), arQ_up] at h1 h2
  exact kk H1 locs1 h1 h2 h3
end ZQ
theorem and3 (x : Nat) : x &&& 3 = x % 4 := Nat.and_two_pow_sub_one_eq_mod x 2
theorem zI_lt0 {x : Int32} (h : ¬ x < 0) : 0 ≤ x := Int32.not_lt.mp h
theorem bits_sup {x b : Nat} (h : x ||| b = x) : bitsN b 16 ≤ bitsN x 16 := by
  have := bitsN_x h 16
  omega
theorem sumN_le {f : Nat → Nat} (h : ∀ e, e < 8 → f e ≤ 5) : sumN f 8 ≤ 40 := by
  have h0 := h 0 (by decide)
  have h1 := h 1 (by decide)
  have h2 := h 2 (by decide)
  have h3 := h 3 (by decide)
  have h4 := h 4 (by decide)
  have h5 := h 5 (by decide)
  have h6 := h 6 (by decide)
  have h7 := h 7 (by decide)
  show 0 + f 0 + f 1 + f 2 + f 3 + f 4 + f 5 + f 6 + f 7 ≤ 40
  omega
theorem tF_no {F r : Int32} (hr : ¬ r = nI 0) (h : (F = 0 ∧ r = nI 0) ∨ (¬ F = 0 ∧ r = F)) : ¬ F = 0 ∧ r = F := by
  rcases h with h | h
  · exact absurd h.2 hr
  · exact h
theorem tF_yes {F : Int32} (h : (F = 0 ∧ nI 0 = nI 0) ∨ (¬ F = 0 ∧ nI 0 = F)) : F = 0 := by
  rcases h with h | h
  · exact h.1
  · exact h.2.symm
theorem eFs_neg {pd sg : Nat → Nat} {n p q : Nat} {i : EntT} (hM : mOK sg) (h : entF pd n p = .inr (i, q)) (h0 : ¬ eFs sg i = 0) : eFs sg i < 0 := by
  have h1 := (doF_ok (pd := pd) (n := n) 1 p 0 sg hM).2.1
  rw [doF_stop h h0] at h1
  rcases h1 with h1 | h1
  · exact absurd h1 h0
  · exact h1
