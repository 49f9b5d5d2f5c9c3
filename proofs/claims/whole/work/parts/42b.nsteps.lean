/-! one step of a night, place by place -/
section NSTEP
variable {S n : dS} {t : Nat} {b : Int}
theorem ns_0 (r : Int) : ns S t n b 0 r = (if 0 < hu S t n b ∧ 0 < n 0 (S 17 (8 * b + n 2 b)) ∧ r = S 17 (8 * b + n 2 b) then n 0 r - 1 else n 0 r) := by
  unfold ns ns3 ns2 ns1
  by_cases q : n 2 b + 1 < S 15 b <;> by_cases q2 : 0 < hu S t n b ∧ 0 < n 0 (S 17 (8 * b + n 2 b)) <;> by_cases q3 : r = S 17 (8 * b + n 2 b) <;> simp [q, q2, q3, up]
  all_goals (intros; omega)
theorem ns_1 (o : Int) : ns S t n b 1 o = (if 0 < hu S t n b ∧ 0 < n 0 (S 17 (8 * b + n 2 b)) ∧ o = b then n 1 o + 1 else n 1 o) := by
  unfold ns ns3 ns2 ns1
  by_cases q : n 2 b + 1 < S 15 b <;> by_cases q2 : 0 < hu S t n b ∧ 0 < n 0 (S 17 (8 * b + n 2 b)) <;> by_cases q3 : o = b <;> simp [q, q2, q3, up]
  all_goals (intros; omega)
theorem ns_2 (o : Int) : ns S t n b 2 o = (if o = b then n 2 o + 1 else n 2 o) := by
  unfold ns ns3 ns2 ns1
  by_cases q : n 2 b + 1 < S 15 b <;> by_cases q2 : 0 < hu S t n b ∧ 0 < n 0 (S 17 (8 * b + n 2 b)) <;> by_cases q3 : o = b <;> simp [q, q2, q3, up]
theorem ns_3 (o : Int) : ns S t n b 3 o = (if o = b ∧ n 2 b + 1 < S 15 b then n 3 b + hu S t n b + fly S t b (8 * b + n 2 b) else n 3 o) := by
  unfold ns ns3 ns2 ns1
  by_cases q : n 2 b + 1 < S 15 b <;> by_cases q2 : 0 < hu S t n b ∧ 0 < n 0 (S 17 (8 * b + n 2 b)) <;> by_cases q3 : o = b <;> simp [q, q2, q3, up]
theorem ns_4 (c : Int) : ns S t n b 4 c = (if c = 8 * b + n 2 b then n 3 b else n 4 c) := by
  unfold ns ns3 ns2 ns1
  by_cases q : n 2 b + 1 < S 15 b <;> by_cases q2 : 0 < hu S t n b ∧ 0 < n 0 (S 17 (8 * b + n 2 b)) <;> simp [q, q2, up]
theorem ns_5 (c : Int) : ns S t n b 5 c = (if c = 8 * b + n 2 b then n 3 b + hu S t n b else n 5 c) := by
  unfold ns ns3 ns2 ns1
  by_cases q : n 2 b + 1 < S 15 b <;> by_cases q2 : 0 < hu S t n b ∧ 0 < n 0 (S 17 (8 * b + n 2 b)) <;> simp [q, q2, up]
theorem ns_6 (j : Int) : ns S t n b 6 j = (if j = n 7 0 then 8 * b + n 2 b else n 6 j) := by
  unfold ns ns3 ns2 ns1
  by_cases q : n 2 b + 1 < S 15 b <;> by_cases q2 : 0 < hu S t n b ∧ 0 < n 0 (S 17 (8 * b + n 2 b)) <;> simp [q, q2, up]
theorem ns_7 (j : Int) : ns S t n b 7 j = (if j = 0 then n 7 0 + 1 else n 7 j) := by
  unfold ns ns3 ns2 ns1
  by_cases q : n 2 b + 1 < S 15 b <;> by_cases q2 : 0 < hu S t n b ∧ 0 < n 0 (S 17 (8 * b + n 2 b)) <;> simp [q, q2, up]
theorem fu_ns (hb : n 2 b < S 15 b) (o : Int) : fu S (ns S t n b) o = (if o = b then (if n 2 b + 1 < S 15 b then n 3 b + hu S t n b + fly S t b (8 * b + n 2 b) else 2147483647) else fu S n o) := by
  unfold fu
  rw [ns_2, ns_3]
  by_cases q : o = b
  · subst q
    by_cases q2 : n 2 o + 1 < S 15 o <;> simp [q2]
  · simp [q]
end NSTEP
