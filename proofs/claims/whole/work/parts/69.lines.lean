/-! THE LINES of a text, as both read them -/
def fN (c v : Nat → Int) (k : Nat) (lo hi : Int) : Int := if c k ≠ 1 then 1 else if v k < lo ∨ hi < v k then 2 else 0
def fR (c v : Nat → Int) (k : Nat) (n : Int) : Int := if c k ≠ 1 then 1 else if 9999 < v k then 2 else if n ≤ v k then 3 else 0
def lnRoof (c v : Nat → Int) (k : Nat) (D : dS) : Int × Nat × dS :=
  if 10 ≤ D 33 0 then (2, k, D) else if fN c v (k + 1) 0 9 ≠ 0 then (fN c v (k + 1) 0 9, k + 1, D) else (0, k + 2, up (up D 35 (D 33 0) (v (k + 1))) 33 0 (D 33 0 + 1))
def lnFlight (c v : Nat → Int) (k : Nat) (D : dS) : Int × Nat × dS :=
  if 18 ≤ D 33 1 then (2, k, D) else if fR c v (k + 1) (D 33 0) ≠ 0 then (fR c v (k + 1) (D 33 0), k + 1, D) else if fR c v (k + 2) (D 33 0) ≠ 0 then (fR c v (k + 2) (D 33 0), k + 2, D)
  else if v (k + 1) = v (k + 2) ∨ D 37 (10 * v (k + 1) + v (k + 2)) ≠ 0 then (4, k + 2, D) else if fN c v (k + 3) 1 60 ≠ 0 then (fN c v (k + 3) 1 60, k + 3, D)
  else (0, k + 4, up (up (up D 37 (10 * v (k + 1) + v (k + 2)) (v (k + 3))) 37 (10 * v (k + 2) + v (k + 1)) (v (k + 3))) 33 1 (D 33 1 + 1))
/-- the way, the i-th roof of it (n = 8 - i) -/
def lnWay (c v : Nat → Int) (o : Int) : Nat → Nat → dS → Int × Nat × dS
  | 0, k, D => if c k ≠ 1 then (0, k, up D 43 o 8) else (2, k, D)
  | n + 1, k, D => if n < 7 ∧ c k ≠ 1 then (0, k, up D 43 o (7 - n)) else if fR c v k (D 33 0) ≠ 0 then (fR c v k (D 33 0), k, D)
    else if n < 7 ∧ D 37 (10 * D 45 (8 * o + (7 - n) - 1) + v k) = 0 then (6, k, D) else lnWay c v o n (k + 1) (up D 45 (8 * o + (7 - n)) (v k))
def lnOwl (c v : Nat → Int) (kind : Int) (k : Nat) (D : dS) : Int × Nat × dS :=
  if 5 ≤ D 33 2 then (2, k, D) else if fN c v (k + 1) 0 300 ≠ 0 then (fN c v (k + 1) 0 300, k + 1, D)
  else if (lnWay c v (D 33 2) 8 (k + 2) D).1 ≠ 0 then lnWay c v (D 33 2) 8 (k + 2) D
  else (0, (lnWay c v (D 33 2) 8 (k + 2) D).2.1, up (up (up (lnWay c v (D 33 2) 8 (k + 2) D).2.2 39 (D 33 2) kind) 41 (D 33 2) (v (k + 1))) 33 2 (D 33 2 + 1))
def lnRider (c v : Nat → Int) (k : Nat) (D : dS) : Int × Nat × dS :=
  if 8 ≤ D 33 3 then (2, k, D) else if fR c v (k + 1) (D 33 0) ≠ 0 then (fR c v (k + 1) (D 33 0), k + 1, D) else if fR c v (k + 2) (D 33 0) ≠ 0 then (fR c v (k + 2) (D 33 0), k + 2, D)
  else if fN c v (k + 3) 0 400 ≠ 0 then (fN c v (k + 3) 0 400, k + 3, D) else if fN c v (k + 4) 0 9 ≠ 0 then (fN c v (k + 4) 0 9, k + 4, D)
  else (0, k + 5, up (up (up (up (up D 47 (D 33 3) (v (k + 1))) 49 (D 33 3) (v (k + 2))) 51 (D 33 3) (v (k + 3))) 53 (D 33 3) (v (k + 4))) 33 3 (D 33 3 + 1))
/-- one line: fault, place, draft, is the dawn told, rules -/
def lnOne (c v : Nat → Int) (k : Nat) (D : dS) (dt : Bool) (rs : List (List Int)) : Int × Nat × dS × Bool × List (List Int) :=
  if c k = 129 then ((lnRoof c v k D).1, (lnRoof c v k D).2.1, (lnRoof c v k D).2.2, dt, rs)
  else if c k = 130 then ((lnFlight c v k D).1, (lnFlight c v k D).2.1, (lnFlight c v k D).2.2, dt, rs)
  else if 131 ≤ c k ∧ c k ≤ 133 then ((lnOwl c v (c k - 131) k D).1, (lnOwl c v (c k - 131) k D).2.1, (lnOwl c v (c k - 131) k D).2.2, dt, rs)
  else if c k = 134 then ((lnRider c v k D).1, (lnRider c v k D).2.1, (lnRider c v k D).2.2, dt, rs)
  else if c k = 135 then (if dt = true then (5, k, D, dt, rs) else if fN c v (k + 1) 60 600 ≠ 0 then (fN c v (k + 1) 60 600, k + 1, D, dt, rs) else (0, k + 2, up D 33 4 (v (k + 1)), true, rs))
  else if c k = 136 then (if 4 ≤ rs.length then (2, k, D, dt, rs) else ((gex c v 6 (k + 1) rs.flatten).1, (gex c v 6 (k + 1) rs.flatten).2.1, D, dt, if (gex c v 6 (k + 1) rs.flatten).1 = 0 then rs ++ [(gex c v 6 (k + 1) rs.flatten).2.2.drop rs.flatten.length] else rs))
  else (1, k, D, dt, rs)
def lnAll (c v : Nat → Int) : Nat → Nat → dS → Bool → List (List Int) → Int × Nat × dS × Bool × List (List Int)
  | 0, k, D, dt, rs => (0, k, D, dt, rs)
  | n + 1, k, D, dt, rs => if c k = 0 then (0, k, D, dt, rs) else if (lnOne c v k D dt rs).1 ≠ 0 then lnOne c v k D dt rs
    else if c (lnOne c v k D dt rs).2.1 ≠ 59 then (1, (lnOne c v k D dt rs).2) else lnAll c v n ((lnOne c v k D dt rs).2.1 + 1) (lnOne c v k D dt rs).2.2.1 (lnOne c v k D dt rs).2.2.2.1 (lnOne c v k D dt rs).2.2.2.2
/-- a draft as lines make it -/
def PV (D : dS) (dt : Bool) (rs : List (List Int)) : Prop :=
  ((0 ≤ D 33 0 ∧ D 33 0 ≤ 10) ∧ (0 ≤ D 33 1 ∧ D 33 1 ≤ 18) ∧ (0 ≤ D 33 2 ∧ D 33 2 ≤ 5) ∧ (0 ≤ D 33 3 ∧ D 33 3 ≤ 8) ∧ (60 ≤ D 33 4 ∧ D 33 4 ≤ 600)) ∧
  (∀ r, 0 ≤ r → r < D 33 0 → 0 ≤ D 35 r ∧ D 35 r ≤ 9) ∧
  (∀ a b, 0 ≤ a → a < 10 → 0 ≤ b → b < 10 → (0 ≤ D 37 (10 * a + b) ∧ D 37 (10 * a + b) ≤ 60) ∧ D 37 (10 * a + b) = D 37 (10 * b + a)) ∧
  (∀ o, 0 ≤ o → o < D 33 2 → (0 ≤ D 39 o ∧ D 39 o ≤ 2) ∧ (0 ≤ D 41 o ∧ D 41 o ≤ 300) ∧ (1 ≤ D 43 o ∧ D 43 o ≤ 8) ∧ (∀ i, 0 ≤ i → i < D 43 o → 0 ≤ D 45 (8 * o + i) ∧ D 45 (8 * o + i) < D 33 0) ∧ (∀ i, 0 ≤ i → i + 1 < D 43 o → D 37 (10 * D 45 (8 * o + i) + D 45 (8 * o + i + 1)) ≠ 0)) ∧
  (∀ p, 0 ≤ p → p < D 33 3 → (0 ≤ D 47 p ∧ D 47 p < D 33 0) ∧ (0 ≤ D 49 p ∧ D 49 p < D 33 0) ∧ (0 ≤ D 51 p ∧ D 51 p ≤ 400) ∧ (0 ≤ D 53 p ∧ D 53 p ≤ 9)) ∧
  (dt = false → D 33 4 = 360) ∧ rs.length ≤ 4 ∧ ∀ l ∈ rs, vl l 0
section LN
variable {c v : Nat → Int} {N : Nat} {D : dS} {dt : Bool} {rs : List (List Int)} {k : Nat}
theorem fN_0 {lo hi : Int} (h : fN c v k lo hi = 0) : c k = 1 ∧ lo ≤ v k ∧ v k ≤ hi := by
  unfold fN at h
  by_cases h1 : c k ≠ 1
  · rw [if_pos h1] at h; exact absurd h ne_1
  · rw [if_neg h1] at h
    by_cases h2 : v k < lo ∨ hi < v k
    · rw [if_pos h2] at h; exact absurd h ne_2
    · omega
theorem fR_0 {n : Int} (h : fR c v k n = 0) : c k = 1 ∧ v k < n := by
  unfold fR at h
  by_cases h1 : c k ≠ 1
  · rw [if_pos h1] at h; exact absurd h ne_1
  · rw [if_neg h1] at h
    by_cases h2 : 9999 < v k
    · rw [if_pos h2] at h; exact absurd h ne_2
    · rw [if_neg h2] at h
      by_cases h3 : n ≤ v k
      · rw [if_pos h3] at h; exact absurd h ne_3
      · omega
theorem one_lt (c0 : c N = 0) (hk : k ≤ N) (h : c k ≠ 0) : k < N := by
  rcases Nat.lt_or_ge k N with h' | h'
  · exact h'
  · have : k = N := by omega
    rw [this, c0] at h; omega
theorem PV_roof (v0 : ∀ k, 0 ≤ v k) (h : PV D dt rs) (hz : (lnRoof c v k D).1 = 0) : (lnRoof c v k D).2.1 = k + 2 ∧ c (k + 1) ≠ 0 ∧ PV (lnRoof c v k D).2.2 dt rs := by
  unfold lnRoof at hz ⊢
  by_cases h1 : 10 ≤ D 33 0
  · rw [if_pos h1] at hz; exact absurd hz ne_2
  rw [if_neg h1] at hz ⊢
  by_cases h2 : fN c v (k + 1) 0 9 ≠ 0
  · rw [if_pos h2] at hz; exact absurd hz h2
  rw [if_neg h2]
  obtain ⟨e1, e2, e3⟩ := fN_0 (Decidable.not_not.mp h2)
  obtain ⟨⟨a1, a2, a3, a4, a5⟩, b1, b2, b3, b4, b5, b6⟩ := h
  refine ⟨rfl, by omega, ?_⟩
  show PV (up (up D 35 (D 33 0) (v (k + 1))) 33 0 (D 33 0 + 1)) dt rs
  have g : ∀ j, j ≠ 0 → (up (up D 35 (D 33 0) (v (k + 1))) 33 0 (D 33 0 + 1)) 33 j = D 33 j := fun j hj => by rw [up_i hj, up_k (by decide)]
  have g0 : (up (up D 35 (D 33 0) (v (k + 1))) 33 0 (D 33 0 + 1)) 33 0 = D 33 0 + 1 := up_same _ _ _ _
  have gk : ∀ y, y ≠ 33 → y ≠ 35 → (up (up D 35 (D 33 0) (v (k + 1))) 33 0 (D 33 0 + 1)) y = D y := fun y q1 q2 => by rw [up_k q1, up_k q2]
  unfold PV
  rw [g0, g 1 (by decide), g 2 (by decide), g 3 (by decide), g 4 (by decide), gk 37 (by decide) (by decide), gk 39 (by decide) (by decide), gk 41 (by decide) (by decide), gk 43 (by decide) (by decide), gk 45 (by decide) (by decide), gk 47 (by decide) (by decide), gk 49 (by decide) (by decide), gk 51 (by decide) (by decide), gk 53 (by decide) (by decide)]
  refine ⟨⟨by omega, a2, a3, a4, a5⟩, fun r r0 r1 => ?_, b2, fun o o0 o1 => ?_, fun p p0 p1 => ?_, b5, b6⟩
  · rw [up_k (by decide)]
    by_cases e : r = D 33 0
    · rw [e, up_same]; omega
    · rw [up_i e]; exact b1 r r0 (by omega)
  · obtain ⟨x1, x2, x3, x4, x5⟩ := b3 o o0 o1
    exact ⟨x1, x2, x3, fun i i0 i1 => ⟨(x4 i i0 i1).1, by have := (x4 i i0 i1).2; omega⟩, x5⟩
  · obtain ⟨x1, x2, x3, x4⟩ := b4 p p0 p1
    exact ⟨⟨x1.1, by omega⟩, ⟨x2.1, by omega⟩, x3, x4⟩
theorem PV_flight (v0 : ∀ k, 0 ≤ v k) (h : PV D dt rs) (hz : (lnFlight c v k D).1 = 0) : (lnFlight c v k D).2.1 = k + 4 ∧ c (k + 3) ≠ 0 ∧ c (k + 2) ≠ 0 ∧ c (k + 1) ≠ 0 ∧ PV (lnFlight c v k D).2.2 dt rs := by
  unfold lnFlight at hz ⊢
  by_cases h1 : 18 ≤ D 33 1
  · rw [if_pos h1] at hz; exact absurd hz ne_2
  rw [if_neg h1] at hz ⊢
  by_cases h2 : fR c v (k + 1) (D 33 0) ≠ 0
  · rw [if_pos h2] at hz; exact absurd hz h2
  rw [if_neg h2] at hz ⊢
  by_cases h3 : fR c v (k + 2) (D 33 0) ≠ 0
  · rw [if_pos h3] at hz; exact absurd hz h3
  rw [if_neg h3] at hz ⊢
  by_cases h4 : v (k + 1) = v (k + 2) ∨ D 37 (10 * v (k + 1) + v (k + 2)) ≠ 0
  · rw [if_pos h4] at hz; exact absurd hz (by show ¬ (4 : Int) = 0; decide)
  rw [if_neg h4] at hz ⊢
  by_cases h5 : fN c v (k + 3) 1 60 ≠ 0
  · rw [if_pos h5] at hz; exact absurd hz h5
  rw [if_neg h5]
  obtain ⟨e1, e2⟩ := fR_0 (Decidable.not_not.mp h2)
  obtain ⟨e3, e4⟩ := fR_0 (Decidable.not_not.mp h3)
  obtain ⟨e5, e6, e7⟩ := fN_0 (Decidable.not_not.mp h5)
  obtain ⟨⟨a1, a2, a3, a4, a5⟩, b1, b2, b3, b4, b5, b6⟩ := h
  have va := v0 (k + 1)
  have vb := v0 (k + 2)
  refine ⟨rfl, by omega, by omega, by omega, ?_⟩
  dsimp only
  generalize v (k + 1) = a at *
  generalize v (k + 2) = b at *
  generalize v (k + 3) = m at *
  have g : ∀ j, j ≠ 1 → (up (up (up D 37 (10 * a + b) m) 37 (10 * b + a) m) 33 1 (D 33 1 + 1)) 33 j = D 33 j := fun j hj => by rw [up_i hj, up_k (by decide), up_k (by decide)]
  have g0 : (up (up (up D 37 (10 * a + b) m) 37 (10 * b + a) m) 33 1 (D 33 1 + 1)) 33 1 = D 33 1 + 1 := up_same _ _ _ _
  have gk : ∀ y, y ≠ 33 → y ≠ 37 → (up (up (up D 37 (10 * a + b) m) 37 (10 * b + a) m) 33 1 (D 33 1 + 1)) y = D y := fun y q1 q2 => by rw [up_k q1, up_k q2, up_k q2]
  have gf : ∀ i, (up (up (up D 37 (10 * a + b) m) 37 (10 * b + a) m) 33 1 (D 33 1 + 1)) 37 i = if i = 10 * a + b ∨ i = 10 * b + a then m else D 37 i := by
    intro i
    rw [up_k (by decide)]
    by_cases x1 : i = 10 * b + a
    · rw [x1, up_same, if_pos (Or.inr rfl)]
    · rw [up_i x1]
      by_cases x2 : i = 10 * a + b
      · rw [x2, up_same, if_pos (Or.inl rfl)]
      · rw [up_i x2, if_neg (by omega)]
  unfold PV
  rw [g0, g 0 (by decide), g 2 (by decide), g 3 (by decide), g 4 (by decide), gk 35 (by decide) (by decide), gk 39 (by decide) (by decide), gk 41 (by decide) (by decide), gk 43 (by decide) (by decide), gk 45 (by decide) (by decide), gk 47 (by decide) (by decide), gk 49 (by decide) (by decide), gk 51 (by decide) (by decide), gk 53 (by decide) (by decide)]
  refine ⟨⟨a1, by omega, a3, a4, a5⟩, b1, fun x y x0 x1 y0 y1 => ?_, fun o o0 o1 => ?_, b4, b5, b6⟩
  · rw [gf, gf]
    obtain ⟨z1, z2⟩ := b2 x y x0 x1 y0 y1
    by_cases q1 : 10 * x + y = 10 * a + b ∨ 10 * x + y = 10 * b + a
    · rw [if_pos q1, if_pos (by omega)]
      exact ⟨⟨by omega, by omega⟩, rfl⟩
    · rw [if_neg q1, if_neg (by omega)]
      exact ⟨z1, z2⟩
  · obtain ⟨x1, x2, x3, x4, x5⟩ := b3 o o0 o1
    refine ⟨x1, x2, x3, x4, fun i i0 i1 => ?_⟩
    rw [gf]
    by_cases q1 : 10 * D 45 (8 * o + i) + D 45 (8 * o + i + 1) = 10 * a + b ∨ 10 * D 45 (8 * o + i) + D 45 (8 * o + i + 1) = 10 * b + a
    · rw [if_pos q1]; omega
    · rw [if_neg q1]; exact x5 i i0 i1
theorem PV_rider (v0 : ∀ k, 0 ≤ v k) (h : PV D dt rs) (hz : (lnRider c v k D).1 = 0) : (lnRider c v k D).2.1 = k + 5 ∧ c (k + 4) ≠ 0 ∧ c (k + 3) ≠ 0 ∧ c (k + 2) ≠ 0 ∧ c (k + 1) ≠ 0 ∧ PV (lnRider c v k D).2.2 dt rs := by
  unfold lnRider at hz ⊢
  by_cases h1 : 8 ≤ D 33 3
  · rw [if_pos h1] at hz; exact absurd hz ne_2
  rw [if_neg h1] at hz ⊢
  by_cases h2 : fR c v (k + 1) (D 33 0) ≠ 0
  · rw [if_pos h2] at hz; exact absurd hz h2
  rw [if_neg h2] at hz ⊢
  by_cases h3 : fR c v (k + 2) (D 33 0) ≠ 0
  · rw [if_pos h3] at hz; exact absurd hz h3
  rw [if_neg h3] at hz ⊢
  by_cases h4 : fN c v (k + 3) 0 400 ≠ 0
  · rw [if_pos h4] at hz; exact absurd hz h4
  rw [if_neg h4] at hz ⊢
  by_cases h5 : fN c v (k + 4) 0 9 ≠ 0
  · rw [if_pos h5] at hz; exact absurd hz h5
  rw [if_neg h5]
  obtain ⟨e1, e2⟩ := fR_0 (Decidable.not_not.mp h2)
  obtain ⟨e3, e4⟩ := fR_0 (Decidable.not_not.mp h3)
  obtain ⟨e5, e6, e7⟩ := fN_0 (Decidable.not_not.mp h4)
  obtain ⟨e8, e9, e10⟩ := fN_0 (Decidable.not_not.mp h5)
  obtain ⟨⟨a1, a2, a3, a4, a5⟩, b1, b2, b3, b4, b5, b6⟩ := h
  have va := v0 (k + 1)
  have vb := v0 (k + 2)
  refine ⟨rfl, by omega, by omega, by omega, by omega, ?_⟩
  dsimp only
  generalize v (k + 1) = a at *
  generalize v (k + 2) = b at *
  generalize v (k + 3) = m at *
  generalize v (k + 4) = f at *
  have g : ∀ j, j ≠ 3 → (up (up (up (up (up D 47 (D 33 3) a) 49 (D 33 3) b) 51 (D 33 3) m) 53 (D 33 3) f) 33 3 (D 33 3 + 1)) 33 j = D 33 j := fun j hj => by rw [up_i hj, up_k (by decide), up_k (by decide), up_k (by decide), up_k (by decide)]
  have g0 : (up (up (up (up (up D 47 (D 33 3) a) 49 (D 33 3) b) 51 (D 33 3) m) 53 (D 33 3) f) 33 3 (D 33 3 + 1)) 33 3 = D 33 3 + 1 := up_same _ _ _ _
  have gk : ∀ y, y ≠ 33 → y ≠ 47 → y ≠ 49 → y ≠ 51 → y ≠ 53 → (up (up (up (up (up D 47 (D 33 3) a) 49 (D 33 3) b) 51 (D 33 3) m) 53 (D 33 3) f) 33 3 (D 33 3 + 1)) y = D y := fun y q1 q2 q3 q4 q5 => by rw [up_k q1, up_k q5, up_k q4, up_k q3, up_k q2]
  unfold PV
  rw [g0, g 0 (by decide), g 1 (by decide), g 2 (by decide), g 4 (by decide), gk 35 (by decide) (by decide) (by decide) (by decide) (by decide), gk 37 (by decide) (by decide) (by decide) (by decide) (by decide), gk 39 (by decide) (by decide) (by decide) (by decide) (by decide), gk 41 (by decide) (by decide) (by decide) (by decide) (by decide), gk 43 (by decide) (by decide) (by decide) (by decide) (by decide), gk 45 (by decide) (by decide) (by decide) (by decide) (by decide)]
  refine ⟨⟨a1, a2, a3, by omega, a5⟩, b1, b2, b3, fun p p0 p1 => ?_, b5, b6⟩
  rw [up_k (k' := 47) (by decide), up_k (k' := 47) (by decide), up_k (k' := 47) (by decide), up_k (k' := 47) (by decide), up_k (k' := 49) (by decide), up_k (k' := 49) (by decide), up_k (k' := 49) (by decide), up_k (k' := 51) (by decide), up_k (k' := 51) (by decide), up_k (k' := 53) (by decide)]
  by_cases e : p = D 33 3
  · rw [e, up_same, up_same, up_same, up_same]
    exact ⟨⟨va, e2⟩, ⟨vb, e4⟩, ⟨e6, e7⟩, ⟨e9, e10⟩⟩
  · have := b4 p p0 (by omega)
    rw [up_i e, up_i e, up_i e, up_i e, up_k (k' := 49) (by decide), up_k (k' := 51) (by decide), up_k (k' := 51) (by decide), up_k (k' := 53) (by decide), up_k (k' := 53) (by decide), up_k (k' := 53) (by decide)]
    exact this
end LN
