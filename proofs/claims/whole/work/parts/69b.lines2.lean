/-! THE LINES of a text: ways, owls, all -/
section LO
variable {c v : Nat → Int} {N : Nat} {D : dS} {dt : Bool} {rs : List (List Int)} {k : Nat}
/-- what reading a way leaves -/
def WYR (o : Int) (D D' : dS) : Prop := (∀ y, y ≠ 43 → y ≠ 45 → D' y = D y) ∧ (∀ j, j ≠ o → D' 43 j = D 43 j) ∧ (∀ j, j < 8 * o ∨ 8 * o + 8 ≤ j → D' 45 j = D 45 j)
theorem way_k (c0 : c N = 0) (v0 : ∀ k, 0 ≤ v k) {o : Int} {D0 : dS} : ∀ (n k : Nat) (D : dS), n ≤ 8 → k ≤ N → WYR o D0 D → (∀ i, 0 ≤ i → i < 8 - (n : Int) → 0 ≤ D 45 (8 * o + i) ∧ D 45 (8 * o + i) < D0 33 0) → (∀ i, 0 ≤ i → i + 1 < 8 - (n : Int) → D0 37 (10 * D 45 (8 * o + i) + D 45 (8 * o + i + 1)) ≠ 0) →
    (lnWay c v o n k D).2.1 ≤ N ∧ k ≤ (lnWay c v o n k D).2.1 ∧ ((lnWay c v o n k D).1 = 0 → WYR o D0 (lnWay c v o n k D).2.2 ∧ (1 ≤ (lnWay c v o n k D).2.2 43 o ∧ (lnWay c v o n k D).2.2 43 o ≤ 8) ∧ (∀ i, 0 ≤ i → i < (lnWay c v o n k D).2.2 43 o → 0 ≤ (lnWay c v o n k D).2.2 45 (8 * o + i) ∧ (lnWay c v o n k D).2.2 45 (8 * o + i) < D0 33 0) ∧ (∀ i, 0 ≤ i → i + 1 < (lnWay c v o n k D).2.2 43 o → D0 37 (10 * (lnWay c v o n k D).2.2 45 (8 * o + i) + (lnWay c v o n k D).2.2 45 (8 * o + i + 1)) ≠ 0))
  | 0, k, D, hn, hk, hW, h1, h2 => by
    unfold lnWay
    by_cases hc : c k ≠ 1
    · rw [if_pos hc]
      dsimp only
      rw [up_same, up_k (k' := 45) (by decide)]
      refine ⟨hk, Nat.le_refl k, fun _ => ⟨⟨fun y q1 q2 => by rw [up_k q1]; exact hW.1 y q1 q2, fun j hj => by rw [up_i hj]; exact hW.2.1 j hj, fun j hj => by rw [up_k (by decide)]; exact hW.2.2 j hj⟩, by decide, fun i i0 i1 => h1 i i0 (by omega), fun i i0 i1 => h2 i i0 (by omega)⟩⟩
    · rw [if_neg hc]
      exact ⟨hk, Nat.le_refl k, fun z => absurd z ne_2⟩
  | n + 1, k, D, hn, hk, hW, h1, h2 => by
    unfold lnWay
    by_cases hc : n < 7 ∧ c k ≠ 1
    · rw [if_pos hc]
      dsimp only
      rw [up_same, up_k (k' := 45) (by decide)]
      refine ⟨hk, Nat.le_refl k, fun _ => ⟨⟨fun y q1 q2 => by rw [up_k q1]; exact hW.1 y q1 q2, fun j hj => by rw [up_i hj]; exact hW.2.1 j hj, fun j hj => by rw [up_k (by decide)]; exact hW.2.2 j hj⟩, by omega, fun i i0 i1 => h1 i i0 (by omega), fun i i0 i1 => h2 i i0 (by omega)⟩⟩
    rw [if_neg hc]
    by_cases h3 : fR c v k (D 33 0) ≠ 0
    · rw [if_pos h3]
      exact ⟨hk, Nat.le_refl k, fun z => absurd z h3⟩
    rw [if_neg h3]
    obtain ⟨e1, e2⟩ := fR_0 (Decidable.not_not.mp h3)
    have hlt := one_lt c0 hk (by omega)
    by_cases h4 : n < 7 ∧ D 37 (10 * D 45 (8 * o + (7 - n) - 1) + v k) = 0
    · rw [if_pos h4]
      exact ⟨hk, Nat.le_refl k, fun z => absurd z (by show ¬ (6 : Int) = 0; decide)⟩
    rw [if_neg h4]
    rw [hW.1 33 (by decide) (by decide)] at e2
    rw [hW.1 37 (by decide) (by decide)] at h4
    have vk := v0 k
    obtain ⟨r1, r2, r3⟩ := way_k (o := o) (D0 := D0) c0 v0 n (k + 1) (up D 45 (8 * o + (7 - n)) (v k)) (by omega) hlt ⟨fun y q1 q2 => by rw [up_k q2]; exact hW.1 y q1 q2, fun j hj => by rw [up_k (by decide)]; exact hW.2.1 j hj, fun j hj => by rw [up_i (by omega)]; exact hW.2.2 j hj⟩ (fun i i0 i1 => by
      by_cases e : i = 7 - n
      · rw [e, up_same]; exact ⟨vk, e2⟩
      · rw [up_i (by omega)]; exact h1 i i0 (by omega)) (fun i i0 i1 => by
      rw [up_i (i := 8 * o + (7 - n)) (i' := 8 * o + i) (by omega)]
      by_cases e : i + 1 = 7 - n
      · rw [show 8 * o + i + 1 = 8 * o + (7 - n) by omega, up_same]
        intro z
        refine h4 ⟨by omega, ?_⟩
        rw [show 8 * o + (7 - (n : Int)) - 1 = 8 * o + i by omega]
        exact z
      · rw [up_i (by omega)]; exact h2 i i0 (by omega))
    exact ⟨r1, by omega, r3⟩
theorem PV_owl (c0 : c N = 0) (v0 : ∀ k, 0 ≤ v k) {kind : Int} (k0 : 0 ≤ kind) (k2 : kind ≤ 2) (hk : k < N) (h : PV D dt rs) (hz : (lnOwl c v kind k D).1 = 0) : (lnOwl c v kind k D).2.1 ≤ N ∧ k + 2 ≤ (lnOwl c v kind k D).2.1 ∧ c (k + 1) ≠ 0 ∧ PV (lnOwl c v kind k D).2.2 dt rs := by
  unfold lnOwl at hz ⊢
  by_cases h1 : 5 ≤ D 33 2
  · rw [if_pos h1] at hz; exact absurd hz ne_2
  rw [if_neg h1] at hz ⊢
  by_cases h2 : fN c v (k + 1) 0 300 ≠ 0
  · rw [if_pos h2] at hz; exact absurd hz h2
  rw [if_neg h2] at hz ⊢
  by_cases h3 : (lnWay c v (D 33 2) 8 (k + 2) D).1 ≠ 0
  · rw [if_pos h3] at hz; exact absurd hz h3
  rw [if_neg h3]
  dsimp only
  obtain ⟨e1, e2, e3⟩ := fN_0 (Decidable.not_not.mp h2)
  have hlt := one_lt c0 (k := k + 1) hk (by omega)
  obtain ⟨r1, r2, r3⟩ := way_k (N := N) c0 v0 (o := D 33 2) (D0 := D) 8 (k + 2) D (Nat.le_refl 8) (by omega) ⟨fun _ _ _ => rfl, fun _ _ => rfl, fun _ _ => rfl⟩ (fun i i0 i1 => by omega) (fun i i0 i1 => by omega)
  obtain ⟨⟨w1, w2, w3⟩, q1, q2, q3⟩ := r3 (Decidable.not_not.mp h3)
  refine ⟨r1, r2, by omega, ?_⟩
  obtain ⟨⟨a1, a2, a3, a4, a5⟩, b1, b2, b3, b4, b5, b6⟩ := h
  generalize lnWay c v (D 33 2) 8 (k + 2) D = r at *
  generalize r.2.2 = E at *
  have g : ∀ j, j ≠ 2 → (up (up (up E 39 (D 33 2) kind) 41 (D 33 2) (v (k + 1))) 33 2 (D 33 2 + 1)) 33 j = D 33 j := fun j hj => by rw [up_i hj, up_k (by decide), up_k (by decide), w1 33 (by decide) (by decide)]
  have g0 : (up (up (up E 39 (D 33 2) kind) 41 (D 33 2) (v (k + 1))) 33 2 (D 33 2 + 1)) 33 2 = D 33 2 + 1 := up_same _ _ _ _
  have gk : ∀ y, y ≠ 33 → y ≠ 39 → y ≠ 41 → y ≠ 43 → y ≠ 45 → (up (up (up E 39 (D 33 2) kind) 41 (D 33 2) (v (k + 1))) 33 2 (D 33 2 + 1)) y = D y := fun y z1 z2 z3 z4 z5 => by rw [up_k z1, up_k z3, up_k z2, w1 y z4 z5]
  have g39 : ∀ j, (up (up (up E 39 (D 33 2) kind) 41 (D 33 2) (v (k + 1))) 33 2 (D 33 2 + 1)) 39 j = if j = D 33 2 then kind else D 39 j := by
    intro j
    rw [up_k (by decide), up_k (by decide)]
    by_cases e : j = D 33 2
    · rw [if_pos e, e, up_same]
    · rw [if_neg e, up_i e, w1 39 (by decide) (by decide)]
  have g41 : ∀ j, (up (up (up E 39 (D 33 2) kind) 41 (D 33 2) (v (k + 1))) 33 2 (D 33 2 + 1)) 41 j = if j = D 33 2 then v (k + 1) else D 41 j := by
    intro j
    rw [up_k (by decide)]
    by_cases e : j = D 33 2
    · rw [if_pos e, e, up_same]
    · rw [if_neg e, up_i e, up_k (by decide), w1 41 (by decide) (by decide)]
  have g43 : (up (up (up E 39 (D 33 2) kind) 41 (D 33 2) (v (k + 1))) 33 2 (D 33 2 + 1)) 43 = E 43 := by rw [up_k (by decide), up_k (by decide), up_k (by decide)]
  have g45 : (up (up (up E 39 (D 33 2) kind) 41 (D 33 2) (v (k + 1))) 33 2 (D 33 2 + 1)) 45 = E 45 := by rw [up_k (by decide), up_k (by decide), up_k (by decide)]
  unfold PV
  rw [g0, g 0 (by decide), g 1 (by decide), g 3 (by decide), g 4 (by decide), g43, g45, gk 35 (by decide) (by decide) (by decide) (by decide) (by decide), gk 37 (by decide) (by decide) (by decide) (by decide) (by decide), gk 47 (by decide) (by decide) (by decide) (by decide) (by decide), gk 49 (by decide) (by decide) (by decide) (by decide) (by decide), gk 51 (by decide) (by decide) (by decide) (by decide) (by decide), gk 53 (by decide) (by decide) (by decide) (by decide) (by decide)]
  refine ⟨⟨a1, a2, by omega, a4, a5⟩, b1, b2, fun o o0 o1 => ?_, b4, b5, b6⟩
  rw [g39, g41]
  by_cases e : o = D 33 2
  · rw [if_pos e, if_pos e, e]
    exact ⟨⟨k0, k2⟩, ⟨e2, e3⟩, q1, q2, q3⟩
  · rw [if_neg e, if_neg e]
    obtain ⟨x1, x2, x3, x4, x5⟩ := b3 o o0 (by omega)
    rw [w2 o e]
    refine ⟨x1, x2, x3, fun i i0 i1 => ?_, fun i i0 i1 => ?_⟩
    · rw [w3 _ (by omega)]; exact x4 i i0 i1
    · rw [w3 _ (by omega), w3 _ (by omega)]; exact x5 i i0 i1
theorem drop_app {a b : List Int} : (a ++ b).drop a.length = b := by simp
theorem PV_one (c0 : c N = 0) (hN : N ≤ 700) (v0 : ∀ k, 0 ≤ v k) (hk : k < N) (h : PV D dt rs) (hz : (lnOne c v k D dt rs).1 = 0) : (lnOne c v k D dt rs).2.1 ≤ N ∧ k < (lnOne c v k D dt rs).2.1 ∧ PV (lnOne c v k D dt rs).2.2.1 (lnOne c v k D dt rs).2.2.2.1 (lnOne c v k D dt rs).2.2.2.2 ∧ (lnOne c v k D dt rs).2.2.2.2.flatten.length + k ≤ rs.flatten.length + (lnOne c v k D dt rs).2.1 := by
  have nx : ∀ j, j ≤ N → c j ≠ 0 → j < N := fun j hj hh => one_lt c0 hj hh
  unfold lnOne at hz ⊢
  by_cases h1 : c k = 129
  · rw [if_pos h1] at hz ⊢
    obtain ⟨e1, e2, e3⟩ := PV_roof v0 h hz
    have := nx (k + 1) hk e2
    exact ⟨by show (lnRoof c v k D).2.1 ≤ N; omega, by show k < (lnRoof c v k D).2.1; omega, e3, by show rs.flatten.length + k ≤ rs.flatten.length + (lnRoof c v k D).2.1; omega⟩
  rw [if_neg h1] at hz ⊢
  by_cases h2 : c k = 130
  · rw [if_pos h2] at hz ⊢
    obtain ⟨e1, e2, e3, e4, e5⟩ := PV_flight v0 h hz
    have y1 := nx (k + 1) hk e4
    have y2 := nx (k + 2) y1 e3
    have y3 := nx (k + 3) y2 e2
    exact ⟨by show (lnFlight c v k D).2.1 ≤ N; omega, by show k < (lnFlight c v k D).2.1; omega, e5, by show rs.flatten.length + k ≤ rs.flatten.length + (lnFlight c v k D).2.1; omega⟩
  rw [if_neg h2] at hz ⊢
  by_cases h3 : 131 ≤ c k ∧ c k ≤ 133
  · rw [if_pos h3] at hz ⊢
    obtain ⟨e1, e2, e3, e4⟩ := PV_owl c0 v0 (kind := c k - 131) (by omega) (by omega) hk h hz
    exact ⟨e1, by show k < (lnOwl c v (c k - 131) k D).2.1; omega, e4, by show rs.flatten.length + k ≤ rs.flatten.length + (lnOwl c v (c k - 131) k D).2.1; omega⟩
  rw [if_neg h3] at hz ⊢
  by_cases h4 : c k = 134
  · rw [if_pos h4] at hz ⊢
    obtain ⟨e1, e2, e3, e4, e5, e6⟩ := PV_rider v0 h hz
    have y1 := nx (k + 1) hk e5
    have y2 := nx (k + 2) y1 e4
    have y3 := nx (k + 3) y2 e3
    have y4 := nx (k + 4) y3 e2
    exact ⟨by show (lnRider c v k D).2.1 ≤ N; omega, by show k < (lnRider c v k D).2.1; omega, e6, by show rs.flatten.length + k ≤ rs.flatten.length + (lnRider c v k D).2.1; omega⟩
  rw [if_neg h4] at hz ⊢
  by_cases h5 : c k = 135
  · rw [if_pos h5] at hz ⊢
    by_cases h6 : dt = true
    · rw [if_pos h6] at hz; exact absurd hz (by show ¬ (5 : Int) = 0; decide)
    rw [if_neg h6] at hz ⊢
    by_cases h7 : fN c v (k + 1) 60 600 ≠ 0
    · rw [if_pos h7] at hz; exact absurd hz h7
    rw [if_neg h7]
    dsimp only
    obtain ⟨e1, e2, e3⟩ := fN_0 (Decidable.not_not.mp h7)
    have y1 := nx (k + 1) hk (by omega)
    refine ⟨y1, by omega, ?_, by omega⟩
    obtain ⟨⟨a1, a2, a3, a4, a5⟩, b1, b2, b3, b4, b5, b6⟩ := h
    unfold PV
    rw [up_same, up_i (i' := 0) (by decide), up_i (i' := 1) (by decide), up_i (i' := 2) (by decide), up_i (i' := 3) (by decide), up_k (k' := 35) (by decide), up_k (k' := 37) (by decide), up_k (k' := 39) (by decide), up_k (k' := 41) (by decide), up_k (k' := 43) (by decide), up_k (k' := 45) (by decide), up_k (k' := 47) (by decide), up_k (k' := 49) (by decide), up_k (k' := 51) (by decide), up_k (k' := 53) (by decide)]
    exact ⟨⟨a1, a2, a3, a4, by omega⟩, b1, b2, b3, b4, fun z => absurd z (by decide), b6⟩
  rw [if_neg h5] at hz ⊢
  by_cases h6 : c k = 136
  · rw [if_pos h6] at hz ⊢
    by_cases h7 : 4 ≤ rs.length
    · rw [if_pos h7] at hz; exact absurd hz ne_2
    rw [if_neg h7] at hz ⊢
    dsimp only at hz ⊢
    rw [if_pos hz]
    obtain ⟨s1, s2, s3, s4⟩ := gex_k c0 hN v0 6 (k + 1) rs.flatten hk
    obtain ⟨t1, P, t2, t3, t4⟩ := s4 hz
    rw [t2, drop_app]
    obtain ⟨⟨a1, a2, a3, a4, a5⟩, b1, b2, b3, b4, b5, b6, b7⟩ := h
    refine ⟨s2, by omega, ⟨⟨a1, a2, a3, a4, a5⟩, b1, b2, b3, b4, b5, by rw [List.length_append]; simp only [List.length_cons, List.length_nil]; omega, fun l hl => ?_⟩, ?_⟩
    · rcases List.mem_append.mp hl with z | z
      · exact b7 l z
      · rw [List.mem_singleton.mp z]
        have := t4 [] 0 (by decide) rfl
        rw [List.append_nil] at this
        exact this
    · rw [List.flatten_append, List.length_append]
      simp only [List.flatten_cons, List.flatten_nil, List.append_nil]
      omega
  rw [if_neg h6] at hz
  exact absurd hz ne_1
end LO
