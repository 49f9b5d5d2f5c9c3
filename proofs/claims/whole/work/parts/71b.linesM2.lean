/-! THE REFERENCE READS lines: roofs, flights, riders -/
section MM
variable {c q v : Nat → Int} {N : Nat} {Mk : Nat → dS → Prop} {S : dS} {d : Nat} {Q : dR → dS → Prop} {σ : dS} {k : Nat} {D : dS} {dt : Bool} {rs : List (List Int)}
theorem up_z {y z : Nat} {i j x : Int} (h : z = y → j ≠ i) : up σ y i x z j = σ z j := up_ne σ (fun q => h q.1 q.2)
theorem MR_w {y : Nat} {i x : Int} (hT : TM c q v N Mk) (hy : y = 163 ∨ (165 ≤ y ∧ y ≤ 170)) (hlen : ∀ o, 0 ≤ o → o < D 33 2 → D 43 o ≤ 8) (h : MR Mk S k D dt rs σ) (c163 : y = 163 → D 33 0 ≤ i) (c165 : 165 ≤ y ∧ y ≤ 167 → D 33 2 ≤ i) (c168 : y = 168 → 8 * D 33 2 ≤ i) (c169 : y = 169 → 4 * D 33 3 ≤ i) (c170 : y = 170 → (rs.length : Int) ≤ i) : MR Mk S k D dt rs (up σ y i x) := by
  obtain ⟨a1, a2, a3, a4, b1, b2, b3, b4, b5, b6, b7⟩ := h
  have g : ∀ j, (up σ y i x) 153 j = σ 153 j := fun j => by rw [up_k (by omega)]
  refine ⟨mfl_c (by omega) a1, hT.2.1 k σ _ a2 (up_k (by omega)) (fun j _ => g j), by rw [g, g]; exact a3, by rw [g, g, g, g, g, g]; exact a4, fun r r0 r1 => ?_, fun j j0 j1 => ?_, fun o o0 o1 => ?_, fun p p0 p1 => ?_, fun j hj => ?_, by rw [g]; exact b6, seg_k (up_k (by omega)) b7⟩
  · rw [up_z (fun e => by have := c163 e.symm; omega)]; exact b1 r r0 r1
  · rw [up_z (fun e => by omega)]; exact b2 j j0 j1
  · obtain ⟨x1, x2, x3, x4⟩ := b3 o o0 o1
    have hl := hlen o o0 o1
    refine ⟨?_, ?_, ?_, fun i' i0 i1 => ?_⟩
    · rw [up_z (fun e => by have := c165 (by omega); omega)]; exact x1
    · rw [up_z (fun e => by have := c165 (by omega); omega)]; exact x2
    · rw [up_z (fun e => by have := c165 (by omega); omega)]; exact x3
    · rw [up_z (fun e => by have := c168 (by omega); omega)]; exact x4 i' i0 i1
  · obtain ⟨x1, x2, x3, x4⟩ := b4 p p0 p1
    refine ⟨?_, ?_, ?_, ?_⟩
    · rw [up_z (fun e => by have := c169 (by omega); omega)]; exact x1
    · rw [up_z (fun e => by have := c169 (by omega); omega)]; exact x2
    · rw [up_z (fun e => by have := c169 (by omega); omega)]; exact x3
    · rw [up_z (fun e => by have := c169 (by omega); omega)]; exact x4
  · rw [up_z (fun e => by have := c170 (by omega); omega)]; exact b5 j hj
theorem MF_c {f p : Int} {y : Nat} {i x : Int} (hy : 163 ≤ y ∧ y ≤ 173) (h : MF S f p σ) : MF S f p (up σ y i x) :=
  ⟨mfl_c hy h.1, by rw [up_k (by omega)]; exact h.2.1, by rw [up_k (by omega)]; exact h.2.2⟩
theorem MF_j {f p : Int} {j x : Int} (hj : 20 ≤ j ∧ j ≤ 35) (h : MF S f p σ) : MF S f p (up σ 153 j x) :=
  ⟨mfl_j (by omega) h.1, by rw [up_i (by omega)]; exact h.2.1, by rw [up_i (by omega)]; exact h.2.2⟩
theorem MR_Mk {σ' : dS} (hT : TM c q v N Mk) {j x : Int} (hj : 27 ≤ j ∧ j ≤ 35) (h : Mk k σ) (e : σ' = up σ 153 j x) : Mk k σ' :=
  hT.2.1 k σ σ' h (by rw [e, up_k (by decide)]) (fun i hi => by rw [e, up_i (by omega)])
theorem MR_roof {g : Int} (hT : TM c q v N Mk) (h : MR Mk S k D dt rs σ) (hg : σ 163 (D 33 0) = g) : MR Mk S k (up (up D 35 (D 33 0) g) 33 0 (D 33 0 + 1)) dt rs (up σ 153 27 (D 33 0 + 1)) := by
  obtain ⟨a1, a2, a3, ⟨n1, n2, n3, n4, n5, n6⟩, b1, b2, b3, b4, b5, b6, b7⟩ := h
  have gD : ∀ y, y ≠ 33 → y ≠ 35 → (up (up D 35 (D 33 0) g) 33 0 (D 33 0 + 1)) y = D y := fun y q1 q2 => by rw [up_k q1, up_k q2]
  have g33 : ∀ j, j ≠ 0 → (up (up D 35 (D 33 0) g) 33 0 (D 33 0 + 1)) 33 j = D 33 j := fun j hj => by rw [up_i hj, up_k (by decide)]
  have gs : ∀ j, j ≠ 27 → (up σ 153 27 (D 33 0 + 1)) 153 j = σ 153 j := fun j hj => up_i hj
  have gk : ∀ y, y ≠ 153 → (up σ 153 27 (D 33 0 + 1)) y = σ y := fun y hy => up_k hy
  refine ⟨mfl_j (by omega) a1, MR_Mk hT (by decide) a2 rfl, by rw [gs 16 (by decide), gs 17 (by decide)]; exact a3, ?_, ?_, ?_, ?_, ?_, ?_, ?_, ?_⟩
  · rw [up_same, up_same, gs 28 (by decide), gs 29 (by decide), gs 30 (by decide), gs 31 (by decide), gs 32 (by decide), g33 1 (by decide), g33 2 (by decide), g33 3 (by decide), g33 4 (by decide)]
    exact ⟨rfl, n2, n3, n4, n5, n6⟩
  · rw [up_same, gk 163 (by decide), up_k (k' := 35) (by decide)]
    intro r r0 r1
    by_cases e : r = D 33 0
    · rw [e, up_same]; exact hg
    · rw [up_i e]; exact b1 r r0 (by omega)
  · rw [gk 164 (by decide), gD 37 (by decide) (by decide)]; exact b2
  · rw [g33 2 (by decide), gk 165 (by decide), gk 166 (by decide), gk 167 (by decide), gk 168 (by decide), gD 39 (by decide) (by decide), gD 41 (by decide) (by decide), gD 43 (by decide) (by decide), gD 45 (by decide) (by decide)]; exact b3
  · rw [g33 3 (by decide), gk 169 (by decide), gD 47 (by decide) (by decide), gD 49 (by decide) (by decide), gD 51 (by decide) (by decide), gD 53 (by decide) (by decide)]; exact b4
  · rw [gk 170 (by decide)]; exact b5
  · rw [gs 33 (by decide)]; exact b6
  · exact seg_k (gk 171 (by decide)) b7
theorem MR_flight {a b m : Int} (hT : TM c q v N Mk) (h : MR Mk S k D dt rs σ) : MR Mk S k (up (up (up D 37 (10 * a + b) m) 37 (10 * b + a) m) 33 1 (D 33 1 + 1)) dt rs (up (up (up σ 164 (10 * a + b) m) 164 (10 * b + a) m) 153 28 (D 33 1 + 1)) := by
  obtain ⟨a1, a2, a3, ⟨n1, n2, n3, n4, n5, n6⟩, b1, b2, b3, b4, b5, b6, b7⟩ := h
  have gD : ∀ y, y ≠ 33 → y ≠ 37 → (up (up (up D 37 (10 * a + b) m) 37 (10 * b + a) m) 33 1 (D 33 1 + 1)) y = D y := fun y q1 q2 => by rw [up_k q1, up_k q2, up_k q2]
  have g33 : ∀ j, j ≠ 1 → (up (up (up D 37 (10 * a + b) m) 37 (10 * b + a) m) 33 1 (D 33 1 + 1)) 33 j = D 33 j := fun j hj => by rw [up_i hj, up_k (by decide), up_k (by decide)]
  have gs : ∀ j, j ≠ 28 → (up (up (up σ 164 (10 * a + b) m) 164 (10 * b + a) m) 153 28 (D 33 1 + 1)) 153 j = σ 153 j := fun j hj => by rw [up_i hj, up_k (by decide), up_k (by decide)]
  have gk : ∀ y, y ≠ 153 → y ≠ 164 → (up (up (up σ 164 (10 * a + b) m) 164 (10 * b + a) m) 153 28 (D 33 1 + 1)) y = σ y := fun y hy hy2 => by rw [up_k hy, up_k hy2, up_k hy2]
  refine ⟨mfl_j (by omega) (mfl_c (by decide) (mfl_c (by decide) a1)), hT.2.1 k σ _ a2 (gk 161 (by decide) (by decide)) (fun j hj => gs j (by omega)), by rw [gs 16 (by decide), gs 17 (by decide)]; exact a3, ?_, ?_, fun i i0 i1 => ?_, ?_, ?_, ?_, ?_, ?_⟩
  · rw [up_same, up_same, gs 27 (by decide), gs 29 (by decide), gs 30 (by decide), gs 31 (by decide), gs 32 (by decide), g33 0 (by decide), g33 2 (by decide), g33 3 (by decide), g33 4 (by decide)]
    exact ⟨n1, rfl, n3, n4, n5, n6⟩
  · rw [g33 0 (by decide), gk 163 (by decide) (by decide), gD 35 (by decide) (by decide)]; exact b1
  · rw [up_k (k' := 164) (by decide), up_k (k' := 37) (by decide)]
    by_cases e1 : i = 10 * b + a
    · rw [e1, up_same, up_same]
    · rw [up_i e1, up_i e1]
      by_cases e2 : i = 10 * a + b
      · rw [e2, up_same, up_same]
      · rw [up_i e2, up_i e2]; exact b2 i i0 i1
  · rw [g33 2 (by decide), gk 165 (by decide) (by decide), gk 166 (by decide) (by decide), gk 167 (by decide) (by decide), gk 168 (by decide) (by decide), gD 39 (by decide) (by decide), gD 41 (by decide) (by decide), gD 43 (by decide) (by decide), gD 45 (by decide) (by decide)]; exact b3
  · rw [g33 3 (by decide), gk 169 (by decide) (by decide), gD 47 (by decide) (by decide), gD 49 (by decide) (by decide), gD 51 (by decide) (by decide), gD 53 (by decide) (by decide)]; exact b4
  · rw [gk 170 (by decide) (by decide)]; exact b5
  · rw [gs 33 (by decide)]; exact b6
  · exact seg_k (gk 171 (by decide) (by decide)) b7
theorem MR_rider {a b m f : Int} (hT : TM c q v N Mk) (h : MR Mk S k D dt rs σ) (h0 : σ 169 (4 * D 33 3) = a) (h1 : σ 169 (4 * D 33 3 + 1) = b) (h2 : σ 169 (4 * D 33 3 + 2) = m) (h3 : σ 169 (4 * D 33 3 + 3) = f) : MR Mk S k (up (up (up (up (up D 47 (D 33 3) a) 49 (D 33 3) b) 51 (D 33 3) m) 53 (D 33 3) f) 33 3 (D 33 3 + 1)) dt rs (up σ 153 30 (D 33 3 + 1)) := by
  obtain ⟨a1, a2, a3, ⟨n1, n2, n3, n4, n5, n6⟩, b1, b2, b3, b4, b5, b6, b7⟩ := h
  have gD : ∀ y, y ≠ 33 → y ≠ 47 → y ≠ 49 → y ≠ 51 → y ≠ 53 → (up (up (up (up (up D 47 (D 33 3) a) 49 (D 33 3) b) 51 (D 33 3) m) 53 (D 33 3) f) 33 3 (D 33 3 + 1)) y = D y := fun y q1 q2 q3 q4 q5 => by rw [up_k q1, up_k q5, up_k q4, up_k q3, up_k q2]
  have g33 : ∀ j, j ≠ 3 → (up (up (up (up (up D 47 (D 33 3) a) 49 (D 33 3) b) 51 (D 33 3) m) 53 (D 33 3) f) 33 3 (D 33 3 + 1)) 33 j = D 33 j := fun j hj => by rw [up_i hj, up_k (by decide), up_k (by decide), up_k (by decide), up_k (by decide)]
  have gs : ∀ j, j ≠ 30 → (up σ 153 30 (D 33 3 + 1)) 153 j = σ 153 j := fun j hj => up_i hj
  have gk : ∀ y, y ≠ 153 → (up σ 153 30 (D 33 3 + 1)) y = σ y := fun y hy => up_k hy
  refine ⟨mfl_j (by omega) a1, MR_Mk hT (by decide) a2 rfl, by rw [gs 16 (by decide), gs 17 (by decide)]; exact a3, ?_, ?_, ?_, ?_, fun p p0 p1 => ?_, ?_, ?_, ?_⟩
  · rw [up_same, up_same, gs 27 (by decide), gs 28 (by decide), gs 29 (by decide), gs 31 (by decide), gs 32 (by decide), g33 0 (by decide), g33 1 (by decide), g33 2 (by decide), g33 4 (by decide)]
    exact ⟨n1, n2, n3, rfl, n5, n6⟩
  · rw [g33 0 (by decide), gk 163 (by decide), gD 35 (by decide) (by decide) (by decide) (by decide) (by decide)]; exact b1
  · rw [gk 164 (by decide), gD 37 (by decide) (by decide) (by decide) (by decide) (by decide)]; exact b2
  · rw [g33 2 (by decide), gk 165 (by decide), gk 166 (by decide), gk 167 (by decide), gk 168 (by decide), gD 39 (by decide) (by decide) (by decide) (by decide) (by decide), gD 41 (by decide) (by decide) (by decide) (by decide) (by decide), gD 43 (by decide) (by decide) (by decide) (by decide) (by decide), gD 45 (by decide) (by decide) (by decide) (by decide) (by decide)]; exact b3
  · rw [up_same] at p1
    rw [gk 169 (by decide), up_k (k' := 47) (by decide), up_k (k' := 47) (by decide), up_k (k' := 47) (by decide), up_k (k' := 47) (by decide), up_k (k' := 49) (by decide), up_k (k' := 49) (by decide), up_k (k' := 49) (by decide), up_k (k' := 51) (by decide), up_k (k' := 51) (by decide), up_k (k' := 53) (by decide)]
    by_cases e : p = D 33 3
    · rw [e, up_same, up_same, up_same, up_same]
      exact ⟨h0, h1, h2, h3⟩
    · rw [up_i e, up_i e, up_i e, up_i e, up_k (k' := 49) (by decide), up_k (k' := 51) (by decide), up_k (k' := 51) (by decide), up_k (k' := 53) (by decide), up_k (k' := 53) (by decide), up_k (k' := 53) (by decide)]
      exact b4 p p0 (by omega)
  · rw [gk 170 (by decide)]; exact b5
  · rw [gs 33 (by decide)]; exact b6
  · exact seg_k (gk 171 (by decide)) b7
theorem w190 {K : dS → Prop} (hT : TM c q v N Mk) (c0 : c N = 0) (v0 : ∀ k, 0 ≤ v k) (hk : k < N) (hV : PV D dt rs) (h : MR Mk S k D dt rs σ) (h0 : (lnFlight c v k D).1 = 0 → ∀ σ', MR Mk S (lnFlight c v k D).2.1 (lnFlight c v k D).2.2 dt rs σ' → K σ') (h1 : (lnFlight c v k D).1 ≠ 0 → ∀ σ', MF S (lnFlight c v k D).1 (q (lnFlight c v k D).2.1) σ' → K σ') : wV (d + 7) 190 [.inr (.inr 153)] σ Q K := by
  obtain ⟨⟨p1, p2, _⟩, _, hfl, _⟩ := hV
  unfold lnFlight at h0 h1
  have n28 := h.2.2.2.1.2.1
  have hg := h.2.2.1.1
  refine c190 (b190_0 ?_)
  rw [n28]
  refine ⟨fun z => b190_1 (w173g hg ⟨fun _ => b190_2 ?_, fun y => absurd (by decide) y⟩), fun z => w172M hT (by omega) h (fun σ' g => b190_1 (w173b (by rw [g.2.1]; exact ne_2) ⟨fun y => absurd rfl y, fun _ => ?_⟩))⟩
  · rw [if_neg (by omega)] at h0 h1
    refine MR_goes hT hk h (fun σ1 _ g1 => ?_)
    refine w178M (k := k + 1) hT c0 hk g1 p1.2 (fun y σ2 g2 => ?_) (fun y y1 y2 σ2 _ g2 => ?_)
    · rw [if_pos y] at h1
      have nb : σ2 153 16 ≠ 0 := by rw [g2.2.1]; exact y
      exact w177B nb (w173b nb ⟨fun _ => b190_4 (w173b nb ⟨fun u => absurd rfl u, fun _ => h1 y σ2 g2⟩), fun u => absurd rfl u⟩)
    · rw [if_neg (fun u => u y)] at h0 h1
      have hk2 := one_lt c0 (k := k + 1) hk (by omega)
      have va := v0 (k + 1)
      have vb := v0 (k + 2)
      refine w177M (k := k + 2) hT hk2 g2 p1.2 (fun x σ3 g3 => ?_) (fun x x1 x2 => ?_)
      · rw [if_pos x] at h1
        have nb : σ3 153 16 ≠ 0 := by rw [g3.2.1]; exact x
        exact w173b nb ⟨fun _ => b190_4 (w173b nb ⟨fun u => absurd rfl u, fun _ => h1 x σ3 g3⟩), fun u => absurd rfl u⟩
      · rw [if_neg (fun u => u x)] at h0 h1
        have ei : wr (wr (10 * v (k + 1)) + v (k + 2)) = 10 * v (k + 1) + v (k + 2) := by rw [wr_id (x := 10 * v (k + 1)) (by omega) (by omega), wr_id (by omega) (by omega)]
        have ej : wr (wr (10 * v (k + 2)) + v (k + 1)) = 10 * v (k + 2) + v (k + 1) := by rw [wr_id (x := 10 * v (k + 2)) (by omega) (by omega), wr_id (by omega) (by omega)]
        have e164 : σ2 164 (10 * v (k + 1) + v (k + 2)) = D 37 (10 * v (k + 1) + v (k + 2)) := g2.2.2.2.2.2.1 _ (by omega) (by omega)
        have bad : (v (k + 1) = v (k + 2) ∨ D 37 (10 * v (k + 1) + v (k + 2)) ≠ 0) → ∀ Q', (∀ σ', K σ' → Q' (.inl none) σ') → B190_3 (d + 5) Q' (v (k + 1)) (v (k + 2)) σ2 := by
          intro hb Q' hq'
          refine b190_3 (w172M hT hk2 g2 (fun σ' g => b190_4 (w173b (by rw [g.2.1]; show ¬ (4 : Int) = 0; decide) ⟨fun u => absurd rfl u, fun _ => hq' σ' ?_⟩)))
          rw [if_pos hb] at h1
          exact h1 (by show ¬ (4 : Int) = 0; decide) σ' g
        refine w173g g2.2.2.1.1 ⟨fun u => absurd u (by decide), fun _ => ⟨fun w => bad (Or.inl w) _ (fun _ u => u), fun w => ?_⟩⟩
        rw [ei]
        refine ⟨by omega, by omega, ?_⟩
        rw [e164]
        refine ⟨fun u => b190_4 (w173g g2.2.2.1.1 ⟨fun _ => b190_5 ?_, fun y3 => absurd (by decide) y3⟩), fun u => bad (Or.inr u) _ (fun _ u => u)⟩
        have nbb : ¬ (v (k + 1) = v (k + 2) ∨ D 37 (10 * v (k + 1) + v (k + 2)) ≠ 0) := by
          rintro (w1 | w1)
          · exact w w1
          · exact w1 u
        rw [if_neg nbb] at h0 h1
        have hk3 := one_lt c0 (k := k + 2) hk2 (by omega)
        refine MR_goes hT hk3 g2 (fun σ3 _ g3 => ?_)
        rw [ei, ej]
        refine w176M (k := k + 3) (by decide) hT c0 hk3 g3 (fun y3 yv σ4 g4 => ⟨by omega, by omega, fun s1 f1 => ⟨by omega, by omega, fun s2 f2 s3 f3 => ?_⟩⟩) (fun y3 y4 y5 y6 σ4 _ g4 => ⟨by omega, by omega, fun s1 f1 => ⟨by omega, by omega, fun s2 f2 s3 f3 => ?_⟩⟩)
        · rw [if_pos y3] at h1
          refine h1 y3 s3 ?_
          rw [f3]
          refine MF_j (by decide) ?_
          rw [f2, f1]
          exact MF_c (by decide) (MF_c (by decide) g4)
        · rw [if_neg (fun u => u y3)] at h0
          have e28 : s2 153 28 = D 33 1 := by rw [f2, up_k (by decide), f1, up_k (by decide)]; exact g4.2.2.2.1.2.1
          rw [e28, wr_id (by omega) (by omega), f2, f1] at f3
          refine h0 rfl s3 ?_
          rw [f3]
          exact MR_flight hT g4
  · rw [if_pos (by omega)] at h1
    exact h1 ne_2 σ' g
theorem w192 {K : dS → Prop} (hT : TM c q v N Mk) (c0 : c N = 0) (v0 : ∀ k, 0 ≤ v k) (hk : k < N) (hV : PV D dt rs) (h : MR Mk S k D dt rs σ) (h0 : (lnRider c v k D).1 = 0 → ∀ σ', MR Mk S (lnRider c v k D).2.1 (lnRider c v k D).2.2 dt rs σ' → K σ') (h1 : (lnRider c v k D).1 ≠ 0 → ∀ σ', MF S (lnRider c v k D).1 (q (lnRider c v k D).2.1) σ' → K σ') : wV (d + 7) 192 [.inr (.inr 153)] σ Q K := by
  obtain ⟨⟨p1, p2, p3, p4, _⟩, _, hfl, how, _⟩ := hV
  have hlen : ∀ o, 0 ≤ o → o < D 33 2 → D 43 o ≤ 8 := fun o o0 o1 => (how o o0 o1).2.2.1.2
  unfold lnRider at h0 h1
  have n30 := h.2.2.2.1.2.2.2.1
  have hg := h.2.2.1.1
  refine c192 (b192_0 ?_)
  rw [n30]
  refine ⟨fun z => b192_1 (w173g hg ⟨fun _ => b192_2 ?_, fun y => absurd (by decide) y⟩), fun z => w172M hT (by omega) h (fun σ' g => b192_1 (w173b (by rw [g.2.1]; exact ne_2) ⟨fun y => absurd rfl y, fun _ => ?_⟩))⟩
  · rw [if_neg (by omega)] at h0 h1
    refine MR_goes hT hk h (fun σ1 _ g1 => ?_)
    have m30 := g1.2.2.2.1.2.2.2.1
    rw [m30]
    have i0 : wr (4 * D 33 3) = 4 * D 33 3 := wr_id (by omega) (by omega)
    rw [i0]
    have i1 : wr (4 * D 33 3 + 1) = 4 * D 33 3 + 1 := wr_id (by omega) (by omega)
    have i2 : wr (4 * D 33 3 + 2) = 4 * D 33 3 + 2 := wr_id (by omega) (by omega)
    have i3 : wr (4 * D 33 3 + 3) = 4 * D 33 3 + 3 := wr_id (by omega) (by omega)
    rw [i1, i2, i3]
    have bd : ∀ {f p : Int} {s : dS} {y : Nat} {i x : Int}, (163 ≤ y ∧ y ≤ 173) → MF S f p s → ∀ s', s' = up s y i x → MF S f p s' := fun hy g s' e => by rw [e]; exact MF_c hy g
    refine w178M (k := k + 1) hT c0 hk g1 p1.2 (fun y σ2 g2 => ⟨by omega, by omega, fun s1 f1 => ?_⟩) (fun y y1 y2 σ2 _ g2 => ⟨by omega, by omega, fun s1 f1 => ?_⟩)
    · rw [if_pos y] at h1
      have b1 := bd (by decide) g2 s1 f1
      refine w178B (by rw [b1.2.1]; exact y) ⟨by omega, by omega, fun s2 f2 => ?_⟩
      have b2 := bd (by decide) b1 s2 f2
      refine w176B (by rw [b2.2.1]; exact y) ⟨by omega, by omega, fun s3 f3 => ?_⟩
      have b3 := bd (by decide) b2 s3 f3
      refine w176B (by rw [b3.2.1]; exact y) ⟨by omega, by omega, fun s4 f4 => ?_⟩
      have b4 := bd (by decide) b3 s4 f4
      exact w173b (by rw [b4.2.1]; exact y) ⟨fun _ => b192_3 (h1 y s4 b4), fun u => absurd rfl u⟩
    · rw [if_neg (fun u => u y)] at h0 h1
      have hk2 := one_lt c0 (k := k + 1) hk (by omega)
      have r1 : MR Mk S (k + 2) D dt rs s1 := by
        rw [f1]
        exact MR_w hT (by decide) hlen g2 (fun e => by omega) (fun e => by omega) (fun e => by omega) (fun _ => by omega) (fun e => by omega)
      refine w178M (k := k + 2) hT c0 hk2 r1 p1.2 (fun x σ3 g3 => ⟨by omega, by omega, fun s2 f2 => ?_⟩) (fun x x1 x2 σ3 k3 g3 => ⟨by omega, by omega, fun s2 f2 => ?_⟩)
      · rw [if_pos x] at h1
        have b2 := bd (by decide) g3 s2 f2
        refine w176B (by rw [b2.2.1]; exact x) ⟨by omega, by omega, fun s3 f3 => ?_⟩
        have b3 := bd (by decide) b2 s3 f3
        refine w176B (by rw [b3.2.1]; exact x) ⟨by omega, by omega, fun s4 f4 => ?_⟩
        have b4 := bd (by decide) b3 s4 f4
        exact w173b (by rw [b4.2.1]; exact x) ⟨fun _ => b192_3 (h1 x s4 b4), fun u => absurd rfl u⟩
      · rw [if_neg (fun u => u x)] at h0 h1
        have hk3 := one_lt c0 (k := k + 2) hk2 (by omega)
        have r2 : MR Mk S (k + 3) D dt rs s2 := by
          rw [f2]
          exact MR_w hT (by decide) hlen g3 (fun e => by omega) (fun e => by omega) (fun e => by omega) (fun _ => by omega) (fun e => by omega)
        refine w176M (k := k + 3) (by decide) hT c0 hk3 r2 (fun y3 yv σ4 g4 => ⟨by omega, by omega, fun s3 f3 => ?_⟩) (fun y3 y4 y5 y6 σ4 k4 g4 => ⟨by omega, by omega, fun s3 f3 => ?_⟩)
        · rw [if_pos y3] at h1
          have b3 := bd (by decide) g4 s3 f3
          refine w176B (by rw [b3.2.1]; exact y3) ⟨by omega, by omega, fun s4 f4 => ?_⟩
          have b4 := bd (by decide) b3 s4 f4
          exact w173b (by rw [b4.2.1]; exact y3) ⟨fun _ => b192_3 (h1 y3 s4 b4), fun u => absurd rfl u⟩
        · rw [if_neg (fun u => u y3)] at h0 h1
          have hk4 := one_lt c0 (k := k + 3) hk3 (by omega)
          have r3 : MR Mk S (k + 4) D dt rs s3 := by
            rw [f3]
            exact MR_w hT (by decide) hlen g4 (fun e => by omega) (fun e => by omega) (fun e => by omega) (fun _ => by omega) (fun e => by omega)
          refine w176M (k := k + 4) (by decide) hT c0 hk4 r3 (fun z3 zv σ5 g5 => ⟨by omega, by omega, fun s4 f4 => ?_⟩) (fun z3 z4 z5 z6 σ5 k5 g5 => ⟨by omega, by omega, fun s4 f4 => ?_⟩)
          · rw [if_pos z3] at h1
            have b4 := bd (by decide) g5 s4 f4
            exact w173b (by rw [b4.2.1]; exact z3) ⟨fun _ => b192_3 (h1 z3 s4 b4), fun u => absurd rfl u⟩
          · rw [if_neg (fun u => u z3)] at h0
            have r4 : MR Mk S (k + 5) D dt rs s4 := by
              rw [f4]
              exact MR_w hT (by decide) hlen g5 (fun e => by omega) (fun e => by omega) (fun e => by omega) (fun _ => by omega) (fun e => by omega)
            refine w173g r4.2.2.1.1 ⟨fun u => absurd u (by decide), fun _ s5 f5 => b192_3 (h0 rfl s5 ?_)⟩
            rw [r4.2.2.2.1.2.2.2.1, wr_id (by omega) (by omega)] at f5
            rw [f5]
            refine MR_rider hT r4 ?_ ?_ ?_ ?_
            · rw [f4, up_i (by omega), k5 169 (by decide), f3, up_i (by omega), k4 169 (by decide), f2, up_i (by omega), k3 169 (by decide), f1, up_same]
            · rw [f4, up_i (by omega), k5 169 (by decide), f3, up_i (by omega), k4 169 (by decide), f2, up_same]
            · rw [f4, up_i (by omega), k5 169 (by decide), f3, up_same]
            · rw [f4, up_same]
  · rw [if_pos (by omega)] at h1
    exact h1 ne_2 σ' g
end MM
