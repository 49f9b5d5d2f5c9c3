/-! THE REFERENCE TAKES a city over -/
/-- what the reference's city leaves, if the text has no fault -/
def MCo (S D : dS) (rs : List (List Int)) (σ : dS) : Prop :=
  (∀ x, x ≠ 153 → ¬ (154 ≤ x ∧ x ≤ 160) → ¬ (163 ≤ x ∧ x ≤ 174) → x ≠ 177 → σ x = S x) ∧ (∀ j, j = 0 ∨ (7 ≤ j ∧ j < 16) ∨ (36 ≤ j ∧ j < 50) ∨ (50 < j ∧ j < 65) ∨ j = 66 ∨ (67 < j ∧ j < 70) ∨ (70 < j ∧ j < 1000) → σ 153 j = S 153 j) ∧
  (σ 153 1 = D 33 0 ∧ σ 153 2 = D 33 1 ∧ σ 153 3 = D 33 2 ∧ σ 153 4 = D 33 3 ∧ σ 153 5 = (rs.length : Int) ∧ σ 153 6 = D 33 4) ∧ σ 153 17 = -1 ∧ (σ 153 50 = 0 ∧ σ 153 65 = 0 ∧ σ 153 67 = 0 ∧ σ 153 70 = 0) ∧
  (∀ i, 0 ≤ i → i < 100 → σ 154 i = D 37 i) ∧ (∀ o, 0 ≤ o → o < D 33 2 → σ 155 o = D 39 o ∧ σ 156 o = D 43 o ∧ ∀ i, 0 ≤ i → i < D 43 o → σ 157 (8 * o + i) = D 45 (8 * o + i)) ∧
  (∀ p, 0 ≤ p → p < D 33 3 → σ 158 (4 * p) = D 47 p ∧ σ 158 (4 * p + 1) = D 49 p ∧ σ 158 (4 * p + 2) = D 51 p ∧ σ 158 (4 * p + 3) = D 53 p) ∧
  (∀ i : Nat, i < rs.length → σ 159 i = ((fls (rs.take i)).length : Int)) ∧ seg σ 160 0 (fls rs) ∧
  (σ 174 0 = (if 0 < (rs.length : Int) then 0 else -1) ∧ σ 174 1 = 0 ∧ σ 174 2 = 0 ∧ σ 174 3 = 0 ∧ (∀ r, 0 ≤ r → r < D 33 0 → σ 174 (4 + r) = D 35 r) ∧ (∀ o, 0 ≤ o → o < D 33 2 → σ 174 (14 + o) = D 41 o)) ∧
  (∀ i, 0 ≤ i → i < 100 → σ 177 i = fl3 (FZ0 (σ 154)) (D 33 0).toNat (D 33 0).toNat i)
section MCS
variable {d : Nat} {Q : dR → dS → Prop}
theorem l194_13 {U : dS} (hq : ∀ σ', (∀ x, x ≠ 174 → σ' x = U x) → (∀ j, j < 4 ∨ 14 ≤ j → σ' 174 j = U 174 j) → (∀ r, 0 ≤ r → r < 10 → σ' 174 (4 + r) = U 163 r) → B194_14 d Q σ') : ∀ (c : Nat) (x : Int) (T : dS), 0 ≤ x → x + c = 10 → (∀ y, y ≠ 174 → T y = U y) → (∀ j, j < 4 ∨ 14 ≤ j → T 174 j = U 174 j) → (∀ r, 0 ≤ r → r < x → T 174 (4 + r) = U 163 r) → B194_13 d Q x T
  | 0, x, T, x0, hx, hF, h0, h1 => by
    have e : x = 10 := by omega
    subst e
    exact b194_13 ⟨fun _ => hq T hF h0 h1, fun z => absurd (by decide) z⟩
  | c + 1, x, T, x0, hx, hF, h0, h1 => by
    refine b194_13 ⟨fun z => absurd z (by omega), fun _ => ?_⟩
    rw [wr_id (x := 4 + x) (by omega) (by omega), wr_id (x := x + 1) (by omega) (by omega)]
    refine ⟨by omega, by omega, by omega, by omega, fun σ1 f1 => ?_⟩
    refine l194_13 hq c (x + 1) σ1 (by omega) (by omega) (fun y hy => by rw [f1, up_k hy]; exact hF y hy) (fun j hj => by rw [f1, up_i (by omega)]; exact h0 j hj) (fun r r0 r1 => ?_)
    rw [f1]
    by_cases e : r = x
    · rw [e, up_same, hF 163 (by decide)]
    · rw [up_i (by omega)]; exact h1 r r0 (by omega)
theorem l194_15 {U : dS} (hq : ∀ σ', (∀ x, x ≠ 174 → σ' x = U x) → (∀ j, j < 14 → σ' 174 j = U 174 j) → (∀ r, 0 ≤ r → r < 5 → σ' 174 (14 + r) = U 166 r) → B194_16 d Q σ') : ∀ (c : Nat) (x : Int) (T : dS), 0 ≤ x → x + c = 5 → (∀ y, y ≠ 174 → T y = U y) → (∀ j, j < 14 → T 174 j = U 174 j) → (∀ r, 0 ≤ r → r < x → T 174 (14 + r) = U 166 r) → B194_15 d Q x T
  | 0, x, T, x0, hx, hF, h0, h1 => by
    have e : x = 5 := by omega
    subst e
    exact b194_15 ⟨fun _ => hq T hF h0 h1, fun z => absurd (by decide) z⟩
  | c + 1, x, T, x0, hx, hF, h0, h1 => by
    refine b194_15 ⟨fun z => absurd z (by omega), fun _ => ?_⟩
    rw [wr_id (x := 14 + x) (by omega) (by omega), wr_id (x := x + 1) (by omega) (by omega)]
    refine ⟨by omega, by omega, by omega, by omega, fun σ1 f1 => ?_⟩
    refine l194_15 hq c (x + 1) σ1 (by omega) (by omega) (fun y hy => by rw [f1, up_k hy]; exact hF y hy) (fun j hj => by rw [f1, up_i (by omega)]; exact h0 j hj) (fun r r0 r1 => ?_)
    rw [f1]
    by_cases e : r = x
    · rw [e, up_same, hF 166 (by decide)]
    · rw [up_i (by omega)]; exact h1 r r0 (by omega)
theorem w161e {a b n : Nat} {K : dS → Prop} {σ : dS} (ha : spx a = some (.inl (n, 0))) (hb : spx b = some (.inl (n, 0))) (hne : b ≠ a) (h : ∀ σ', (∀ x, x ≠ b → σ' x = σ x) → (∀ j, 0 ≤ j → j < (n : Int) → σ' b j = σ a j) → K σ') : wV (d + 1) 161 [.inr (.inr 153), .inr (.inr a), .inr (.inr b)] σ Q K :=
  w161 ha hb (Nat.le_refl n) hne (h _ (fun x hx => rcopy_k hx) (fun j j0 j1 => rcopy_in j0 j1 j1))
variable {Mk : Nat → dS → Prop} {S : dS} {σ : dS} {k : Nat} {D : dS} {dt : Bool} {rs : List (List Int)}
theorem b194_good (hV : PV D dt rs) (hl : (fls rs).length ≤ 2800) (h : MR Mk S k D dt rs σ) (hq : ∀ σ', MCo S D rs σ' → Q (.inl (some (.inl 0))) σ') : B194_8 (d + 1) Q σ := by
  obtain ⟨⟨m1, m2⟩, -, ⟨a3, a3'⟩, ⟨n1, n2, n3, n4, n5, n6⟩, b1, b2, b3, b4, b5, b6, b7⟩ := h
  obtain ⟨⟨v1, v2, v3, v4, v5⟩, u1, u2, u3, u4, u5, u6, u7⟩ := hV
  have last : ∀ t : dS, (∀ x, x ≠ 153 → ¬ (154 ≤ x ∧ x ≤ 160) → x ≠ 174 → t x = σ x) → (∀ j, j < 1 ∨ 6 < j → t 153 j = σ 153 j) → (t 153 1 = D 33 0 ∧ t 153 2 = D 33 1 ∧ t 153 3 = D 33 2 ∧ t 153 4 = D 33 3 ∧ t 153 5 = (rs.length : Int) ∧ t 153 6 = D 33 4) →
      (∀ i, 0 ≤ i → i < 100 → t 154 i = σ 164 i) → (∀ i, 0 ≤ i → i < 5 → t 155 i = σ 165 i) → (∀ i, 0 ≤ i → i < 5 → t 156 i = σ 167 i) → (∀ i, 0 ≤ i → i < 40 → t 157 i = σ 168 i) → (∀ i, 0 ≤ i → i < 32 → t 158 i = σ 169 i) → (∀ i, 0 ≤ i → i < 4 → t 159 i = σ 170 i) → (∀ i, 0 ≤ i → i < 2800 → t 160 i = σ 171 i) →
      (t 174 0 = (if 0 < (rs.length : Int) then 0 else -1) ∧ t 174 1 = 0 ∧ t 174 2 = 0 ∧ t 174 3 = 0) → B194_13 (d + 1) Q 0 t := by
    intro t g1 g2 g3 g4 g5 g6 g7 g8 g9 g10 g11
    refine l194_13 (U := t) (fun t1 p1 p2 p3 => b194_14 (l194_15 (U := t1) (fun t2 q1 q2 q3 => ?_) 5 0 t1 (by decide) (by decide) (fun _ _ => rfl) (fun _ _ => rfl) (fun r r0 r1 => by omega))) 10 0 t (by decide) (by decide) (fun _ _ => rfl) (fun _ _ => rfl) (fun r r0 r1 => by omega)
    have t2F : ∀ x, x ≠ 174 → t2 x = t x := fun x hx => by rw [q1 x hx, p1 x hx]
    have e154 : t2 154 = t 154 := t2F 154 (by decide)
    have hE : rE (D 33 0) (FZ0 (t2 154)) := by
      intro a b c0 c1 d0 d1
      have y := (u2 a b c0 (by omega) d0 (by omega)).1
      have z : t2 154 (10 * a + b) = D 37 (10 * a + b) := by rw [e154, g4 _ (by omega) (by omega), b2 _ (by omega) (by omega)]
      unfold FZ0
      rw [z]
      split
      · omega
      · split <;> omega
    have f163 : t 163 = σ 163 := g1 163 (by decide) (by omega) (by decide)
    have f166 : t1 166 = σ 166 := by rw [p1 166 (by decide), g1 166 (by decide) (by omega) (by decide)]
    refine b194_16 (w199 (R := D 33 0) v1 (by rw [t2F 153 (by decide)]; exact g3.1) hE (fun t3 r1 r2 s4 f4 s5 f5 => ⟨Or.inl rfl, fun s6 f6 => ⟨Or.inl rfl, fun s7 f7 => hq s7 ?_⟩⟩))
    have F : ∀ x, x ≠ 153 → s7 x = t3 x := fun x hx => by rw [f7, up_k hx, f6, up_k hx, f5, up_k hx, f4, up_k hx]
    have Fj : ∀ j, j ≠ 50 → j ≠ 67 → j ≠ 65 → j ≠ 70 → s7 153 j = t 153 j := fun j j1 j2 j3 j4 => by rw [f7, up_i j4, f6, up_i j3, f5, up_i j2, f4, up_i j1, r1 153 (by decide), t2F 153 (by decide)]
    have F2 : ∀ x, x ≠ 153 → x ≠ 177 → x ≠ 174 → s7 x = t x := fun x h1 h2 h3 => by rw [F x h1, r1 x h2, t2F x h3]
    have F174 : s7 174 = t2 174 := by rw [F 174 (by decide), r1 174 (by decide)]
    have F154 : s7 154 = t2 154 := by rw [F 154 (by decide), r1 154 (by decide)]
    refine ⟨fun x h1 h2 h3 h4 => ?_, fun j hj => ?_, ?_, ?_, ⟨?_, ?_, ?_, ?_⟩, fun i i0 i1 => ?_, fun o o0 o1 => ?_, fun p p0 p1' => ?_, fun i hi => ?_, ?_, ⟨?_, ?_, ?_, ?_, fun r r0 r1' => ?_, fun o o0 o1 => ?_⟩, fun i i0 i1 => ?_⟩
    · rw [F2 x h1 h4 (by omega), g1 x h1 h2 (by omega), m1 x h1 (by omega)]
    · rw [Fj j (by omega) (by omega) (by omega) (by omega), g2 j (by omega), m2 j (by omega)]
    · rw [Fj 1 (by decide) (by decide) (by decide) (by decide), Fj 2 (by decide) (by decide) (by decide) (by decide), Fj 3 (by decide) (by decide) (by decide) (by decide), Fj 4 (by decide) (by decide) (by decide) (by decide), Fj 5 (by decide) (by decide) (by decide) (by decide), Fj 6 (by decide) (by decide) (by decide) (by decide)]
      exact g3
    · rw [Fj 17 (by decide) (by decide) (by decide) (by decide), g2 17 (by decide)]; exact a3'
    · rw [f7, up_i (by decide), f6, up_i (by decide), f5, up_i (by decide), f4, up_same]
    · rw [f7, up_i (by decide), f6, up_same]
    · rw [f7, up_i (by decide), f6, up_i (by decide), f5, up_same]
    · rw [f7, up_same]
    · rw [F154, e154, g4 i i0 i1]; exact b2 i i0 i1
    · obtain ⟨x1, x2, x3, x4⟩ := b3 o o0 o1
      rw [F2 155 (by decide) (by decide) (by decide), F2 156 (by decide) (by decide) (by decide), F2 157 (by decide) (by decide) (by decide), g5 o o0 (by omega), g6 o o0 (by omega)]
      have y := (u3 o o0 o1).2.2.1
      exact ⟨x1, x3, fun i i0 i1 => by rw [g7 _ (by omega) (by omega)]; exact x4 i i0 i1⟩
    · rw [F2 158 (by decide) (by decide) (by decide), g8 _ (by omega) (by omega), g8 _ (by omega) (by omega), g8 _ (by omega) (by omega), g8 _ (by omega) (by omega)]
      exact b4 p p0 p1'
    · rw [F2 159 (by decide) (by decide) (by decide), g9 _ (by omega) (by omega)]; exact b5 i hi
    · refine seg_of (σ := σ) (x := 171) (Int.le_refl 0) (fun j j0 j1 => ?_) b7
      rw [F2 160 (by decide) (by decide) (by decide), g10 j j0 (by omega)]
    · rw [F174, q2 0 (by decide), p2 0 (by omega)]; exact g11.1
    · rw [F174, q2 1 (by decide), p2 1 (by omega)]; exact g11.2.1
    · rw [F174, q2 2 (by decide), p2 2 (by omega)]; exact g11.2.2.1
    · rw [F174, q2 3 (by decide), p2 3 (by omega)]; exact g11.2.2.2
    · rw [F174, q2 (4 + r) (by omega), p3 r r0 (by omega), f163]; exact b1 r r0 r1'
    · rw [F174, q3 o o0 (by omega), f166]; exact (b3 o o0 o1).2.1
    · rw [F154, F 177 (by decide)]; exact r2 i i0 i1
  have mid : ∀ (s0 : Int) (t : dS), s0 = D 33 4 → (∀ x, x ≠ 153 → t x = σ x) → (∀ j, j < 1 ∨ 5 < j → t 153 j = σ 153 j) → (t 153 1 = D 33 0 ∧ t 153 2 = D 33 1 ∧ t 153 3 = D 33 2 ∧ t 153 4 = D 33 3 ∧ t 153 5 = (rs.length : Int)) → B194_10 (d + 1) Q s0 t := by
    intro s0 t e0 g1 g2 g3
    refine b194_10 (fun t0 e1 => w161e (n := 100) (by decide) (by decide) (by decide) (fun t1 c1 h1 => w161e (n := 5) (by decide) (by decide) (by decide) (fun t2 c2 h2 => w161e (n := 5) (by decide) (by decide) (by decide) (fun t3 c3 h3 => w161e (n := 40) (by decide) (by decide) (by decide) (fun t4 c4 h4 => w161e (n := 32) (by decide) (by decide) (by decide) (fun t5 c5 h5 => w161e (n := 4) (by decide) (by decide) (by decide) (fun t6 c6 h6 => w161e (n := 2800) (by decide) (by decide) (by decide) (fun t7 c7 h7 => ?_))))))))
    have F : ∀ x, x ≠ 153 → ¬ (154 ≤ x ∧ x ≤ 160) → t7 x = σ x := fun x q1 q2 => by rw [c7 x (by omega), c6 x (by omega), c5 x (by omega), c4 x (by omega), c3 x (by omega), c2 x (by omega), c1 x (by omega), e1, up_k q1, g1 x q1]
    have F0 : t7 153 = t0 153 := by rw [c7 153 (by decide), c6 153 (by decide), c5 153 (by decide), c4 153 (by decide), c3 153 (by decide), c2 153 (by decide), c1 153 (by decide)]
    have e0F : ∀ x, x ≠ 153 → t0 x = σ x := fun x q1 => by rw [e1, up_k q1, g1 x q1]
    have Fj : ∀ j, j < 1 ∨ 6 < j → t7 153 j = σ 153 j := fun j hj => by rw [F0, e1, up_i (by omega)]; exact g2 j (by omega)
    have F1 : t7 153 1 = D 33 0 ∧ t7 153 2 = D 33 1 ∧ t7 153 3 = D 33 2 ∧ t7 153 4 = D 33 3 ∧ t7 153 5 = (rs.length : Int) ∧ t7 153 6 = D 33 4 := by
      rw [F0, e1, up_same, up_i (by decide), up_i (by decide), up_i (by decide), up_i (by decide), up_i (by decide)]
      exact ⟨g3.1, g3.2.1, g3.2.2.1, g3.2.2.2.1, g3.2.2.2.2, e0⟩
    have h154 : ∀ i, 0 ≤ i → i < 100 → t7 154 i = σ 164 i := fun i i0 i1 => by rw [c7 154 (by decide), c6 154 (by decide), c5 154 (by decide), c4 154 (by decide), c3 154 (by decide), c2 154 (by decide), h1 i i0 (by omega), e0F 164 (by decide)]
    have h155 : ∀ i, 0 ≤ i → i < 5 → t7 155 i = σ 165 i := fun i i0 i1 => by rw [c7 155 (by decide), c6 155 (by decide), c5 155 (by decide), c4 155 (by decide), c3 155 (by decide), h2 i i0 (by omega), c1 165 (by decide), e0F 165 (by decide)]
    have h156 : ∀ i, 0 ≤ i → i < 5 → t7 156 i = σ 167 i := fun i i0 i1 => by rw [c7 156 (by decide), c6 156 (by decide), c5 156 (by decide), c4 156 (by decide), h3 i i0 (by omega), c2 167 (by decide), c1 167 (by decide), e0F 167 (by decide)]
    have h157 : ∀ i, 0 ≤ i → i < 40 → t7 157 i = σ 168 i := fun i i0 i1 => by rw [c7 157 (by decide), c6 157 (by decide), c5 157 (by decide), h4 i i0 (by omega), c3 168 (by decide), c2 168 (by decide), c1 168 (by decide), e0F 168 (by decide)]
    have h158 : ∀ i, 0 ≤ i → i < 32 → t7 158 i = σ 169 i := fun i i0 i1 => by rw [c7 158 (by decide), c6 158 (by decide), h5 i i0 (by omega), c4 169 (by decide), c3 169 (by decide), c2 169 (by decide), c1 169 (by decide), e0F 169 (by decide)]
    have h159 : ∀ i, 0 ≤ i → i < 4 → t7 159 i = σ 170 i := fun i i0 i1 => by rw [c7 159 (by decide), h6 i i0 (by omega), c5 170 (by decide), c4 170 (by decide), c3 170 (by decide), c2 170 (by decide), c1 170 (by decide), e0F 170 (by decide)]
    have h160 : ∀ i, 0 ≤ i → i < 2800 → t7 160 i = σ 171 i := fun i i0 i1 => by rw [h7 i i0 (by omega), c6 171 (by decide), c5 171 (by decide), c4 171 (by decide), c3 171 (by decide), c2 171 (by decide), c1 171 (by decide), e0F 171 (by decide)]
    have fin : ∀ s : Int, s = (if 0 < (rs.length : Int) then 0 else -1) → B194_12 (d + 1) Q s 0 t7 := by
      intro s hs
      refine b194_12 ⟨by decide, by decide, fun s1 f1 => ⟨by decide, by decide, fun s2 f2 => ⟨by decide, by decide, fun s3 f3 => ⟨by decide, by decide, fun s4 f4 => ?_⟩⟩⟩⟩
      have G : ∀ x, x ≠ 174 → s4 x = t7 x := fun x hx => by rw [f4, up_k hx, f3, up_k hx, f2, up_k hx, f1, up_k hx]
      refine last s4 (fun x q1 q2 q3 => by rw [G x q3]; exact F x q1 q2) (by rw [G 153 (by decide)]; exact Fj) (by rw [G 153 (by decide)]; exact F1) (by rw [G 154 (by decide)]; exact h154) (by rw [G 155 (by decide)]; exact h155) (by rw [G 156 (by decide)]; exact h156) (by rw [G 157 (by decide)]; exact h157) (by rw [G 158 (by decide)]; exact h158) (by rw [G 159 (by decide)]; exact h159) (by rw [G 160 (by decide)]; exact h160) ⟨?_, ?_, ?_, ?_⟩
      · rw [f4, up_i (by decide), f3, up_i (by decide), f2, up_i (by decide), f1, up_same]; exact hs
      · rw [f4, up_i (by decide), f3, up_i (by decide), f2, up_same]
      · rw [f4, up_i (by decide), f3, up_same]
      · rw [f4, up_same]
    exact ⟨fun z => b194_11 (fin (-1) (by rw [if_neg (by have := F1.2.2.2.2.1; omega)])), fun z => fin 0 (by rw [if_pos (by have := F1.2.2.2.2.1; omega)])⟩
  refine b194_8 (fun s1 f1 s2 f2 s3 f3 s4 f4 s5 f5 => ?_)
  have F : ∀ x, x ≠ 153 → s5 x = σ x := fun x hx => by rw [f5, up_k hx, f4, up_k hx, f3, up_k hx, f2, up_k hx, f1, up_k hx]
  have Fj : ∀ j, j < 1 ∨ 5 < j → s5 153 j = σ 153 j := fun j hj => by rw [f5, up_i (by omega), f4, up_i (by omega), f3, up_i (by omega), f2, up_i (by omega), f1, up_i (by omega)]
  have F1 : s5 153 1 = D 33 0 ∧ s5 153 2 = D 33 1 ∧ s5 153 3 = D 33 2 ∧ s5 153 4 = D 33 3 ∧ s5 153 5 = (rs.length : Int) := by
    refine ⟨?_, ?_, ?_, ?_, ?_⟩
    · rw [f5, up_i (by decide), f4, up_i (by decide), f3, up_i (by decide), f2, up_i (by decide), f1, up_same]; exact n1
    · rw [f5, up_i (by decide), f4, up_i (by decide), f3, up_i (by decide), f2, up_same, f1, up_i (by decide)]; exact n2
    · rw [f5, up_i (by decide), f4, up_i (by decide), f3, up_same, f2, up_i (by decide), f1, up_i (by decide)]; exact n3
    · rw [f5, up_i (by decide), f4, up_same, f3, up_i (by decide), f2, up_i (by decide), f1, up_i (by decide)]; exact n4
    · rw [f5, up_same, f4, up_i (by decide), f3, up_i (by decide), f2, up_i (by decide), f1, up_i (by decide)]; exact n5
  have e32 : s5 153 32 = (if dt = true then D 33 4 else -1) := by rw [Fj 32 (by decide)]; exact n6
  rw [e32]
  by_cases hd : dt = true
  · rw [if_pos hd] at e32 ⊢
    exact ⟨fun _ => b194_9 (mid _ s5 e32 F Fj F1), fun z => absurd (by omega) z⟩
  · rw [if_neg hd]
    exact ⟨fun z => absurd rfl z, fun _ => mid 360 s5 (u5 (by cases dt with | false => rfl | true => exact absurd rfl hd)).symm F Fj F1⟩
end MCS
