/-! A CITY TAKEN OVER BY BOTH: what holds between calls, holds -/
theorem seg_get {σ : dS} {k : Nat} : ∀ {l : List Int} {a : Int} (j : Nat) (hj : j < l.length), seg σ k a l → σ k (a + (j : Int)) = l[j]
  | w :: l, a, 0, _, h => by
    have := h.1
    simpa using this
  | w :: l, a, j + 1, hj, h => by
    simp only [List.length_cons] at hj
    have := seg_get (l := l) (a := a + 1) j (by omega) h.2
    rw [List.getElem_cons_succ, ← this]
    congr 1
    omega
theorem seg_cof {σ : dS} {k : Nat} {l : List Int} {a : Int} (h : seg σ k a l) : (List.range l.length).map (fun (j : Nat) => σ k (a + (j : Int))) = l := by
  apply List.ext_getElem
  · simp
  · intro i h1 h2
    rw [List.getElem_map, List.getElem_range]
    exact seg_get i h2 h
theorem take_one {α : Type} {rs : List α} {i : Nat} (h : i < rs.length) : rs.take (i + 1) = rs.take i ++ [rs[i]] := by
  rw [List.take_succ, List.getElem?_eq_getElem h]; rfl
theorem cut_rs {rs : List (List Int)} {i : Nat} (h : i < rs.length) : rs.flatten = (rs.take i).flatten ++ (rs[i] ++ (rs.drop (i + 1)).flatten) := by
  have e : rs = rs.take i ++ (rs[i] :: rs.drop (i + 1)) := by rw [List.getElem_cons_drop h, List.take_append_drop]
  have := congrArg List.flatten e
  rw [List.flatten_append, List.flatten_cons] at this
  exact this
theorem cut_fl {rs : List (List Int)} {i : Nat} (h : i < rs.length) : fls rs = fls (rs.take i) ++ (flt rs[i] ++ fls (rs.drop (i + 1))) := by
  have e : rs = rs.take i ++ (rs[i] :: rs.drop (i + 1)) := by rw [List.getElem_cons_drop h, List.take_append_drop]
  have := congrArg fls e
  unfold fls at this ⊢
  rw [List.map_append, List.flatten_append, List.map_cons, List.flatten_cons] at this
  exact this
theorem fl_congr {E E' : Int → Int} {R : Nat} (hR : R ≤ 10) (h : ∀ i, 0 ≤ i → i < 100 → E i = E' i) : ∀ i, 0 ≤ i → i < 100 → fl3 E R R i = fl3 E' R R i := by
  have s0 : ∀ {D D' : Int → Int} {k a b : Int}, 0 ≤ k → k < 10 → 0 ≤ a → a < 10 → 0 ≤ b → b < 10 → (∀ i, 0 ≤ i → i < 100 → D i = D' i) → ∀ i, 0 ≤ i → i < 100 → fstep D k a b i = fstep D' k a b i := by
    intro D D' k a b k0 k1 a0 a1 b0 b1 hh i i0 i1
    unfold fstep
    rw [hh _ (by omega) (by omega : 10 * a + k < 100), hh _ (by omega) (by omega : 10 * k + b < 100), hh _ (by omega) (by omega : 10 * a + b < 100), hh i i0 i1]
  have s1 : ∀ {D D' : Int → Int} {k a : Int}, 0 ≤ k → k < 10 → 0 ≤ a → a < 10 → (∀ i, 0 ≤ i → i < 100 → D i = D' i) → ∀ b : Nat, b ≤ 10 → ∀ i, 0 ≤ i → i < 100 → fl1 D k a b i = fl1 D' k a b i := by
    intro D D' k a k0 k1 a0 a1 hh b
    induction b with
    | zero => exact fun _ => hh
    | succ b ih => exact fun hb => s0 k0 k1 a0 a1 (by omega) (by omega) (ih (by omega))
  have s2 : ∀ {D D' : Int → Int} {k : Int}, 0 ≤ k → k < 10 → (∀ i, 0 ≤ i → i < 100 → D i = D' i) → ∀ a : Nat, a ≤ 10 → ∀ i, 0 ≤ i → i < 100 → fl2 D R k a i = fl2 D' R k a i := by
    intro D D' k k0 k1 hh a
    induction a with
    | zero => exact fun _ => hh
    | succ a ih => exact fun ha => s1 k0 k1 (by omega) (by omega) (ih (by omega)) R hR
  have s3 : ∀ k : Nat, k ≤ 10 → ∀ i, 0 ≤ i → i < 100 → fl3 E R k i = fl3 E' R k i := by
    intro k
    induction k with
    | zero => exact fun _ => h
    | succ k ih => exact fun hk => s2 (by omega) (by omega) (ih (by omega)) R hR
  exact s3 R hR
section CI
variable {σ S D : dS} {dt : Bool} {rs : List (List Int)}
theorem rule_city (hV : PV D dt rs) (hl : rs.flatten.length ≤ 700) (hC : CC D rs σ) (h159 : ∀ i : Nat, i < rs.length → σ 159 i = ((fls (rs.take i)).length : Int)) (h160 : seg σ 160 0 (fls rs)) : ∀ r, 0 ≤ r → r < (rs.length : Int) → ruleOK σ r := by
  intro r r0 r1
  obtain ⟨i, rfl⟩ : ∃ i : Nat, r = (i : Int) := ⟨r.toNat, by omega⟩
  have hi : i < rs.length := by omega
  obtain ⟨-, -, -, -, -, -, -, -, -, -, -, c12, c13, c14⟩ := hC
  have hb : beg σ 30 (i : Int) = ((rs.take i).flatten.length : Int) := by
    unfold beg
    by_cases z : (i : Int) = 0
    · have : i = 0 := by omega
      subst this
      rw [if_pos z]; rfl
    · rw [if_neg z]
      have := c14 (i - 1) (by omega)
      rw [show ((i : Int) - 1) = ((i - 1 : Nat) : Int) by omega, this, show i - 1 + 1 = i by omega]
  have he : σ 30 (i : Int) = ((rs.take i).flatten.length : Int) + (rs[i].length : Int) := by
    rw [c14 i hi, take_one hi, List.flatten_append, List.length_append]
    simp
  have hlen := congrArg List.length (cut_rs hi)
  rw [List.length_append, List.length_append] at hlen
  have hs : seg σ 28 ((rs.take i).flatten.length : Int) rs[i] := by
    rw [cut_rs hi] at c13
    have := (seg_app.mp c13).2
    rw [Int.zero_add] at this
    exact (seg_app.mp this).1
  have hc : cof σ (i : Int) = rs[i] := by
    unfold cof
    rw [hb, he, show (((rs.take i).flatten.length : Int) + (rs[i].length : Int) - ((rs.take i).flatten.length : Int)).toNat = rs[i].length by omega]
    exact seg_cof hs
  have hfl := fls_len rs
  have hflen := congrArg List.length (cut_fl hi)
  rw [List.length_append, List.length_append] at hflen
  have hf : seg σ 160 ((fls (rs.take i)).length : Int) (flt rs[i]) := by
    rw [cut_fl hi] at h160
    have := (seg_app.mp h160).2
    rw [Int.zero_add] at this
    exact (seg_app.mp this).1
  have v6 := hV.2.2.2.2.2.2.1
  unfold ruleOK
  rw [hb, he, hc, h159 i hi]
  exact ⟨by omega, by omega, by omega, hV.2.2.2.2.2.2.2 _ (List.getElem_mem hi), by omega, by omega, hf⟩
theorem INV_city (hV : PV D dt rs) (hl : rs.flatten.length ≤ 700) (hC : CC D rs σ) (hM : MCo S D rs σ) (s0 : σ 70 0 = (if 0 < σ 26 0 then 0 else -1)) (s1 : σ 70 1 = 0 ∧ σ 70 2 = 0 ∧ σ 70 3 = 0) (s2 : ∀ r, 0 ≤ r → r < 10 → σ 72 r = σ 7 r) (s3 : ∀ o, 0 ≤ o → o < 5 → σ 74 o = σ 13 o) (s4 : σ 75 0 = 0 ∧ σ 75 1 = 40) (s5 : σ 82 0 = 0 ∧ σ 82 1 = 8)
    (t0 : σ 0 1 = 0 ∧ σ 0 2 = -1 ∧ σ 0 10 = 0 ∧ σ 0 17 = 0) (t1 : σ 153 15 = 0) (t2 : ∀ k, 0 ≤ k → k < 3 → σ 162 k = σ 4 k) : INV σ := by
  obtain ⟨m1, m2, ⟨n1, n2, n3, n4, n5, n6⟩, m4, ⟨p1, p2, p3, p4⟩, e154, eo, ep, h159, h160, ⟨q0, q1, q2, q3, q4, q5⟩, h177⟩ := hM
  have hru := rule_city hV hl hC h159 h160
  obtain ⟨c5, c7, c9, c11, c13, c15, c17, c19, c21, c23, c25, c26, -, -⟩ := hC
  obtain ⟨⟨v1, v2, v3, v4, v5⟩, u1, u2, u3, u4, u5, u6, u7⟩ := hV
  have d0 := c5 0 (by decide) (by decide)
  have d1 := c5 1 (by decide) (by decide)
  have d2 := c5 2 (by decide) (by decide)
  have d3 := c5 3 (by decide) (by decide)
  have d4 := c5 4 (by decide) (by decide)
  have hcity : cityOK σ := by
    refine ⟨by omega, by omega, by omega, by omega, by omega, fun o o0 o1 => ?_, fun p p0 p1 => ?_, fun r r0 r1 => hru r r0 (by omega)⟩
    · rw [d2] at o1
      obtain ⟨x1, x2, x3, x4, x5⟩ := u3 o o0 o1
      rw [c11 o o0 (by omega), c15 o o0 (by omega), d0]
      refine ⟨x1, x3, fun i i0 i1 => ?_, fun i i0 i1 => ?_⟩
      · rw [c17 _ (by omega) (by omega)]; exact x4 i i0 i1
      · have y1 := x4 i i0 (by omega)
        have y2 := x4 (i + 1) (by omega) i1
        rw [show 8 * o + (i + 1) = 8 * o + i + 1 by omega] at y2
        rw [c17 _ (by omega) (by omega : 8 * o + i < 40), c17 _ (by omega) (by omega : 8 * o + i + 1 < 40), c9 _ (by omega) (by omega)]
        have z := x5 i i0 i1
        have w := (u2 (D 45 (8 * o + i)) (D 45 (8 * o + i + 1)) y1.1 (by omega) y2.1 (by omega)).1
        omega
    · rw [d3] at p1
      rw [c19 p p0 (by omega), c21 p p0 (by omega), c23 p p0 (by omega), c25 p p0 (by omega), d0]
      exact u4 p p0 p1
  refine ⟨hcity, ?_, by rw [n2, d1], ⟨by omega, fun a b a0 a1 b0 b1 => ?_⟩, ⟨⟨?_, by omega, by omega, by omega, fun r r0 r1 => ?_, fun o o0 o1 => ?_⟩, fun o o0 o1 => ?_⟩, ⟨?_, by rw [q1]; exact s1.1.symm, by rw [q2]; exact s1.2.1.symm, by rw [q3]; exact s1.2.2.symm, fun r r0 r1 => ?_, fun o o0 o1 => ?_⟩, ⟨by rw [t1]; exact t0.1.symm, by omega, by omega, fun k k0 k1 => by omega⟩, t2, by rw [m4]; exact t0.2.1.symm, ⟨s4.2, s5.2⟩, ⟨by rw [p1]; exact s4.1, by omega, by omega, fun k k0 k1 => by omega⟩, ⟨by rw [p3]; exact s5.1, by omega, by omega, fun k k0 k1 => by omega⟩, ⟨by rw [p2]; exact t0.2.2.2.symm, Or.inl t0.2.2.2, fun z => by omega⟩, ⟨by rw [p4]; exact t0.2.2.1.symm, Or.inl t0.2.2.1, fun z => by omega⟩, fun a b a0 a1 b0 b1 => ?_⟩
  · refine ⟨by rw [n1, d0], by rw [n3, d2], by rw [n4, d3], by rw [n5, c26], by rw [n6, d4], fun k k0 k1 => by rw [e154 k k0 k1, c9 k k0 k1], fun o o0 o1 => ?_, fun p p0 p1 => ?_, rfl, rfl⟩
    · rw [d2] at o1
      obtain ⟨x1, x2, x3⟩ := eo o o0 o1
      have y := (u3 o o0 o1).2.2.1
      rw [c11 o o0 (by omega), c15 o o0 (by omega)]
      exact ⟨x1, x2, fun i i0 i1 => by rw [c17 _ (by omega) (by omega)]; exact x3 i i0 i1⟩
    · rw [d3] at p1
      rw [c19 p p0 (by omega), c21 p p0 (by omega), c23 p p0 (by omega), c25 p p0 (by omega)]
      exact ep p p0 p1
  · rw [c9 _ (by omega) (by omega), c9 _ (by omega) (by omega)]
    exact u2 a b a0 a1 b0 b1
  · rw [s0]
    split <;> omega
  · rw [d0] at r1
    show 0 ≤ σ 72 r ∧ σ 72 r ≤ 9
    rw [s2 r r0 (by omega), c7 r r0 (by omega)]; exact u1 r r0 r1
  · rw [d2] at o1
    show 0 ≤ σ 74 o ∧ σ 74 o ≤ 400
    have := (u3 o o0 o1).2.1
    rw [s3 o o0 (by omega), c13 o o0 (by omega)]; omega
  · rw [d2] at o1
    show σ 74 o ≤ 300
    have := (u3 o o0 o1).2.1
    rw [s3 o o0 (by omega), c13 o o0 (by omega)]; omega
  · rw [q0, s0, c26]
  · rw [d0] at r1
    show _ = σ 72 r
    rw [q4 r r0 r1, s2 r r0 (by omega), c7 r r0 (by omega)]
  · rw [d2] at o1
    show _ = σ 74 o
    rw [q5 o o0 o1, s3 o o0 (by omega), c13 o o0 (by omega)]
  · rw [d0] at a1 b1
    rw [d0, h177 _ (by omega) (by omega)]
    refine fl_congr (by omega) (fun i i0 i1 => ?_) _ (by omega) (by omega)
    unfold FZ0 fl0
    rw [e154 i i0 i1, c9 i i0 i1]
end CI
