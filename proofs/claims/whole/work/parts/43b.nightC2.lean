/-! THE CLASS PASSES A NIGHT: a coming, and all of them -/
/-- ahead of the last part of a coming -/
theorem l70_70_1 {d : Nat} {Q : dR → dS → Prop} {S n σ : dS} {b : Int} (hc : cityOK S) (hn : NI S 70 n) (b0 : 0 ≤ b) (b1 : b < S 5 2) (b2 : n 2 b < S 15 b) (hF : ∀ k, ¬ ncl k → σ k = S k) (h7 : σ 114 7 = n 7 0 + 1) (hmi : ∀ r, 0 ≤ r → r < S 5 0 → σ 120 r = ns S 70 n b 0 r) (ho : ∀ o, 0 ≤ o → o < S 5 2 → σ 122 o = ns S 70 n b 1 o ∧ σ 124 o = (if nestb S 70 o then 0 else n 2 o) ∧ σ 128 o = fu S n o) (hcl : ∀ o i, 0 ≤ o → o < S 5 2 → ¬ nestb S 70 o → 0 ≤ i → i < ns S 70 n b 2 o → σ 116 (8 * o + i) = ns S 70 n b 4 (8 * o + i) ∧ σ 118 (8 * o + i) = ns S 70 n b 5 (8 * o + i)) (hor : ∀ j, 0 ≤ j → j < n 7 0 + 1 → σ 126 j = ns S 70 n b 6 j) (hq : ∀ σ', RCN σ' S 70 (ns S 70 n b) → Q (.inl none) σ') : B70_70_1 (d + 4) Q b (n 2 b) (n 3 b) (hu S 70 n b) σ := by
  have nb := hn.2 b b0 b1
  have kb := hc.2.2.2.2.2.1 b b0 b1
  have hh := hvl_r S 70 (n 0 (S 17 (8 * b + n 2 b))) b (n 2 b) (n 3 b)
  have hO := hc.2.1
  have hnest : ¬ nestb S 70 b := fun z => by have := nb.2.2.2 z; omega
  refine b70_70_1 ?_
  intro σ1 f1
  rw [wr_id (by omega) (by omega), rput_in (by omega) (by omega)] at f1
  have fin : ∀ (v : Int) (σ2 : dS), σ2 = up σ1 128 b v → v = (if n 2 b + 1 < S 15 b then n 3 b + hu S 70 n b + fly S 70 b (8 * b + n 2 b) else 2147483647) → Q (.inl none) σ2 := by
    intro v σ2 f2 hv
    rw [f1] at f2
    refine hq σ2 ⟨fun k hk => ?_, ?_, fun r r0 r1 => ?_, fun o o0 o1 => ⟨?_, ?_, ?_⟩, fun o i o0 o1 hno i0 i1 => ?_, fun j j0 j1 => ?_⟩
    · have k1 : k ≠ 124 := fun e => hk (by subst e; decide)
      have k2 : k ≠ 128 := fun e => hk (by subst e; decide)
      rw [f2, up_k k2, up_k k1]
      exact hF k hk
    · rw [f2, up_k (by decide), up_k (by decide), h7, ns_7, if_pos rfl]
    · rw [f2, up_k (by decide), up_k (by decide)]; exact hmi r r0 r1
    · rw [f2, up_k (by decide), up_k (by decide)]; exact (ho o o0 o1).1
    · rw [f2, up_k (by decide), ns_2]
      by_cases q : o = b
      · subst q
        rw [up_same, if_neg hnest, if_pos rfl]
      · rw [up_i q, (ho o o0 o1).2.1, if_neg q]
    · rw [f2, fu_ns b2]
      by_cases q : o = b
      · subst q
        rw [up_same, if_pos rfl, hv]
      · rw [up_i q, up_k (by decide), (ho o o0 o1).2.2, if_neg q]
    · rw [f2, up_k (by decide), up_k (by decide), up_k (by decide), up_k (by decide)]
      exact hcl o i o0 o1 hno i0 i1
    · rw [ns_7, if_pos rfl] at j1
      rw [f2, up_k (by decide), up_k (by decide)]
      exact hor j j0 j1
  have F1 : ∀ k, ¬ ncl k → σ1 k = S k := by
    intro k hk
    have k1 : k ≠ 124 := fun e => hk (by subst e; decide)
    rw [f1, up_k k1]
    exact hF k hk
  have e15 : rat σ1 15 5 b = S 15 b := by rw [rat_in (by omega) (by omega), F1 15 (by decide)]
  rw [e15, wr_id (by omega) (by omega)]
  constructor
  · intro z
    refine b70_70_2 (b70_70_3 ⟨fun _ => b70_70_4 (b70_70_5 ?_), fun n => absurd rfl n⟩)
    intro σ2 f2
    rw [rput_in (by omega) (by omega)] at f2
    exact fin _ _ f2 (by rw [if_neg (by omega)])
  · intro z
    refine b70_70_3 ⟨fun e => absurd e (by decide), fun _ => ?_⟩
    refine w72_70 hc F1 b0 b1 nb.1.1 (by omega) (b70_70_5 ?_)
    have hf := fly_r (t := 70) (o := b) (kb.2.2.2 (n 2 b) nb.1.1 (by omega)).1 (kb.2.2.2 (n 2 b) nb.1.1 (by omega)).2
    have hhu : 0 ≤ hu S 70 n b ∧ hu S 70 n b ≤ 30 := hh
    intro σ2 f2
    rw [wr_id (x := n 3 b + hu S 70 n b) (by omega) (by omega), wr_id (by omega) (by omega), rput_in (by omega) (by omega)] at f2
    exact fin _ _ f2 (by rw [if_pos (by omega)])
theorem w70_70 {d : Nat} {Q : dR → dS → Prop} {K : dS → Prop} {S n σ : dS} {b : Int} (hc : cityOK S) (hs : skyOK S 70) (hn : NI S 70 n) (b0 : 0 ≤ b) (b1 : b < S 5 2) (b2 : n 2 b < S 15 b) (h70 : 0 ≤ n 7 0) (h740 : n 7 0 < 40) (hR : RCN σ S 70 n) (h : ∀ σ', RCN σ' S 70 (ns S 70 n b) → K σ') : wV (d + 6) 70 [.inr (.inr 114), .inl b, .inr (.inr 70)] σ Q K := by
  have nb := hn.2 b b0 b1
  have kb := hc.2.2.2.2.2.1 b b0 b1
  have hO := hc.2.1
  have hnest : ¬ nestb S 70 b := fun z => by have := nb.2.2.2 z; omega
  obtain ⟨r1, r2, r3, r4, r5, r6⟩ := hR
  have hw := kb.2.2.1 (n 2 b) nb.1.1 b2
  have hro := hc.1
  have hmr := hn.1 _ hw.1 hw.2
  have q4 := r4 b b0 b1
  have e124 : rat σ 124 5 b = n 2 b := by rw [rat_in (by omega) (by omega), q4.2.1, if_neg hnest]
  have e128 : rat σ 128 5 b = n 3 b := by
    rw [rat_in (by omega) (by omega), q4.2.2]
    unfold fu
    rw [if_pos b2]
  have ec : wr (wr (b * 8) + n 2 b) = 8 * b + n 2 b := by
    rw [wr_id (x := b * 8) (by omega) (by omega), wr_id (by omega) (by omega), Int.mul_comm]
  have er : rat σ 17 40 (8 * b + n 2 b) = S 17 (8 * b + n 2 b) := by
    rw [rat_in (by omega) (by omega), r1 17 (by decide)]
  have hhu : 0 ≤ hu S 70 n b ∧ hu S 70 n b ≤ 30 := hvl_r S 70 (n 0 (S 17 (8 * b + n 2 b))) b (n 2 b) (n 3 b)
  refine c70_70 (b70_70_0 ?_)
  rw [e124, e128, ec, er]
  refine w71_70 (mi := n 0 (S 17 (8 * b + n 2 b))) hc hs r1 b0 b1 nb.1.1 b2 (by omega) (by omega) (r3 _ hw.1 hw.2) (fun σ1 g1 => ?_)
  show ∀ σ2 : dS, _
  have ehu : hvl S 70 (n 0 (S 17 (8 * b + n 2 b))) b (n 2 b) (n 3 b) = hu S 70 n b := rfl
  rw [ehu]
  intro σ2 f2 σ3 f3 σ4 f4 σ5 f5
  have e1147 : σ1 114 7 = n 7 0 := by rw [g1 114 (by decide) (by decide)]; exact r2
  rw [rput_in (by omega) (by omega)] at f2
  rw [wr_id (by omega) (by omega), rput_in (by omega) (by omega), f2] at f3
  have e37 : σ3 114 7 = n 7 0 := by rw [f3, up_k (by decide), up_k (by decide)]; exact e1147
  rw [e37, rput_in (by omega) (by omega), f3] at f4
  have e47 : σ4 114 7 = n 7 0 := by rw [f4, up_k (by decide), up_k (by decide), up_k (by decide)]; exact e1147
  rw [e47, wr_id (by omega) (by omega), f4] at f5
  have E5 : ∀ k, k ≠ 114 → k ≠ 126 → k ≠ 118 → k ≠ 116 → k ≠ 32 → k ≠ 130 → σ5 k = σ k := by
    intro k q1 q2 q3 q4 q5 q6
    rw [f5, up_k q1, up_k q2, up_k q3, up_k q4, g1 k q5 q6]
  have e5m : rat σ5 120 10 (S 17 (8 * b + n 2 b)) = n 0 (S 17 (8 * b + n 2 b)) := by
    rw [rat_in (by omega) (by omega), E5 120 (by decide) (by decide) (by decide) (by decide) (by decide) (by decide)]
    exact r3 _ hw.1 hw.2
  rw [e5m]
  have fin : ∀ σ', σ' 114 = σ5 114 → σ' 116 = σ5 116 → σ' 118 = σ5 118 → σ' 126 = σ5 126 → (∀ k, k ≠ 120 → k ≠ 122 → σ' k = σ5 k) → (∀ r, 0 ≤ r → r < S 5 0 → σ' 120 r = ns S 70 n b 0 r) → (∀ o, 0 ≤ o → o < S 5 2 → σ' 122 o = ns S 70 n b 1 o) → B70_70_1 (d + 4) (fun res σ1 => match res with | .inl none => K σ1 | .inl (some _) => False | .inr e => Q (.inr e) σ1) b (n 2 b) (n 3 b) (hu S 70 n b) σ' := by
    intro σ' p1 p2 p3 p4 p5 p6 p7
    refine l70_70_1 hc hn b0 b1 b2 (fun k hk => ?_) ?_ p6 (fun o o0 o1 => ⟨p7 o o0 o1, ?_, ?_⟩) (fun o i o0 o1 hno i0 i1 => ?_) (fun j j0 j1 => ?_) h
    · have hne : ∀ x, ncl x → k ≠ x := fun x hx e => hk (e ▸ hx)
      rw [p5 k (hne _ (by decide)) (hne _ (by decide)), E5 k (hne _ (by decide)) (hne _ (by decide)) (hne _ (by decide)) (hne _ (by decide)) (hne _ (by decide)) (hne _ (by decide))]
      exact r1 k hk
    · rw [p1, f5, up_same]
    · rw [p5 124 (by decide) (by decide), E5 124 (by decide) (by decide) (by decide) (by decide) (by decide) (by decide)]
      exact (r4 o o0 o1).2.1
    · rw [p5 128 (by decide) (by decide), E5 128 (by decide) (by decide) (by decide) (by decide) (by decide) (by decide)]
      exact (r4 o o0 o1).2.2
    · have h116 : σ5 116 = up σ1 116 (8 * b + n 2 b) (n 3 b) 116 := by rw [f5, up_k (by decide), up_k (by decide), up_k (by decide)]
      have h118 : σ5 118 = up (up σ1 116 (8 * b + n 2 b) (n 3 b)) 118 (8 * b + n 2 b) (n 3 b + hu S 70 n b) 118 := by rw [f5, up_k (by decide), up_k (by decide)]
      rw [p2, p3, ns_4, ns_5, h116, h118]
      rw [ns_2] at i1
      have ko := hc.2.2.2.2.2.1 o o0 o1
      have no := hn.2 o o0 o1
      by_cases q : o = b ∧ i = n 2 b
      · rw [q.1, q.2, up_same, up_same, if_pos rfl, if_pos rfl]
        exact ⟨rfl, rfl⟩
      · have i1' : i < n 2 o := by
          by_cases q2 : o = b
          · rw [if_pos q2] at i1
            subst q2
            have : i ≠ n 2 o := fun e => q ⟨rfl, e⟩
            omega
          · rw [if_neg q2] at i1; exact i1
        have hne : 8 * o + i ≠ 8 * b + n 2 b := by omega
        rw [up_i hne, up_i hne, up_k (by decide), if_neg hne, if_neg hne, g1 116 (by decide) (by decide), g1 118 (by decide) (by decide)]
        exact r5 o i o0 o1 hno i0 i1'
    · rw [p4, ns_6, f5, up_k (by decide)]
      by_cases q : j = n 7 0
      · rw [q, up_same, if_pos rfl]
      · rw [up_i q, up_k (by decide), up_k (by decide), if_neg q, g1 126 (by decide) (by decide)]
        exact r6 j j0 (by omega)
  constructor
  · intro z
    refine fin σ5 rfl rfl rfl rfl (fun _ _ _ => rfl) (fun r r0 r1' => ?_) (fun o o0 o1 => ?_)
    · rw [ns_0, if_neg (fun q => by omega), E5 120 (by decide) (by decide) (by decide) (by decide) (by decide) (by decide)]
      exact r3 r r0 r1'
    · rw [ns_1, if_neg (fun q => by omega), E5 122 (by decide) (by decide) (by decide) (by decide) (by decide) (by decide)]
      exact (r4 o o0 o1).1
  · intro z
    constructor
    · intro y
      refine fin σ5 rfl rfl rfl rfl (fun _ _ _ => rfl) (fun r r0 r1' => ?_) (fun o o0 o1 => ?_)
      · rw [ns_0, if_neg (fun q => by omega), E5 120 (by decide) (by decide) (by decide) (by decide) (by decide) (by decide)]
        exact r3 r r0 r1'
      · rw [ns_1, if_neg (fun q => by omega), E5 122 (by decide) (by decide) (by decide) (by decide) (by decide) (by decide)]
        exact (r4 o o0 o1).1
    · intro y σ6 f6 σ7 f7
      rw [wr_id (by omega) (by omega), rput_in (by omega) (by omega)] at f6
      have e6 : rat σ6 122 5 b = n 1 b := by
        rw [rat_in (by omega) (by omega), f6, up_k (by decide), E5 122 (by decide) (by decide) (by decide) (by decide) (by decide) (by decide)]
        exact (r4 b b0 b1).1
      rw [e6, wr_id (by omega) (by omega), rput_in (by omega) (by omega), f6] at f7
      refine fin σ7 ?_ ?_ ?_ ?_ (fun k q1 q2 => ?_) (fun r r0 r1' => ?_) (fun o o0 o1 => ?_)
      · rw [f7, up_k (by decide), up_k (by decide)]
      · rw [f7, up_k (by decide), up_k (by decide)]
      · rw [f7, up_k (by decide), up_k (by decide)]
      · rw [f7, up_k (by decide), up_k (by decide)]
      · rw [f7, up_k q2, up_k q1]
      · rw [ns_0, f7, up_k (by decide)]
        by_cases q : r = S 17 (8 * b + n 2 b)
        · subst q
          rw [up_same, if_pos ⟨by omega, by omega, rfl⟩]
        · rw [up_i q, if_neg (fun z => q z.2.2), E5 120 (by decide) (by decide) (by decide) (by decide) (by decide) (by decide)]
          exact r3 r r0 r1'
      · rw [ns_1, f7]
        by_cases q : o = b
        · subst q
          rw [up_same, if_pos ⟨by omega, by omega, rfl⟩]
        · rw [up_i q, up_k (by decide), if_neg (fun z => q z.2.2), E5 122 (by decide) (by decide) (by decide) (by decide) (by decide) (by decide)]
          exact (r4 o o0 o1).1
/-- ahead of the last part of a coming -/
theorem l70_109_1 {d : Nat} {Q : dR → dS → Prop} {S n σ : dS} {b : Int} (hc : cityOK S) (hn : NI S 109 n) (b0 : 0 ≤ b) (b1 : b < S 5 2) (b2 : n 2 b < S 15 b) (hF : ∀ k, ¬ ncl k → σ k = S k) (h7 : σ 114 7 = n 7 0 + 1) (hmi : ∀ r, 0 ≤ r → r < S 5 0 → σ 120 r = ns S 109 n b 0 r) (ho : ∀ o, 0 ≤ o → o < S 5 2 → σ 122 o = ns S 109 n b 1 o ∧ σ 124 o = (if nestb S 109 o then 0 else n 2 o) ∧ σ 128 o = fu S n o) (hcl : ∀ o i, 0 ≤ o → o < S 5 2 → ¬ nestb S 109 o → 0 ≤ i → i < ns S 109 n b 2 o → σ 116 (8 * o + i) = ns S 109 n b 4 (8 * o + i) ∧ σ 118 (8 * o + i) = ns S 109 n b 5 (8 * o + i)) (hor : ∀ j, 0 ≤ j → j < n 7 0 + 1 → σ 126 j = ns S 109 n b 6 j) (hq : ∀ σ', RCN σ' S 109 (ns S 109 n b) → Q (.inl none) σ') : B70_109_1 (d + 4) Q b (n 2 b) (n 3 b) (hu S 109 n b) σ := by
  have nb := hn.2 b b0 b1
  have kb := hc.2.2.2.2.2.1 b b0 b1
  have hh := hvl_r S 109 (n 0 (S 17 (8 * b + n 2 b))) b (n 2 b) (n 3 b)
  have hO := hc.2.1
  have hnest : ¬ nestb S 109 b := fun z => by have := nb.2.2.2 z; omega
  refine b70_109_1 ?_
  intro σ1 f1
  rw [wr_id (by omega) (by omega), rput_in (by omega) (by omega)] at f1
  have fin : ∀ (v : Int) (σ2 : dS), σ2 = up σ1 128 b v → v = (if n 2 b + 1 < S 15 b then n 3 b + hu S 109 n b + fly S 109 b (8 * b + n 2 b) else 2147483647) → Q (.inl none) σ2 := by
    intro v σ2 f2 hv
    rw [f1] at f2
    refine hq σ2 ⟨fun k hk => ?_, ?_, fun r r0 r1 => ?_, fun o o0 o1 => ⟨?_, ?_, ?_⟩, fun o i o0 o1 hno i0 i1 => ?_, fun j j0 j1 => ?_⟩
    · have k1 : k ≠ 124 := fun e => hk (by subst e; decide)
      have k2 : k ≠ 128 := fun e => hk (by subst e; decide)
      rw [f2, up_k k2, up_k k1]
      exact hF k hk
    · rw [f2, up_k (by decide), up_k (by decide), h7, ns_7, if_pos rfl]
    · rw [f2, up_k (by decide), up_k (by decide)]; exact hmi r r0 r1
    · rw [f2, up_k (by decide), up_k (by decide)]; exact (ho o o0 o1).1
    · rw [f2, up_k (by decide), ns_2]
      by_cases q : o = b
      · subst q
        rw [up_same, if_neg hnest, if_pos rfl]
      · rw [up_i q, (ho o o0 o1).2.1, if_neg q]
    · rw [f2, fu_ns b2]
      by_cases q : o = b
      · subst q
        rw [up_same, if_pos rfl, hv]
      · rw [up_i q, up_k (by decide), (ho o o0 o1).2.2, if_neg q]
    · rw [f2, up_k (by decide), up_k (by decide), up_k (by decide), up_k (by decide)]
      exact hcl o i o0 o1 hno i0 i1
    · rw [ns_7, if_pos rfl] at j1
      rw [f2, up_k (by decide), up_k (by decide)]
      exact hor j j0 j1
  have F1 : ∀ k, ¬ ncl k → σ1 k = S k := by
    intro k hk
    have k1 : k ≠ 124 := fun e => hk (by subst e; decide)
    rw [f1, up_k k1]
    exact hF k hk
  have e15 : rat σ1 15 5 b = S 15 b := by rw [rat_in (by omega) (by omega), F1 15 (by decide)]
  rw [e15, wr_id (by omega) (by omega)]
  constructor
  · intro z
    refine b70_109_2 (b70_109_3 ⟨fun _ => b70_109_4 (b70_109_5 ?_), fun n => absurd rfl n⟩)
    intro σ2 f2
    rw [rput_in (by omega) (by omega)] at f2
    exact fin _ _ f2 (by rw [if_neg (by omega)])
  · intro z
    refine b70_109_3 ⟨fun e => absurd e (by decide), fun _ => ?_⟩
    refine w72_109 hc F1 b0 b1 nb.1.1 (by omega) (b70_109_5 ?_)
    have hf := fly_r (t := 109) (o := b) (kb.2.2.2 (n 2 b) nb.1.1 (by omega)).1 (kb.2.2.2 (n 2 b) nb.1.1 (by omega)).2
    have hhu : 0 ≤ hu S 109 n b ∧ hu S 109 n b ≤ 30 := hh
    intro σ2 f2
    rw [wr_id (x := n 3 b + hu S 109 n b) (by omega) (by omega), wr_id (by omega) (by omega), rput_in (by omega) (by omega)] at f2
    exact fin _ _ f2 (by rw [if_pos (by omega)])
theorem w70_109 {d : Nat} {Q : dR → dS → Prop} {K : dS → Prop} {S n σ : dS} {b : Int} (hc : cityOK S) (hs : skyOK S 109) (hn : NI S 109 n) (b0 : 0 ≤ b) (b1 : b < S 5 2) (b2 : n 2 b < S 15 b) (h70 : 0 ≤ n 7 0) (h740 : n 7 0 < 40) (hR : RCN σ S 109 n) (h : ∀ σ', RCN σ' S 109 (ns S 109 n b) → K σ') : wV (d + 6) 70 [.inr (.inr 114), .inl b, .inr (.inr 109)] σ Q K := by
  have nb := hn.2 b b0 b1
  have kb := hc.2.2.2.2.2.1 b b0 b1
  have hO := hc.2.1
  have hnest : ¬ nestb S 109 b := fun z => by have := nb.2.2.2 z; omega
  obtain ⟨r1, r2, r3, r4, r5, r6⟩ := hR
  have hw := kb.2.2.1 (n 2 b) nb.1.1 b2
  have hro := hc.1
  have hmr := hn.1 _ hw.1 hw.2
  have q4 := r4 b b0 b1
  have e124 : rat σ 124 5 b = n 2 b := by rw [rat_in (by omega) (by omega), q4.2.1, if_neg hnest]
  have e128 : rat σ 128 5 b = n 3 b := by
    rw [rat_in (by omega) (by omega), q4.2.2]
    unfold fu
    rw [if_pos b2]
  have ec : wr (wr (b * 8) + n 2 b) = 8 * b + n 2 b := by
    rw [wr_id (x := b * 8) (by omega) (by omega), wr_id (by omega) (by omega), Int.mul_comm]
  have er : rat σ 17 40 (8 * b + n 2 b) = S 17 (8 * b + n 2 b) := by
    rw [rat_in (by omega) (by omega), r1 17 (by decide)]
  have hhu : 0 ≤ hu S 109 n b ∧ hu S 109 n b ≤ 30 := hvl_r S 109 (n 0 (S 17 (8 * b + n 2 b))) b (n 2 b) (n 3 b)
  refine c70_109 (b70_109_0 ?_)
  rw [e124, e128, ec, er]
  refine w71_109 (mi := n 0 (S 17 (8 * b + n 2 b))) hc hs r1 b0 b1 nb.1.1 b2 (by omega) (by omega) (r3 _ hw.1 hw.2) (fun σ1 g1 => ?_)
  show ∀ σ2 : dS, _
  have ehu : hvl S 109 (n 0 (S 17 (8 * b + n 2 b))) b (n 2 b) (n 3 b) = hu S 109 n b := rfl
  rw [ehu]
  intro σ2 f2 σ3 f3 σ4 f4 σ5 f5
  have e1147 : σ1 114 7 = n 7 0 := by rw [g1 114 (by decide) (by decide)]; exact r2
  rw [rput_in (by omega) (by omega)] at f2
  rw [wr_id (by omega) (by omega), rput_in (by omega) (by omega), f2] at f3
  have e37 : σ3 114 7 = n 7 0 := by rw [f3, up_k (by decide), up_k (by decide)]; exact e1147
  rw [e37, rput_in (by omega) (by omega), f3] at f4
  have e47 : σ4 114 7 = n 7 0 := by rw [f4, up_k (by decide), up_k (by decide), up_k (by decide)]; exact e1147
  rw [e47, wr_id (by omega) (by omega), f4] at f5
  have E5 : ∀ k, k ≠ 114 → k ≠ 126 → k ≠ 118 → k ≠ 116 → k ≠ 32 → k ≠ 130 → σ5 k = σ k := by
    intro k q1 q2 q3 q4 q5 q6
    rw [f5, up_k q1, up_k q2, up_k q3, up_k q4, g1 k q5 q6]
  have e5m : rat σ5 120 10 (S 17 (8 * b + n 2 b)) = n 0 (S 17 (8 * b + n 2 b)) := by
    rw [rat_in (by omega) (by omega), E5 120 (by decide) (by decide) (by decide) (by decide) (by decide) (by decide)]
    exact r3 _ hw.1 hw.2
  rw [e5m]
  have fin : ∀ σ', σ' 114 = σ5 114 → σ' 116 = σ5 116 → σ' 118 = σ5 118 → σ' 126 = σ5 126 → (∀ k, k ≠ 120 → k ≠ 122 → σ' k = σ5 k) → (∀ r, 0 ≤ r → r < S 5 0 → σ' 120 r = ns S 109 n b 0 r) → (∀ o, 0 ≤ o → o < S 5 2 → σ' 122 o = ns S 109 n b 1 o) → B70_109_1 (d + 4) (fun res σ1 => match res with | .inl none => K σ1 | .inl (some _) => False | .inr e => Q (.inr e) σ1) b (n 2 b) (n 3 b) (hu S 109 n b) σ' := by
    intro σ' p1 p2 p3 p4 p5 p6 p7
    refine l70_109_1 hc hn b0 b1 b2 (fun k hk => ?_) ?_ p6 (fun o o0 o1 => ⟨p7 o o0 o1, ?_, ?_⟩) (fun o i o0 o1 hno i0 i1 => ?_) (fun j j0 j1 => ?_) h
    · have hne : ∀ x, ncl x → k ≠ x := fun x hx e => hk (e ▸ hx)
      rw [p5 k (hne _ (by decide)) (hne _ (by decide)), E5 k (hne _ (by decide)) (hne _ (by decide)) (hne _ (by decide)) (hne _ (by decide)) (hne _ (by decide)) (hne _ (by decide))]
      exact r1 k hk
    · rw [p1, f5, up_same]
    · rw [p5 124 (by decide) (by decide), E5 124 (by decide) (by decide) (by decide) (by decide) (by decide) (by decide)]
      exact (r4 o o0 o1).2.1
    · rw [p5 128 (by decide) (by decide), E5 128 (by decide) (by decide) (by decide) (by decide) (by decide) (by decide)]
      exact (r4 o o0 o1).2.2
    · have h116 : σ5 116 = up σ1 116 (8 * b + n 2 b) (n 3 b) 116 := by rw [f5, up_k (by decide), up_k (by decide), up_k (by decide)]
      have h118 : σ5 118 = up (up σ1 116 (8 * b + n 2 b) (n 3 b)) 118 (8 * b + n 2 b) (n 3 b + hu S 109 n b) 118 := by rw [f5, up_k (by decide), up_k (by decide)]
      rw [p2, p3, ns_4, ns_5, h116, h118]
      rw [ns_2] at i1
      have ko := hc.2.2.2.2.2.1 o o0 o1
      have no := hn.2 o o0 o1
      by_cases q : o = b ∧ i = n 2 b
      · rw [q.1, q.2, up_same, up_same, if_pos rfl, if_pos rfl]
        exact ⟨rfl, rfl⟩
      · have i1' : i < n 2 o := by
          by_cases q2 : o = b
          · rw [if_pos q2] at i1
            subst q2
            have : i ≠ n 2 o := fun e => q ⟨rfl, e⟩
            omega
          · rw [if_neg q2] at i1; exact i1
        have hne : 8 * o + i ≠ 8 * b + n 2 b := by omega
        rw [up_i hne, up_i hne, up_k (by decide), if_neg hne, if_neg hne, g1 116 (by decide) (by decide), g1 118 (by decide) (by decide)]
        exact r5 o i o0 o1 hno i0 i1'
    · rw [p4, ns_6, f5, up_k (by decide)]
      by_cases q : j = n 7 0
      · rw [q, up_same, if_pos rfl]
      · rw [up_i q, up_k (by decide), up_k (by decide), if_neg q, g1 126 (by decide) (by decide)]
        exact r6 j j0 (by omega)
  constructor
  · intro z
    refine fin σ5 rfl rfl rfl rfl (fun _ _ _ => rfl) (fun r r0 r1' => ?_) (fun o o0 o1 => ?_)
    · rw [ns_0, if_neg (fun q => by omega), E5 120 (by decide) (by decide) (by decide) (by decide) (by decide) (by decide)]
      exact r3 r r0 r1'
    · rw [ns_1, if_neg (fun q => by omega), E5 122 (by decide) (by decide) (by decide) (by decide) (by decide) (by decide)]
      exact (r4 o o0 o1).1
  · intro z
    constructor
    · intro y
      refine fin σ5 rfl rfl rfl rfl (fun _ _ _ => rfl) (fun r r0 r1' => ?_) (fun o o0 o1 => ?_)
      · rw [ns_0, if_neg (fun q => by omega), E5 120 (by decide) (by decide) (by decide) (by decide) (by decide) (by decide)]
        exact r3 r r0 r1'
      · rw [ns_1, if_neg (fun q => by omega), E5 122 (by decide) (by decide) (by decide) (by decide) (by decide) (by decide)]
        exact (r4 o o0 o1).1
    · intro y σ6 f6 σ7 f7
      rw [wr_id (by omega) (by omega), rput_in (by omega) (by omega)] at f6
      have e6 : rat σ6 122 5 b = n 1 b := by
        rw [rat_in (by omega) (by omega), f6, up_k (by decide), E5 122 (by decide) (by decide) (by decide) (by decide) (by decide) (by decide)]
        exact (r4 b b0 b1).1
      rw [e6, wr_id (by omega) (by omega), rput_in (by omega) (by omega), f6] at f7
      refine fin σ7 ?_ ?_ ?_ ?_ (fun k q1 q2 => ?_) (fun r r0 r1' => ?_) (fun o o0 o1 => ?_)
      · rw [f7, up_k (by decide), up_k (by decide)]
      · rw [f7, up_k (by decide), up_k (by decide)]
      · rw [f7, up_k (by decide), up_k (by decide)]
      · rw [f7, up_k (by decide), up_k (by decide)]
      · rw [f7, up_k q2, up_k q1]
      · rw [ns_0, f7, up_k (by decide)]
        by_cases q : r = S 17 (8 * b + n 2 b)
        · subst q
          rw [up_same, if_pos ⟨by omega, by omega, rfl⟩]
        · rw [up_i q, if_neg (fun z => q z.2.2), E5 120 (by decide) (by decide) (by decide) (by decide) (by decide) (by decide)]
          exact r3 r r0 r1'
      · rw [ns_1, f7]
        by_cases q : o = b
        · subst q
          rw [up_same, if_pos ⟨by omega, by omega, rfl⟩]
        · rw [up_i q, up_k (by decide), if_neg (fun z => q z.2.2), E5 122 (by decide) (by decide) (by decide) (by decide) (by decide) (by decide)]
          exact (r4 o o0 o1).1
