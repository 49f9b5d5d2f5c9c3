/-! fewest, the reference -/
section FEWM
variable {d : Nat} {Q : dR → dS → Prop} {σ V S : dS} {p : Int}
theorem l208_187_186 {o a b : Int} (hc : cityOK V) (hs : skyOK V 109) (hM : MN S V) (o0 : 0 ≤ o) (o1 : o < V 5 2) (a0 : 0 ≤ a) (a1 : a + 10 ≤ 10) (b0 : 0 ≤ b) (b1 : b + 10 ≤ 10) (ab : (187 : Nat) = 186 → a + 10 ≤ b) (hq : ∀ v σ', (∀ k, k ≠ 186 → σ' k = S k) → (∀ j, ¬ (b ≤ j ∧ j < b + 10) → σ' 186 j = S 186 j) → (∀ r t, 0 ≤ r → r < V 5 0 → (σ' 186 (b + r) ≤ t ↔ S 186 (b + r) ≤ t ∨ rdV V o (fun r => S 187 (a + r)) r t)) → Q (.inl (some (.inl v))) σ') (hn : ¬ nestb V 109 o) : ∀ (c : Nat) (i on x7 : Int) (σ : dS), 0 ≤ i → i + c = V 15 o → (on = 0 ∨ on = 1) → (x7 = 0 ∨ x7 = 1) → (on = 1 ↔ onk V o (fun r => S 187 (a + r)) i) → (∀ k, k ≠ 186 → σ k = S k) → (∀ j, ¬ (b ≤ j ∧ j < b + 10) → σ 186 j = S 186 j) → (∀ r t, 0 ≤ r → r < V 5 0 → (σ 186 (b + r) ≤ t ↔ S 186 (b + r) ≤ t ∨ rkk V o (fun r => S 187 (a + r)) i r t)) → B208_187_186_1 (d + 2) Q o a b on x7 i σ
  | 0, i, on, x7, σ, i0, hi, hon, h7, hon2, hF, h139, hB => by
    have hO := hc.2.1
    have ei : i = V 15 o := by omega
    have mo := hM.1.2.2.2.2.2.2.1 o o0 o1
    have e156 : σ 156 o = V 15 o := by rw [hF 156 (by decide)]; exact mo.2.1
    refine b208_187_186_1 ⟨o0, by omega, fun _ => b208_187_186_6 ⟨h7, hq _ σ hF h139 (fun r t r0 r1 => ?_)⟩, fun z => absurd (by omega) z⟩
    rw [hB r t r0 r1, ei, rk_all]
  | c + 1, i, on, x7, σ, i0, hi, hon, h7, hon2, hF, h139, hB => by
    have hO := hc.2.1
    have hRo := hc.1
    have kb := hc.2.2.2.2.2.1 o o0 o1
    have mo := hM.1.2.2.2.2.2.2.1 o o0 o1
    have e156 : σ 156 o = V 15 o := by rw [hF 156 (by decide)]; exact mo.2.1
    have ew : wr (wr (8 * o) + i) = 8 * o + i := by rw [wr_id (x := 8 * o) (by omega) (by omega), wr_id (by omega) (by omega)]
    have hk : okc V o i := ⟨o0, o1, hn, i0, by omega⟩
    have cl := hM.2.2.2.2 o i o0 o1 hn i0 (by rw [(NF_done hc hs).2 o o0 o1]; omega)
    have rr := kb.2.2.1 i i0 (by omega)
    have e17 : σ 157 (8 * o + i) = V 17 (8 * o + i) := by rw [hF 157 (by decide)]; exact mo.2.2 i i0 (by omega)
    have e116 : σ 180 (8 * o + i) = NF V 109 4 (8 * o + i) := by rw [hF 180 (by decide), cl.1]
    have es : wr (b + V 17 (8 * o + i)) = b + V 17 (8 * o + i) := wr_id (by omega) (by omega)
    have ea : wr (a + V 17 (8 * o + i)) = a + V 17 (8 * o + i) := wr_id (by omega) (by omega)
    have hM174 : σ 174 3 = V 109 3 := by rw [hF 174 (by decide)]; exact hM.2.1.2.2.2.1
    have go : ∀ (x7 : Int) (σ1 : dS), (x7 = 0 ∨ x7 = 1) → (∀ k, k ≠ 186 → σ1 k = S k) → (∀ j, ¬ (b ≤ j ∧ j < b + 10) → σ1 186 j = S 186 j) → (∀ r t, 0 ≤ r → r < V 5 0 → (σ1 186 (b + r) ≤ t ↔ S 186 (b + r) ≤ t ∨ rkk V o (fun r => S 187 (a + r)) (i + 1) r t)) → B208_187_186_2 (d + 2) Q o a b on x7 i (V 17 (8 * o + i)) σ1 := by
      intro x7 σ1 g7 g1 g2 g3
      have nx : ∀ v, (v = 0 ∨ v = 1) → (v = 1 ↔ onk V o (fun r => S 187 (a + r)) (i + 1)) → B208_187_186_5 (d + 2) Q o a b x7 i v σ1 := by
        intro v hv hv2
        refine b208_187_186_5 ?_
        rw [wr_id (by omega) (by omega)]
        exact l208_187_186 hc hs hM o0 o1 a0 a1 b0 b1 ab hq hn c (i + 1) v x7 σ1 (by omega) (by omega) hv g7 hv2 g1 g2 g3
      have e118 : σ1 181 (8 * o + i) = NF V 109 5 (8 * o + i) := by rw [g1 181 (by decide), cl.2]
      have e139 : σ1 187 (a + V 17 (8 * o + i)) = S 187 (a + V 17 (8 * o + i)) := by
        by_cases e : (187 : Nat) = 186
        · have := ab e
          first | exact absurd e (by decide) | exact g2 _ (by omega)
        · rw [g1 187 e]
      refine b208_187_186_2 ⟨fun y => b208_187_186_3 (nx 1 (Or.inr rfl) ⟨fun _ => (onk_s hk).mpr (Or.inl (hon2.mp (hon.resolve_left y))), fun _ => rfl⟩), fun y => ?_⟩
      rw [ea, ew, e118, e139]
      refine ⟨by omega, by omega, by omega, by omega, fun x => b208_187_186_4 (nx 0 (Or.inl rfl) ⟨fun q => absurd q (by decide), fun q => ?_⟩), fun x => b208_187_186_3 (nx 1 (Or.inr rfl) ⟨fun _ => (onk_s hk).mpr (Or.inr (by omega)), fun _ => rfl⟩)⟩
      rcases (onk_s hk).mp q with w | w
      · exact absurd (hon2.mpr w) (by omega)
      · exfalso; omega
    refine b208_187_186_1 ⟨o0, by omega, fun z => absurd z (by omega), fun _ => w202 (V := V) hM174 ?_⟩
    rw [if_neg hn, ew, e17, es, e116]
    refine ⟨fun z => absurd rfl z, fun _ => ⟨by omega, by omega, fun z => go x7 σ h7 hF h139 (fun r t r0 r1 => ?_), fun z => ⟨by omega, by omega, by omega, by omega, fun y => go x7 σ h7 hF h139 (fun r t r0 r1 => ?_), fun y => ⟨by omega, by omega, by omega, by omega, fun σ1 f1 => ?_⟩⟩⟩⟩
    · rw [hB r t r0 r1, rk_s hk]
      constructor
      · exact fun q => q.elim Or.inl (fun w => Or.inr (Or.inl w))
      · rintro (q | q | ⟨q, _⟩)
        · exact Or.inl q
        · exact Or.inr q
        · exact absurd (hon2.mpr q) (by omega)
    · rw [rk_s hk]
      have h0 := hB r t r0 r1
      constructor
      · intro q
        exact (h0.mp q).elim Or.inl (fun w => Or.inr (Or.inl w))
      · rintro (q | q | ⟨_, q1, q2⟩)
        · exact h0.mpr (Or.inl q)
        · exact h0.mpr (Or.inr q)
        · rw [← q1]; omega
    · refine go 1 σ1 (Or.inr rfl) (fun k hk => by rw [f1, up_k hk]; exact hF k hk) (fun j hj => by rw [f1, up_i (by omega)]; exact h139 j hj) (fun r t r0 r1 => ?_)
      rw [rk_s hk]
      have h0 := hB r t r0 r1
      by_cases e : r = V 17 (8 * o + i)
      · subst e
        rw [f1, up_same]
        constructor
        · intro q
          exact Or.inr (Or.inr ⟨hon2.mp (hon.resolve_left z), rfl, q⟩)
        · rintro (q | q | ⟨_, _, q2⟩)
          · have := h0.mpr (Or.inl q); omega
          · have := h0.mpr (Or.inr q); omega
          · exact q2
      · rw [f1, up_i (by omega)]
        constructor
        · intro q
          exact (h0.mp q).elim Or.inl (fun w => Or.inr (Or.inl w))
        · rintro (q | q | ⟨_, q1, q2⟩)
          · exact h0.mpr (Or.inl q)
          · exact h0.mpr (Or.inr q)
          · exact absurd q1.symm e
theorem w208_187_186 {K : Int → dS → Prop} {o a b : Int} (hc : cityOK V) (hs : skyOK V 109) (hM : MN S V) (o0 : 0 ≤ o) (o1 : o < V 5 2) (a0 : 0 ≤ a) (a1 : a + 10 ≤ 10) (b0 : 0 ≤ b) (b1 : b + 10 ≤ 10) (ab : (187 : Nat) = 186 → a + 10 ≤ b) (hq : ∀ v σ', (∀ k, k ≠ 186 → σ' k = S k) → (∀ j, ¬ (b ≤ j ∧ j < b + 10) → σ' 186 j = S 186 j) → (∀ r t, 0 ≤ r → r < V 5 0 → (σ' 186 (b + r) ≤ t ↔ S 186 (b + r) ≤ t ∨ rdV V o (fun r => S 187 (a + r)) r t)) → K v σ') : wI (d + 4) 208 [.inr (.inr 153), .inl o, .inr (.inr 187), .inl a, .inr (.inr 186), .inl b] S Q K := by
  have hO := hc.2.1
  have kb := hc.2.2.2.2.2.1 o o0 o1
  have mo := hM.1.2.2.2.2.2.2.1 o o0 o1
  refine c208_187_186 (b208_187_186_0 ?_)
  by_cases z : nestb V 109 o
  · have fin : (∀ r t, 0 ≤ r → r < V 5 0 → (S 186 (b + r) ≤ t ↔ S 186 (b + r) ≤ t ∨ rdV V o (fun r => S 187 (a + r)) r t)) := fun r t _ _ => ⟨Or.inl, fun q => q.elim id (fun w => absurd w (rd_nest z))⟩
    refine b208_187_186_1 ⟨o0, by omega, fun _ => b208_187_186_6 ⟨Or.inl rfl, hq 0 S (fun _ _ => rfl) (fun _ _ => rfl) fin⟩, fun _ => w202 (V := V) hM.2.1.2.2.2.1 ?_⟩
    rw [if_pos z]
    exact ⟨fun _ => b208_187_186_6 ⟨Or.inl rfl, hq 0 S (fun _ _ => rfl) (fun _ _ => rfl) fin⟩, fun q => absurd (by decide) q⟩
  · exact l208_187_186 hc hs hM o0 o1 a0 a1 b0 b1 ab hq z (V 15 o).toNat 0 0 0 S (by omega) (by omega) (Or.inl rfl) (Or.inl rfl) ⟨fun q => absurd q (by decide), fun q => absurd q onk_0⟩ (fun _ _ => rfl) (fun _ _ => rfl) (fun r t _ _ => ⟨Or.inl, fun q => q.elim id (fun w => absurd w rk_0)⟩)
theorem l208_188_188 {o a b : Int} (hc : cityOK V) (hs : skyOK V 109) (hM : MN S V) (o0 : 0 ≤ o) (o1 : o < V 5 2) (a0 : 0 ≤ a) (a1 : a + 10 ≤ 400) (b0 : 0 ≤ b) (b1 : b + 10 ≤ 400) (ab : (188 : Nat) = 188 → a + 10 ≤ b) (hq : ∀ v σ', (∀ k, k ≠ 188 → σ' k = S k) → (∀ j, ¬ (b ≤ j ∧ j < b + 10) → σ' 188 j = S 188 j) → (∀ r t, 0 ≤ r → r < V 5 0 → (σ' 188 (b + r) ≤ t ↔ S 188 (b + r) ≤ t ∨ rdV V o (fun r => S 188 (a + r)) r t)) → Q (.inl (some (.inl v))) σ') (hn : ¬ nestb V 109 o) : ∀ (c : Nat) (i on x7 : Int) (σ : dS), 0 ≤ i → i + c = V 15 o → (on = 0 ∨ on = 1) → (x7 = 0 ∨ x7 = 1) → (on = 1 ↔ onk V o (fun r => S 188 (a + r)) i) → (∀ k, k ≠ 188 → σ k = S k) → (∀ j, ¬ (b ≤ j ∧ j < b + 10) → σ 188 j = S 188 j) → (∀ r t, 0 ≤ r → r < V 5 0 → (σ 188 (b + r) ≤ t ↔ S 188 (b + r) ≤ t ∨ rkk V o (fun r => S 188 (a + r)) i r t)) → B208_188_188_1 (d + 2) Q o a b on x7 i σ
  | 0, i, on, x7, σ, i0, hi, hon, h7, hon2, hF, h139, hB => by
    have hO := hc.2.1
    have ei : i = V 15 o := by omega
    have mo := hM.1.2.2.2.2.2.2.1 o o0 o1
    have e156 : σ 156 o = V 15 o := by rw [hF 156 (by decide)]; exact mo.2.1
    refine b208_188_188_1 ⟨o0, by omega, fun _ => b208_188_188_6 ⟨h7, hq _ σ hF h139 (fun r t r0 r1 => ?_)⟩, fun z => absurd (by omega) z⟩
    rw [hB r t r0 r1, ei, rk_all]
  | c + 1, i, on, x7, σ, i0, hi, hon, h7, hon2, hF, h139, hB => by
    have hO := hc.2.1
    have hRo := hc.1
    have kb := hc.2.2.2.2.2.1 o o0 o1
    have mo := hM.1.2.2.2.2.2.2.1 o o0 o1
    have e156 : σ 156 o = V 15 o := by rw [hF 156 (by decide)]; exact mo.2.1
    have ew : wr (wr (8 * o) + i) = 8 * o + i := by rw [wr_id (x := 8 * o) (by omega) (by omega), wr_id (by omega) (by omega)]
    have hk : okc V o i := ⟨o0, o1, hn, i0, by omega⟩
    have cl := hM.2.2.2.2 o i o0 o1 hn i0 (by rw [(NF_done hc hs).2 o o0 o1]; omega)
    have rr := kb.2.2.1 i i0 (by omega)
    have e17 : σ 157 (8 * o + i) = V 17 (8 * o + i) := by rw [hF 157 (by decide)]; exact mo.2.2 i i0 (by omega)
    have e116 : σ 180 (8 * o + i) = NF V 109 4 (8 * o + i) := by rw [hF 180 (by decide), cl.1]
    have es : wr (b + V 17 (8 * o + i)) = b + V 17 (8 * o + i) := wr_id (by omega) (by omega)
    have ea : wr (a + V 17 (8 * o + i)) = a + V 17 (8 * o + i) := wr_id (by omega) (by omega)
    have hM174 : σ 174 3 = V 109 3 := by rw [hF 174 (by decide)]; exact hM.2.1.2.2.2.1
    have go : ∀ (x7 : Int) (σ1 : dS), (x7 = 0 ∨ x7 = 1) → (∀ k, k ≠ 188 → σ1 k = S k) → (∀ j, ¬ (b ≤ j ∧ j < b + 10) → σ1 188 j = S 188 j) → (∀ r t, 0 ≤ r → r < V 5 0 → (σ1 188 (b + r) ≤ t ↔ S 188 (b + r) ≤ t ∨ rkk V o (fun r => S 188 (a + r)) (i + 1) r t)) → B208_188_188_2 (d + 2) Q o a b on x7 i (V 17 (8 * o + i)) σ1 := by
      intro x7 σ1 g7 g1 g2 g3
      have nx : ∀ v, (v = 0 ∨ v = 1) → (v = 1 ↔ onk V o (fun r => S 188 (a + r)) (i + 1)) → B208_188_188_5 (d + 2) Q o a b x7 i v σ1 := by
        intro v hv hv2
        refine b208_188_188_5 ?_
        rw [wr_id (by omega) (by omega)]
        exact l208_188_188 hc hs hM o0 o1 a0 a1 b0 b1 ab hq hn c (i + 1) v x7 σ1 (by omega) (by omega) hv g7 hv2 g1 g2 g3
      have e118 : σ1 181 (8 * o + i) = NF V 109 5 (8 * o + i) := by rw [g1 181 (by decide), cl.2]
      have e139 : σ1 188 (a + V 17 (8 * o + i)) = S 188 (a + V 17 (8 * o + i)) := by
        by_cases e : (188 : Nat) = 188
        · have := ab e
          first | exact absurd e (by decide) | exact g2 _ (by omega)
        · rw [g1 188 e]
      refine b208_188_188_2 ⟨fun y => b208_188_188_3 (nx 1 (Or.inr rfl) ⟨fun _ => (onk_s hk).mpr (Or.inl (hon2.mp (hon.resolve_left y))), fun _ => rfl⟩), fun y => ?_⟩
      rw [ea, ew, e118, e139]
      refine ⟨by omega, by omega, by omega, by omega, fun x => b208_188_188_4 (nx 0 (Or.inl rfl) ⟨fun q => absurd q (by decide), fun q => ?_⟩), fun x => b208_188_188_3 (nx 1 (Or.inr rfl) ⟨fun _ => (onk_s hk).mpr (Or.inr (by omega)), fun _ => rfl⟩)⟩
      rcases (onk_s hk).mp q with w | w
      · exact absurd (hon2.mpr w) (by omega)
      · exfalso; omega
    refine b208_188_188_1 ⟨o0, by omega, fun z => absurd z (by omega), fun _ => w202 (V := V) hM174 ?_⟩
    rw [if_neg hn, ew, e17, es, e116]
    refine ⟨fun z => absurd rfl z, fun _ => ⟨by omega, by omega, fun z => go x7 σ h7 hF h139 (fun r t r0 r1 => ?_), fun z => ⟨by omega, by omega, by omega, by omega, fun y => go x7 σ h7 hF h139 (fun r t r0 r1 => ?_), fun y => ⟨by omega, by omega, by omega, by omega, fun σ1 f1 => ?_⟩⟩⟩⟩
    · rw [hB r t r0 r1, rk_s hk]
      constructor
      · exact fun q => q.elim Or.inl (fun w => Or.inr (Or.inl w))
      · rintro (q | q | ⟨q, _⟩)
        · exact Or.inl q
        · exact Or.inr q
        · exact absurd (hon2.mpr q) (by omega)
    · rw [rk_s hk]
      have h0 := hB r t r0 r1
      constructor
      · intro q
        exact (h0.mp q).elim Or.inl (fun w => Or.inr (Or.inl w))
      · rintro (q | q | ⟨_, q1, q2⟩)
        · exact h0.mpr (Or.inl q)
        · exact h0.mpr (Or.inr q)
        · rw [← q1]; omega
    · refine go 1 σ1 (Or.inr rfl) (fun k hk => by rw [f1, up_k hk]; exact hF k hk) (fun j hj => by rw [f1, up_i (by omega)]; exact h139 j hj) (fun r t r0 r1 => ?_)
      rw [rk_s hk]
      have h0 := hB r t r0 r1
      by_cases e : r = V 17 (8 * o + i)
      · subst e
        rw [f1, up_same]
        constructor
        · intro q
          exact Or.inr (Or.inr ⟨hon2.mp (hon.resolve_left z), rfl, q⟩)
        · rintro (q | q | ⟨_, _, q2⟩)
          · have := h0.mpr (Or.inl q); omega
          · have := h0.mpr (Or.inr q); omega
          · exact q2
      · rw [f1, up_i (by omega)]
        constructor
        · intro q
          exact (h0.mp q).elim Or.inl (fun w => Or.inr (Or.inl w))
        · rintro (q | q | ⟨_, q1, q2⟩)
          · exact h0.mpr (Or.inl q)
          · exact h0.mpr (Or.inr q)
          · exact absurd q1.symm e
theorem w208_188_188 {K : Int → dS → Prop} {o a b : Int} (hc : cityOK V) (hs : skyOK V 109) (hM : MN S V) (o0 : 0 ≤ o) (o1 : o < V 5 2) (a0 : 0 ≤ a) (a1 : a + 10 ≤ 400) (b0 : 0 ≤ b) (b1 : b + 10 ≤ 400) (ab : (188 : Nat) = 188 → a + 10 ≤ b) (hq : ∀ v σ', (∀ k, k ≠ 188 → σ' k = S k) → (∀ j, ¬ (b ≤ j ∧ j < b + 10) → σ' 188 j = S 188 j) → (∀ r t, 0 ≤ r → r < V 5 0 → (σ' 188 (b + r) ≤ t ↔ S 188 (b + r) ≤ t ∨ rdV V o (fun r => S 188 (a + r)) r t)) → K v σ') : wI (d + 4) 208 [.inr (.inr 153), .inl o, .inr (.inr 188), .inl a, .inr (.inr 188), .inl b] S Q K := by
  have hO := hc.2.1
  have kb := hc.2.2.2.2.2.1 o o0 o1
  have mo := hM.1.2.2.2.2.2.2.1 o o0 o1
  refine c208_188_188 (b208_188_188_0 ?_)
  by_cases z : nestb V 109 o
  · have fin : (∀ r t, 0 ≤ r → r < V 5 0 → (S 188 (b + r) ≤ t ↔ S 188 (b + r) ≤ t ∨ rdV V o (fun r => S 188 (a + r)) r t)) := fun r t _ _ => ⟨Or.inl, fun q => q.elim id (fun w => absurd w (rd_nest z))⟩
    refine b208_188_188_1 ⟨o0, by omega, fun _ => b208_188_188_6 ⟨Or.inl rfl, hq 0 S (fun _ _ => rfl) (fun _ _ => rfl) fin⟩, fun _ => w202 (V := V) hM.2.1.2.2.2.1 ?_⟩
    rw [if_pos z]
    exact ⟨fun _ => b208_188_188_6 ⟨Or.inl rfl, hq 0 S (fun _ _ => rfl) (fun _ _ => rfl) fin⟩, fun q => absurd (by decide) q⟩
  · exact l208_188_188 hc hs hM o0 o1 a0 a1 b0 b1 ab hq z (V 15 o).toNat 0 0 0 S (by omega) (by omega) (Or.inl rfl) (Or.inl rfl) ⟨fun q => absurd q (by decide), fun q => absurd q onk_0⟩ (fun _ _ => rfl) (fun _ _ => rfl) (fun r t _ _ => ⟨Or.inl, fun q => q.elim id (fun w => absurd w rk_0)⟩)
def CHL (V : dS) (p f : Int) (R : Int → Int) (s : Int) : Prop := ∀ r t, 0 ≤ r → r < V 5 0 → t ≤ 2000 → (R r ≤ t ↔ ∃ ws, cst V f ws ≤ s ∧ Rc V p ws r t)
theorem CHL_0 {f : Int} (hc : cityOK V) (p0 : 0 ≤ p) (p1 : p < V 5 3) {R : Int → Int} (h : ∀ r, 0 ≤ r → r < V 5 0 → R r = if r = V 19 p then V 23 p else 1000000) : CHL V p f R 0 := by
  intro r t r0 r1 t2
  rw [h r r0 r1]
  constructor
  · intro q
    by_cases z : r = V 19 p
    · rw [if_pos z] at q
      exact ⟨[], Int.le_refl _, z, q⟩
    · rw [if_neg z] at q; omega
  · rintro ⟨ws, w1, w2⟩
    cases ws with
    | nil => rw [if_pos w2.1]; exact w2.2
    | cons o ws =>
      have := cst_r (f := f) hc _ (Rc_in _ w2)
      rw [List.length_cons] at this
      omega
/-- one more owl, or one more fare -/
theorem CHL_s {f s : Int} (hc : cityOK V) (hs : skyOK V 109) (s0 : 0 ≤ s) {R : Int → Int} {A : Int → Int → Int} (hA : ∀ o, 0 ≤ o → o < V 5 2 → prc V f o ≤ s + 1 → CHL V p f (A o) (s + 1 - prc V f o)) {R0 : Int → Int} (hR0 : CHL V p f R0 s) (hR : ∀ r t, 0 ≤ r → r < V 5 0 → (R r ≤ t ↔ R0 r ≤ t ∨ ∃ o, 0 ≤ o ∧ o < V 5 2 ∧ prc V f o ≤ s + 1 ∧ rdV V o (A o) r t)) : CHL V p f R (s + 1) := by
  intro r t r0 r1 t2
  rw [hR r t r0 r1]
  constructor
  · rintro (q | ⟨o, o0, o1, q1, i, j, a, b, c', e, g, k⟩)
    · obtain ⟨ws, w1, w2⟩ := (hR0 r t r0 r1 t2).mp q
      exact ⟨ws, by omega, w2⟩
    · have kb := (hc.2.2.2.2.2.1 o o0 o1).2.2.1 i a.2.2.2.1 a.2.2.2.2
      have l5 := (FN_r (FN_F hc hs) a).2.2
      obtain ⟨ws, w1, w2⟩ := (hA o o0 o1 q1 (V 17 (8 * o + i)) (NF V 109 5 (8 * o + i)) kb.1 kb.2 l5).mp e
      exact ⟨o :: ws, by rw [cst]; omega, i, j, a, b, c', w2, g, k⟩
  · rintro ⟨ws, w1, w2⟩
    by_cases z : cst V f ws ≤ s
    · exact Or.inl ((hR0 r t r0 r1 t2).mpr ⟨ws, z, w2⟩)
    · right
      cases ws with
      | nil => rw [cst] at z; omega
      | cons o ws =>
        obtain ⟨i, j, a, b, c', e, g, k⟩ := w2
        have o0 := a.1
        have o1 := a.2.1
        have cr := cst_r (f := f) hc ws (Rc_in _ e)
        have kb := (hc.2.2.2.2.2.1 o o0 o1).2.2.1 i a.2.2.2.1 a.2.2.2.2
        have l5 := (FN_r (FN_F hc hs) a).2.2
        rw [cst] at w1
        have hpo : prc V f o ≤ s + 1 := by omega
        refine ⟨o, o0, o1, hpo, i, j, a, b, c', ?_, g, k⟩
        exact (hA o o0 o1 hpo (V 17 (8 * o + i)) (NF V 109 5 (8 * o + i)) kb.1 kb.2 l5).mpr ⟨ws, by omega, e⟩
theorem CHL_home {f s : Int} (hc : cityOK V) (p0 : 0 ≤ p) (p1 : p < V 5 3) {R : Int → Int} (h : CHL V p f R s) (h0 : ∀ m, 0 ≤ m → m < s → ¬ HB V p f m) : (R (V 21 p) ≤ V 5 4 ↔ HB V p f s) := by
  have hp := hc.2.2.2.2.2.2.1 p p0 p1
  have hD := hc.2.2.2.1
  rw [h (V 21 p) (V 5 4) hp.2.1.1 hp.2.1.2 (by omega)]
  constructor
  · rintro ⟨ws, w1, w2⟩
    have := cst_r (f := f) hc ws (Rc_in _ w2)
    by_cases z : cst V f ws < s
    · exact absurd ⟨ws, rfl, w2⟩ (h0 _ (by omega) z)
    · exact ⟨ws, by omega, w2⟩
  · rintro ⟨ws, w1, w2⟩
    exact ⟨ws, by omega, w2⟩
theorem l234_3 {x2 : Int} (hc : cityOK V) (hs : skyOK V 109) (hM : MN S V) (hq : ∀ σ', (∀ k, k ≠ 186 → σ' k = S k) → (∀ r t, 0 ≤ r → r < V 5 0 → (σ' 186 r ≤ t ↔ S 186 r ≤ t ∨ ∃ o, 0 ≤ o ∧ o < V 5 2 ∧ rdV V o (S 187) r t)) → B234_4 (d + 3) Q p x2 σ') : ∀ (c : Nat) (x : Int) (σ : dS), 0 ≤ x → x + c = V 5 2 → (∀ k, k ≠ 186 → σ k = S k) → (∀ r t, 0 ≤ r → r < V 5 0 → (σ 186 r ≤ t ↔ S 186 r ≤ t ∨ ∃ o, 0 ≤ o ∧ o < x ∧ rdV V o (S 187) r t)) → B234_3 (d + 3) Q p x2 x σ
  | 0, x, σ, x0, hx, hF, hB => by
    have e3 : σ 153 3 = V 5 2 := by rw [hF 153 (by decide)]; exact hM.1.2.1
    have ex : x = V 5 2 := by omega
    subst ex
    exact b234_3 ⟨fun _ => hq σ hF hB, fun z => absurd (by omega) z⟩
  | c + 1, x, σ, x0, hx, hF, hB => by
    have hO := hc.2.1
    have e3 : σ 153 3 = V 5 2 := by rw [hF 153 (by decide)]; exact hM.1.2.1
    refine b234_3 ⟨fun z => absurd z (by omega), fun _ => w208_187_186 (a := 0) (b := 0) hc hs (MN_6 hF hM) x0 (by omega) (by decide) (by decide) (by decide) (by decide) (fun e => absurd e (by decide)) (fun v σ1 g1 g2 g3 => ?_)⟩
    rw [wr_id (by omega) (by omega)]
    refine l234_3 hc hs hM hq c (x + 1) σ1 (by omega) (by omega) (fun k hk => by rw [g1 k hk]; exact hF k hk) (fun r t r0 r1 => ?_)
    have h3 := g3 r t r0 r1
    rw [Int.zero_add] at h3
    rw [h3, hB r t r0 r1]
    have eA : rdV V x (fun r => σ 187 (0 + r)) r t ↔ rdV V x (S 187) r t := by
      have : (fun r => σ 187 (0 + r)) = S 187 := by
        funext r; rw [Int.zero_add, hF 187 (by decide)]
      rw [this]
    rw [eA]
    constructor
    · rintro ((q | ⟨o, q0, q1, q2⟩) | q)
      · exact Or.inl q
      · exact Or.inr ⟨o, q0, by omega, q2⟩
      · exact Or.inr ⟨x, x0, by omega, q⟩
    · rintro (q | ⟨o, q0, q1, q2⟩)
      · exact Or.inl (Or.inl q)
      · by_cases e : o = x
        · subst e; exact Or.inr q2
        · exact Or.inl (Or.inr ⟨o, q0, by omega, q2⟩)
theorem l234_1 {S0 : dS} (hc : cityOK V) (hs : skyOK V 109) (hM : MN S0 V) (p0 : 0 ≤ p) (p1 : p < V 5 3) (hq : ∀ σ', (∀ k, k ≠ 186 → k ≠ 187 → σ' k = S0 k) → (-1 ≤ fwV V p 0 ∧ fwV V p 0 ≤ 15) → Q (.inl (some (.inl (fwV V p 0)))) σ') : ∀ (c : Nat) (n : Int) (S : dS), 0 ≤ n → n + c = 11 → (∀ k, k ≠ 186 → k ≠ 187 → S k = S0 k) → CHL V p 0 (S 186) n → (∀ m, 0 ≤ m → m < n → ¬ HB V p 0 m) → B234_1 (d + 3) Q p n S
  | 0, n, S, n0, hn, hF, h1, h3 => by
    have e : fwV V p 0 = -1 := fw_no (n := 0) hc hs (fun m m0 m1 => h3 m m0 (by rw [if_pos rfl] at m1; omega))
    have := hq S hF (by omega)
    rw [e] at this
    exact b234_1 ⟨fun _ => b234_5 this, fun z => absurd (by omega) z⟩
  | c + 1, n, S, n0, hn, hF, h1, h3 => by
    have hO := hc.2.1
    have hRo := hc.1
    have hp := hc.2.2.2.2.2.2.1 p p0 p1
    have hM1 : MN S V := MN_k (fun k q1 q2 => hF k (by omega) (by omega)) hM
    have e6 : S 153 6 = V 5 4 := hM1.1.2.2.2.2.1
    have hb := CHL_home hc p0 p1 h1 h3
    refine b234_1 ⟨fun z => absurd z (by omega), fun _ => w210 hc hM1.1 p0 p1 ⟨hp.2.1.1, by omega, ?_⟩⟩
    rw [e6]
    refine ⟨fun z => b234_2 (w161 (n := 10) (n2 := 10) (by decide) (by decide) (by decide) (by decide) ?_), fun z => ?_⟩
    · have hM2 : MN (rcopy S 187 10 186 10 0) V := MN_k (fun k q1 q2 => rcopy_k (by omega)) hM1
      refine l234_3 hc hs hM2 (fun σ1 g1 g2 => b234_4 ?_) (V 5 2).toNat 0 _ (by omega) (by omega) (fun _ _ => rfl) (fun r t _ _ => ⟨Or.inl, fun q => q.elim id (fun ⟨o, a, b, _⟩ => absurd a (by omega))⟩)
      rw [wr_id (by omega) (by omega)]
      refine l234_1 hc hs hM p0 p1 hq c (n + 1) σ1 (by omega) (by omega) (fun k q1 q2 => by rw [g1 k q1, rcopy_k q2]; exact hF k q1 q2) ?_ (fun m m0 m1 => ?_)
      · refine CHL_s (A := fun _ => S 186) hc hs n0 (fun o o0 o1 _ => ?_) h1 (fun r t r0 r1 => ?_)
        · have : n + 1 - prc V 0 o = n := by unfold prc; rw [if_pos rfl]; omega
          rw [this]; exact h1
        · rw [g2 r t r0 r1]
          have e186 : rcopy S 187 10 186 10 0 186 = S 186 := rcopy_k (by decide)
          have eA : ∀ o, 0 ≤ o → o < V 5 2 → (rdV V o (rcopy S 187 10 186 10 0 187) r t ↔ rdV V o (S 186) r t) := by
            intro o o0 o1
            have ee : ∀ i, okc V o i → rcopy S 187 10 186 10 0 187 (V 17 (8 * o + i)) = S 186 (V 17 (8 * o + i)) := by
              intro i hi
              have := (hc.2.2.2.2.2.1 o o0 o1).2.2.1 i hi.2.2.2.1 hi.2.2.2.2
              exact rcopy_in (by omega) (by omega) (by omega)
            constructor
            · rintro ⟨i, j, a, b, c, e, g⟩
              exact ⟨i, j, a, b, c, by rw [← ee i a]; exact e, g⟩
            · rintro ⟨i, j, a, b, c, e, g⟩
              exact ⟨i, j, a, b, c, by rw [ee i a]; exact e, g⟩
          rw [e186]
          constructor
          · rintro (q | ⟨o, o0, o1, q⟩)
            · exact Or.inl q
            · exact Or.inr ⟨o, o0, o1, by unfold prc; rw [if_pos rfl]; omega, (eA o o0 o1).mp q⟩
          · rintro (q | ⟨o, o0, o1, _, q⟩)
            · exact Or.inl q
            · exact Or.inr ⟨o, o0, o1, (eA o o0 o1).mpr q⟩
      · by_cases e : m = n
        · subst e
          exact fun q => absurd (hb.mpr q) (by omega)
        · exact h3 m m0 (by omega)
    · have e : fwV V p 0 = n := fw_yes hc (hb.mp (by omega)) h3
      have := hq S hF (by omega)
      rw [e] at this
      exact this
theorem w234 {K : Int → dS → Prop} (hc : cityOK V) (hs : skyOK V 109) (hM : MN S V) (p0 : 0 ≤ p) (p1 : p < V 5 3) (hq : ∀ σ', (∀ k, k ≠ 186 → k ≠ 187 → σ' k = S k) → (-1 ≤ fwV V p 0 ∧ fwV V p 0 ≤ 15) → K (fwV V p 0) σ') : wI (d + 5) 234 [.inr (.inr 153), .inl p] S Q K := by
  have hRo := hc.1
  refine c234 (b234_0 (w207 hc hM.1 p0 p1 (fun σ1 g1 g2 => ?_)))
  exact l234_1 (S0 := S) hc hs hM p0 p1 hq 11 0 σ1 (by omega) (by omega) (fun k q1 _ => g1 k q1) (CHL_0 hc p0 p1 (fun r r0 r1 => g2 r r0 (by omega))) (fun m m0 m1 => absurd m1 (by omega))
abbrev fml (k : Nat) : Prop := k = 186 ∨ k = 187 ∨ k = 188
theorem m_changes {K : Int → dS → Prop} (hI : INV σ) (h1 : 0 ≤ p → p < σ 5 3 → ∀ σ', FRM σ σ' → σ' 153 0 = 0 → K (if fwV (nrm σ 70) p 0 ≤ 0 then fwV (nrm σ 70) p 0 else fwV (nrm σ 70) p 0 - 1) σ') (h2 : ¬ (0 ≤ p ∧ p < σ 5 3) → ∀ σ', FRM σ σ' → σ' 153 0 = 1 → K 0 σ') : wI (d + 9) 235 [.inr (.inr 153), .inl p] σ Q K := by
  have e5' : nrm σ 70 5 = σ 5 := nrm_c (k := 5) (by decide)
  refine c235 (b235_0 ?_)
  intro σ1 f1
  obtain ⟨hT, hF1, hI1, en, e5, e1, e3, e4⟩ := m_begin hI f1
  refine w217 hT (fun p0 p1 => ⟨fun _ => b235_1 ?_, fun q => absurd (by decide) q⟩) (fun z => ⟨fun q => absurd rfl q, fun _ => h2 (by rw [e4] at z; exact z) _ (FRM_tr hF1 FRM_153) (up_same _ _ _ _)⟩)
  rw [e4] at p1
  refine v205 hI1 (fun σ2 g1 g2 g3 => ?_)
  rw [en] at g3
  refine w234 (INV_vc hI) (INV_vs hI) g3 p0 (by rw [e5']; exact p1) (fun σ3 g4 g5 => ?_)
  have F3 : FRM σ σ3 := FRM_tr (FRM_tr hF1 g1) (FRM_m (fun k hk _ => g4 k (by omega) (by omega)) (fun j _ => by rw [g4 153 (by decide) (by decide)]))
  have hh := h1 p0 p1 σ3 F3 (by rw [g4 153 (by decide) (by decide), g2 153 (by decide)]; exact hT)
  refine ⟨fun z => b235_2 (b235_3 ?_), fun z => b235_3 ?_⟩
  · rw [if_pos z] at hh; exact hh
  · rw [if_neg z] at hh
    rw [wr_id (by omega) (by omega)]; exact hh
/-! cheapest -/
theorem l236_9 {n : Int} (hc : cityOK V) (hs : skyOK V 109) (hM : MN S V) (n0 : 0 ≤ n) (n1 : n < 39) (hq : ∀ σ', (∀ k, k ≠ 188 → σ' k = S k) → (∀ j, ¬ (10 * n + 10 ≤ j ∧ j < 10 * n + 20) → σ' 188 j = S 188 j) → (∀ r t, 0 ≤ r → r < V 5 0 → (σ' 188 (10 * n + 10 + r) ≤ t ↔ S 188 (10 * n + 10 + r) ≤ t ∨ ∃ o, 0 ≤ o ∧ o < V 5 2 ∧ V 11 o ≤ n ∧ rdV V o (fun r => S 188 (10 * (n - V 11 o) + r)) r t)) → B236_11 (d + 3) Q p n σ') : ∀ (c : Nat) (x : Int) (σ : dS), 0 ≤ x → x + c = V 5 2 → (∀ k, k ≠ 188 → σ k = S k) → (∀ j, ¬ (10 * n + 10 ≤ j ∧ j < 10 * n + 20) → σ 188 j = S 188 j) → (∀ r t, 0 ≤ r → r < V 5 0 → (σ 188 (10 * n + 10 + r) ≤ t ↔ S 188 (10 * n + 10 + r) ≤ t ∨ ∃ o, 0 ≤ o ∧ o < x ∧ V 11 o ≤ n ∧ rdV V o (fun r => S 188 (10 * (n - V 11 o) + r)) r t)) → B236_9 (d + 3) Q p n x σ
  | 0, x, σ, x0, hx, hF, h188, hB => by
    have e3 : σ 153 3 = V 5 2 := by rw [hF 153 (by decide)]; exact hM.1.2.1
    have ex : x = V 5 2 := by omega
    subst ex
    exact b236_9 ⟨fun _ => hq σ hF h188 hB, fun z => absurd (by omega) z⟩
  | c + 1, x, σ, x0, hx, hF, h188, hB => by
    have hO := hc.2.1
    have hRo := hc.1
    have kb := hc.2.2.2.2.2.1 x x0 (by omega)
    have e3 : σ 153 3 = V 5 2 := by rw [hF 153 (by decide)]; exact hM.1.2.1
    have e155 : σ 155 x = V 11 x := by rw [hF 155 (by decide)]; exact (hM.1.2.2.2.2.2.2.1 x x0 (by omega)).1
    have nx : ∀ σ1, (∀ k, k ≠ 188 → σ1 k = S k) → (∀ j, ¬ (10 * n + 10 ≤ j ∧ j < 10 * n + 20) → σ1 188 j = S 188 j) → (∀ r t, 0 ≤ r → r < V 5 0 → (σ1 188 (10 * n + 10 + r) ≤ t ↔ S 188 (10 * n + 10 + r) ≤ t ∨ ∃ o, 0 ≤ o ∧ o < x + 1 ∧ V 11 o ≤ n ∧ rdV V o (fun r => S 188 (10 * (n - V 11 o) + r)) r t)) → B236_10 (d + 3) Q p n x σ1 := by
      intro σ1 g1 g2 g3
      refine b236_10 ?_
      rw [wr_id (by omega) (by omega)]
      exact l236_9 hc hs hM n0 n1 hq c (x + 1) σ1 (by omega) (by omega) g1 g2 g3
    refine b236_9 ⟨fun z => absurd z (by omega), fun _ => ⟨x0, by omega, ?_⟩⟩
    rw [e155]
    refine ⟨fun z => nx σ hF h188 (fun r t r0 r1 => ?_), fun z => ⟨x0, by omega, ?_⟩⟩
    · rw [hB r t r0 r1]
      constructor
      · rintro (q | ⟨o, q0, q1, q2, q3⟩)
        · exact Or.inl q
        · exact Or.inr ⟨o, q0, by omega, q2, q3⟩
      · rintro (q | ⟨o, q0, q1, q2, q3⟩)
        · exact Or.inl q
        · have : o ≠ x := by rintro rfl; omega
          exact Or.inr ⟨o, q0, by omega, q2, q3⟩
    · have w1 : wr (10 * wr (n - V 11 x)) = 10 * (n - V 11 x) := by rw [wr_id (x := n - V 11 x) (by omega) (by omega), wr_id (by omega) (by omega)]
      have w2 : wr (wr (10 * n) + 10) = 10 * n + 10 := by rw [wr_id (x := 10 * n) (by omega) (by omega), wr_id (by omega) (by omega)]
      rw [w1, w2]
      have hM' : MN σ V := MN_k (fun k q1 q2 => hF k (by omega)) hM
      refine w208_188_188 hc hs hM' x0 (by omega) (by omega) (by omega) (by omega) (by omega) (fun _ => by omega) (fun v σ1 g1 g2 g3 => nx σ1 (fun k hk => by rw [g1 k hk]; exact hF k hk) (fun j hj => by rw [g2 j (by omega)]; exact h188 j hj) (fun r t r0 r1 => ?_))
      rw [g3 r t r0 r1, hB r t r0 r1]
      have eA : rdV V x (fun r => σ 188 (10 * (n - V 11 x) + r)) r t ↔ rdV V x (fun r => S 188 (10 * (n - V 11 x) + r)) r t := by
        have ee : ∀ i, okc V x i → σ 188 (10 * (n - V 11 x) + V 17 (8 * x + i)) = S 188 (10 * (n - V 11 x) + V 17 (8 * x + i)) := by
          intro i hi
          have := kb.2.2.1 i hi.2.2.2.1 hi.2.2.2.2
          exact h188 _ (by omega)
        constructor
        · rintro ⟨i, j, a, b, c, e, g⟩
          exact ⟨i, j, a, b, c, by show S 188 (10 * (n - V 11 x) + V 17 (8 * x + i)) ≤ _; rw [← ee i a]; exact e, g⟩
        · rintro ⟨i, j, a, b, c, e, g⟩
          exact ⟨i, j, a, b, c, by show σ 188 (10 * (n - V 11 x) + V 17 (8 * x + i)) ≤ _; rw [ee i a]; exact e, g⟩
      rw [eA]
      constructor
      · rintro ((q | ⟨o, q0, q1, q2, q3⟩) | q)
        · exact Or.inl q
        · exact Or.inr ⟨o, q0, by omega, q2, q3⟩
        · exact Or.inr ⟨x, x0, by omega, by omega, q⟩
      · rintro (q | ⟨o, q0, q1, q2, q3⟩)
        · exact Or.inl (Or.inl q)
        · by_cases e : o = x
          · subst e; exact Or.inr q3
          · exact Or.inl (Or.inr ⟨o, q0, by omega, q2, q3⟩)
theorem l236_7 {n : Int} (n0 : 0 ≤ n) (n1 : n < 39) (hq : ∀ σ', (∀ k, k ≠ 188 → σ' k = S k) → (∀ j, ¬ (10 * n + 10 ≤ j ∧ j < 10 * n + 20) → σ' 188 j = S 188 j) → (∀ r, 0 ≤ r → r < 10 → σ' 188 (10 * n + 10 + r) = S 188 (10 * n + r)) → B236_8 d Q p n σ') : ∀ (c : Nat) (x : Int) (σ : dS), 0 ≤ x → x + c = 10 → (∀ k, k ≠ 188 → σ k = S k) → (∀ j, ¬ (10 * n + 10 ≤ j ∧ j < 10 * n + 20) → σ 188 j = S 188 j) → (∀ r, 0 ≤ r → r < x → σ 188 (10 * n + 10 + r) = S 188 (10 * n + r)) → B236_7 d Q p n x σ
  | 0, x, σ, x0, hx, hF, h188, hB => b236_7 ⟨fun _ => hq σ hF h188 (fun r r0 r1 => hB r r0 (by omega)), fun z => absurd (by omega) z⟩
  | c + 1, x, σ, x0, hx, hF, h188, hB => by
    refine b236_7 ⟨fun z => absurd z (by omega), fun _ => ?_⟩
    have w2 : wr (wr (wr (10 * n) + 10) + x) = 10 * n + 10 + x := by rw [wr_id (x := 10 * n) (by omega) (by omega), wr_id (x := 10 * n + 10) (by omega) (by omega), wr_id (by omega) (by omega)]
    have w1 : wr (wr (10 * n) + x) = 10 * n + x := by rw [wr_id (x := 10 * n) (by omega) (by omega), wr_id (by omega) (by omega)]
    rw [w1, w2, wr_id (x := x + 1) (by omega) (by omega)]
    refine ⟨by omega, by omega, by omega, by omega, fun σ1 f1 => ?_⟩
    refine l236_7 n0 n1 hq c (x + 1) σ1 (by omega) (by omega) (fun k hk => by rw [f1, up_k hk]; exact hF k hk) (fun j hj => by rw [f1, up_i (by omega)]; exact h188 j hj) (fun r r0 r1 => ?_)
    rw [f1]
    by_cases e : r = x
    · subst e; rw [up_same]; exact h188 _ (by omega)
    · rw [up_i (by omega)]; exact hB r r0 (by omega)
theorem l236_4 {S0 : dS} (hc : cityOK V) (hs : skyOK V 109) (hM : MN S0 V) (p0 : 0 ≤ p) (p1 : p < V 5 3) (hq : ∀ σ', (∀ k, k ≠ 188 → σ' k = S0 k) → Q (.inl (some (.inl (fwV V p 1)))) σ') : ∀ (c : Nat) (n : Int) (S : dS), 0 ≤ n → n + c = 39 → (∀ k, k ≠ 188 → S k = S0 k) → (∀ m, 0 ≤ m → m ≤ n → CHL V p 1 (fun r => S 188 (10 * m + r)) m) → (∀ m, 0 ≤ m → m < n → ¬ HB V p 1 m) → B236_4 (d + 3) Q p n S
  | c, n, S, n0, hn, hF, h1, h3 => by
    have hO := hc.2.1
    have hRo := hc.1
    have hp := hc.2.2.2.2.2.2.1 p p0 p1
    have hM1 : MN S V := MN_k (fun k q1 q2 => hF k (by omega)) hM
    have e6 : S 153 6 = V 5 4 := hM1.1.2.2.2.2.1
    have hb := CHL_home hc p0 p1 (h1 n n0 (Int.le_refl _)) h3
    have w1 : wr (wr (10 * n) + V 21 p) = 10 * n + V 21 p := by rw [wr_id (x := 10 * n) (by omega) (by omega), wr_id (by omega) (by omega)]
    refine b236_4 ⟨fun z => absurd z (by omega), fun _ => w210 hc hM1.1 p0 p1 ?_⟩
    rw [w1, e6]
    refine ⟨by omega, by omega, fun z => b236_5 ⟨fun y => b236_6 ?_, fun y => ?_⟩, fun z => ?_⟩
    · match c, hn with
      | 0, hn => exact absurd hn (by omega)
      | c + 1, hn =>
        refine l236_7 n0 (by omega) (fun σ1 g1 g2 g3 => b236_8 ?_) 10 0 S (by omega) (by omega) (fun _ _ => rfl) (fun _ _ => rfl) (fun r r0 r1 => absurd r1 (by omega))
        have hM2 : MN σ1 V := MN_k (fun k q1 q2 => g1 k (by omega)) hM1
        refine l236_9 hc hs hM2 n0 (by omega) (fun σ2 g4 g5 g6 => b236_11 ?_) (V 5 2).toNat 0 σ1 (by omega) (by omega) (fun _ _ => rfl) (fun _ _ => rfl) (fun r t _ _ => ⟨Or.inl, fun q => q.elim id (fun ⟨o, a, b, _⟩ => absurd a (by omega))⟩)
        have old : ∀ j, ¬ (10 * n + 10 ≤ j ∧ j < 10 * n + 20) → σ2 188 j = S 188 j := fun j hj => by rw [g5 j hj, g2 j hj]
        rw [wr_id (by omega) (by omega)]
        refine l236_4 hc hs hM p0 p1 hq c (n + 1) σ2 (by omega) (by omega) (fun k hk => by rw [g4 k hk, g1 k hk]; exact hF k hk) (fun m m0 m1 => ?_) (fun m m0 m1 => ?_)
        · by_cases e : m = n + 1
          · subst e
            refine CHL_s (R0 := fun r => S 188 (10 * n + r)) (A := fun o r => S 188 (10 * (n - V 11 o) + r)) hc hs n0 (fun o o0 o1 hpo => ?_) (h1 n n0 (Int.le_refl _)) (fun r t r0 r1 => ?_)
            · have kd := (hc.2.2.2.2.2.1 o o0 o1).1
              have epr : prc V 1 o = V 11 o + 1 := by unfold prc; rw [if_neg (by decide)]
              rw [epr] at hpo ⊢
              have : n + 1 - (V 11 o + 1) = n - V 11 o := by omega
              rw [this]
              exact h1 (n - V 11 o) (by omega) (by omega)
            · have h6 := g6 r t r0 r1
              have er : 10 * (n + 1) + r = 10 * n + 10 + r := by omega
              show σ2 188 (10 * (n + 1) + r) ≤ t ↔ _
              rw [er, h6, g3 r r0 (by omega)]
              have eA : ∀ o, 0 ≤ o → o < V 5 2 → (rdV V o (fun r => σ1 188 (10 * (n - V 11 o) + r)) r t ↔ rdV V o (fun r => S 188 (10 * (n - V 11 o) + r)) r t) := by
                intro o o0 o1
                have kb := hc.2.2.2.2.2.1 o o0 o1
                have ee : ∀ i, okc V o i → σ1 188 (10 * (n - V 11 o) + V 17 (8 * o + i)) = S 188 (10 * (n - V 11 o) + V 17 (8 * o + i)) := by
                  intro i hi
                  have := kb.2.2.1 i hi.2.2.2.1 hi.2.2.2.2
                  exact g2 _ (by omega)
                constructor
                · rintro ⟨i, j, a, b, c, e, g⟩
                  exact ⟨i, j, a, b, c, by show S 188 (10 * (n - V 11 o) + V 17 (8 * o + i)) ≤ _; rw [← ee i a]; exact e, g⟩
                · rintro ⟨i, j, a, b, c, e, g⟩
                  exact ⟨i, j, a, b, c, by show σ1 188 (10 * (n - V 11 o) + V 17 (8 * o + i)) ≤ _; rw [ee i a]; exact e, g⟩
              have epr : ∀ o, prc V 1 o = V 11 o + 1 := fun o => by unfold prc; rw [if_neg (by decide)]
              constructor
              · rintro (q | ⟨o, o0, o1, q1, q⟩)
                · exact Or.inl q
                · exact Or.inr ⟨o, o0, o1, by rw [epr]; omega, (eA o o0 o1).mp q⟩
              · rintro (q | ⟨o, o0, o1, q1, q⟩)
                · exact Or.inl q
                · exact Or.inr ⟨o, o0, o1, by rw [epr] at q1; omega, (eA o o0 o1).mpr q⟩
          · intro r t r0 r1 t2
            show σ2 188 (10 * m + r) ≤ t ↔ _
            rw [old _ (by omega)]
            exact h1 m m0 (by omega) r t r0 r1 t2
        · by_cases e : m = n
          · subst e
            exact fun q => absurd (hb.mpr q) (by omega)
          · exact h3 m m0 (by omega)
    · have e : fwV V p 1 = -1 := fw_no (n := 0) hc hs (fun m m0 m1 => h3 m m0 (by rw [if_neg (by decide)] at m1; omega))
      have := hq S hF
      rw [e] at this
      exact this
    · have e : fwV V p 1 = n := fw_yes hc (hb.mp (by omega)) h3
      have := hq S hF
      rw [e] at this
      exact this
theorem l236_2 (hq : ∀ σ', (∀ k, k ≠ 188 → σ' k = S k) → (∀ r, 0 ≤ r → r < 10 → σ' 188 r = S 186 r) → B236_3 d Q p σ') : ∀ (c : Nat) (x : Int) (σ : dS), 0 ≤ x → x + c = 10 → (∀ k, k ≠ 188 → σ k = S k) → (∀ r, 0 ≤ r → r < x → σ 188 r = S 186 r) → B236_2 d Q p x σ
  | 0, x, σ, x0, hx, hF, hB => b236_2 ⟨fun _ => hq σ hF (fun r r0 r1 => hB r r0 (by omega)), fun z => absurd (by omega) z⟩
  | c + 1, x, σ, x0, hx, hF, hB => by
    refine b236_2 ⟨fun z => absurd z (by omega), fun _ => ⟨x0, by omega, x0, by omega, fun σ1 f1 => ?_⟩⟩
    rw [wr_id (by omega) (by omega)]
    refine l236_2 hq c (x + 1) σ1 (by omega) (by omega) (fun k hk => by rw [f1, up_k hk]; exact hF k hk) (fun r r0 r1 => ?_)
    rw [f1]
    by_cases e : r = x
    · subst e; rw [up_same, hF 186 (by decide)]
    · rw [up_i e]; exact hB r r0 (by omega)
theorem m_cheapest {K : Int → dS → Prop} (hI : INV σ) (h1 : 0 ≤ p → p < σ 5 3 → ∀ σ', FRM σ σ' → σ' 153 0 = 0 → K (fwV (nrm σ 70) p 1) σ') (h2 : ¬ (0 ≤ p ∧ p < σ 5 3) → ∀ σ', FRM σ σ' → σ' 153 0 = 1 → K 0 σ') : wI (d + 9) 236 [.inr (.inr 153), .inl p] σ Q K := by
  have e5' : nrm σ 70 5 = σ 5 := nrm_c (k := 5) (by decide)
  have hc := INV_vc hI
  have hRo := hc.1
  refine c236 (b236_0 ?_)
  intro σ1 f1
  obtain ⟨hT, hF1, hI1, en, e5, e1, e3, e4⟩ := m_begin hI f1
  refine w217 hT (fun p0 p1 => ⟨fun _ => b236_1 ?_, fun q => absurd (by decide) q⟩) (fun z => ⟨fun q => absurd rfl q, fun _ => h2 (by rw [e4] at z; exact z) _ (FRM_tr hF1 FRM_153) (up_same _ _ _ _)⟩)
  rw [e4] at p1
  have p1' : p < nrm σ 70 5 3 := by rw [e5']; exact p1
  refine v205 hI1 (fun σ2 g1 g2 g3 => ?_)
  rw [en] at g3
  refine w207 hc g3.1 p0 p1' (fun σ3 g4 g5 => ?_)
  have hM3 := MN_6 g4 g3
  refine l236_2 (fun σ4 g6 g7 => b236_3 ?_) 10 0 σ3 (by omega) (by omega) (fun _ _ => rfl) (fun r r0 r1 => absurd r1 (by omega))
  have hM4 : MN σ4 (nrm σ 70) := MN_k (fun k q1 q2 => g6 k (by omega)) hM3
  refine l236_4 (d := d + 4) (S0 := σ4) hc (INV_vs hI) hM4 p0 p1' (fun σ' g8 => ?_) 39 0 σ4 (by omega) (by omega) (fun _ _ => rfl) (fun m m0 m1 => ?_) (fun m m0 m1 => absurd m1 (by omega))
  · refine h1 p0 p1 σ' (FRM_tr (FRM_tr hF1 g1) (FRM_m (fun k hk _ => by rw [g8 k (by omega), g6 k (by omega), g4 k (by omega)]) (fun j _ => by rw [g8 153 (by decide), g6 153 (by decide), g4 153 (by decide)]))) ?_
    rw [g8 153 (by decide), g6 153 (by decide), g4 153 (by decide), g2 153 (by decide)]; exact hT
  · have em : m = 0 := by omega
    subst em
    refine CHL_0 hc p0 p1' (fun r r0 r1 => ?_)
    show σ4 188 (10 * 0 + r) = _
    rw [show 10 * 0 + r = r by omega, g7 r r0 (by omega), g5 r r0 (by omega)]
end FEWM
