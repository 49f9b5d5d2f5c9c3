/-! fewest, the class -/
def CHR (V : dS) (p f : Int) (R : Int → Int) (s : Int) : Prop := ∀ r t, 0 ≤ r → r < V 5 0 → t ≤ 2000 → (R r ≤ t ↔ ∃ ws, cst V f ws = s ∧ Rc V p ws r t)
section FEWC
variable {d : Nat} {Q : dR → dS → Prop} {σ V S : dS} {p f : Int}
theorem ok_row {s r j : Int} (r0 : 0 ≤ r) (r1 : r < 10) : wr (wr (s * 10) + r) = 10 * s + r ∨ ¬ (0 ≤ s ∧ s ≤ 40) := by
  by_cases z : 0 ≤ s ∧ s ≤ 40
  · left
    rw [wr_id (x := s * 10) (by omega) (by omega), wr_id (by omega) (by omega)]; omega
  · exact Or.inr z
theorem l86 {o a s : Int} (hc : cityOK V) (hs : skyOK V 109) (hV : ∀ k, cty k → S k = V k) (hR : RC S V (NF V 109)) (o0 : 0 ≤ o) (o1 : o < V 5 2) (hn : ¬ nestb V 109 o) (a0 : 0 ≤ a) (as : a < s) (s1 : s ≤ 15) (hq : ∀ σ', (∀ k, k ≠ 139 → σ' k = S k) → (∀ j, ¬ (10 * s ≤ j ∧ j < 10 * s + 10) → σ' 139 j = S 139 j) → (∀ r t, 0 ≤ r → r < V 5 0 → (σ' 139 (10 * s + r) ≤ t ↔ S 139 (10 * s + r) ≤ t ∨ rdV V o (fun r => S 139 (10 * a + r)) r t)) → Q (.inl none) σ') : ∀ (c : Nat) (i on : Int) (σ : dS), 0 ≤ i → i + c = V 15 o → (on = 0 ∨ on = 1) → (on = 1 ↔ onk V o (fun r => S 139 (10 * a + r)) i) → (∀ k, k ≠ 139 → σ k = S k) → (∀ j, ¬ (10 * s ≤ j ∧ j < 10 * s + 10) → σ 139 j = S 139 j) → (∀ r t, 0 ≤ r → r < V 5 0 → (σ 139 (10 * s + r) ≤ t ↔ S 139 (10 * s + r) ≤ t ∨ rkk V o (fun r => S 139 (10 * a + r)) i r t)) → B86_1 d Q o a s on i σ
  | 0, i, on, σ, i0, hi, hon, hon2, hF, h139, hB => by
    have hO := hc.2.1
    have ei : i = V 15 o := by omega
    have e124 : rat σ 124 5 o = V 15 o := by rw [rat_in o0 (by omega), hF 124 (by decide), (hR.2.1 o o0 o1).2, if_neg hn, (NF_done hc hs).2 o o0 o1]
    refine b86_1 ⟨fun _ => b86_6 (hq σ hF h139 (fun r t r0 r1 => ?_)), fun z => absurd (by omega) z⟩
    rw [hB r t r0 r1, ei, rk_all]
  | c + 1, i, on, σ, i0, hi, hon, hon2, hF, h139, hB => by
    have hO := hc.2.1
    have hRo := hc.1
    have kb := hc.2.2.2.2.2.1 o o0 o1
    have e124 : rat σ 124 5 o = V 15 o := by rw [rat_in o0 (by omega), hF 124 (by decide), (hR.2.1 o o0 o1).2, if_neg hn, (NF_done hc hs).2 o o0 o1]
    have ew : wr (wr (o * 8) + i) = 8 * o + i := by rw [wr_id (x := o * 8) (by omega) (by omega), wr_id (by omega) (by omega)]; omega
    have hk : okc V o i := ⟨o0, o1, hn, i0, by omega⟩
    have cl := hR.2.2.1 o i o0 o1 hn i0 (by rw [(NF_done hc hs).2 o o0 o1]; omega)
    have rr := kb.2.2.1 i i0 (by omega)
    have e17 : rat σ 17 40 (8 * o + i) = V 17 (8 * o + i) := by rw [rat_in (by omega) (by omega), hF 17 (by decide), hV 17 (by decide)]
    have e116 : rat σ 116 40 (8 * o + i) = NF V 109 4 (8 * o + i) := by rw [rat_in (by omega) (by omega), hF 116 (by decide), cl.1]
    have es : wr (wr (s * 10) + V 17 (8 * o + i)) = 10 * s + V 17 (8 * o + i) := by rw [wr_id (x := s * 10) (by omega) (by omega), wr_id (by omega) (by omega)]; omega
    have ea : wr (wr (a * 10) + V 17 (8 * o + i)) = 10 * a + V 17 (8 * o + i) := by rw [wr_id (x := a * 10) (by omega) (by omega), wr_id (by omega) (by omega)]; omega
    have go : ∀ σ1 : dS, (∀ k, k ≠ 139 → σ1 k = S k) → (∀ j, ¬ (10 * s ≤ j ∧ j < 10 * s + 10) → σ1 139 j = S 139 j) → (∀ r t, 0 ≤ r → r < V 5 0 → (σ1 139 (10 * s + r) ≤ t ↔ S 139 (10 * s + r) ≤ t ∨ rkk V o (fun r => S 139 (10 * a + r)) (i + 1) r t)) → B86_2 d Q o a s on i (8 * o + i) (V 17 (8 * o + i)) σ1 := by
      intro σ1 g1 g2 g3
      have nx : ∀ v, (v = 0 ∨ v = 1) → (v = 1 ↔ onk V o (fun r => S 139 (10 * a + r)) (i + 1)) → B86_5 d Q o a s i v σ1 := by
        intro v hv hv2
        refine b86_5 ?_
        rw [wr_id (by omega) (by omega)]
        exact l86 hc hs hV hR o0 o1 hn a0 as s1 hq c (i + 1) v σ1 (by omega) (by omega) hv hv2 g1 g2 g3
      have e118 : rat σ1 118 40 (8 * o + i) = NF V 109 5 (8 * o + i) := by rw [rat_in (by omega) (by omega), g1 118 (by decide), cl.2]
      have e139 : rat σ1 139 160 (10 * a + V 17 (8 * o + i)) = S 139 (10 * a + V 17 (8 * o + i)) := by rw [rat_in (by omega) (by omega), g2 _ (by omega)]
      refine b86_2 ⟨fun y => b86_3 (nx 1 (Or.inr rfl) ⟨fun _ => (onk_s hk).mpr (Or.inl (hon2.mp (hon.resolve_left y))), fun _ => rfl⟩), fun y => ?_⟩
      rw [ea, e118, e139]
      refine ⟨fun x => b86_4 (nx 0 (Or.inl rfl) ⟨fun q => absurd q (by decide), fun q => ?_⟩), fun x => b86_3 (nx 1 (Or.inr rfl) ⟨fun _ => (onk_s hk).mpr (Or.inr (by omega)), fun _ => rfl⟩)⟩
      rcases (onk_s hk).mp q with w | w
      · exact absurd (hon2.mpr w) (by omega)
      · exfalso; omega
    refine b86_1 ⟨fun z => absurd z (by omega), fun _ => ?_⟩
    rw [ew, e17, es, e116]
    have e139s : rat σ 139 160 (10 * s + V 17 (8 * o + i)) = σ 139 (10 * s + V 17 (8 * o + i)) := rat_in (by omega) (by omega)
    rw [e139s]
    refine ⟨fun z => go σ hF h139 (fun r t r0 r1 => ?_), fun z => ⟨fun y => go σ hF h139 (fun r t r0 r1 => ?_), fun y σ1 f1 => ?_⟩⟩
    · rw [hB r t r0 r1, rk_s hk]
      constructor
      · exact fun q => q.elim Or.inl (fun w => Or.inr (Or.inl w))
      · rintro (q | q | ⟨q, _⟩)
        · exact Or.inl q
        · exact Or.inr q
        · exact absurd (hon2.mpr q) (by omega)
    · rw [rk_s hk]
      have h0 := hB r t r0 r1
      constructor
      · intro q
        exact (h0.mp q).elim Or.inl (fun w => Or.inr (Or.inl w))
      · rintro (q | q | ⟨_, q1, q2⟩)
        · exact h0.mpr (Or.inl q)
        · exact h0.mpr (Or.inr q)
        · rw [← q1]; omega
    · rw [rput_in (by omega) (by omega)] at f1
      refine go σ1 (fun k hk => by rw [f1, up_k hk]; exact hF k hk) (fun j hj => by rw [f1, up_i (by omega)]; exact h139 j hj) (fun r t r0 r1 => ?_)
      rw [rk_s hk]
      have h0 := hB r t r0 r1
      by_cases e : r = V 17 (8 * o + i)
      · subst e
        rw [f1, up_same]
        constructor
        · intro q
          exact Or.inr (Or.inr ⟨hon2.mp (hon.resolve_left z), rfl, q⟩)
        · rintro (q | q | ⟨_, _, q2⟩)
          · have := h0.mpr (Or.inl q); omega
          · have := h0.mpr (Or.inr q); omega
          · exact q2
      · rw [f1, up_i (by omega)]
        constructor
        · intro q
          exact (h0.mp q).elim Or.inl (fun w => Or.inr (Or.inl w))
        · rintro (q | q | ⟨_, q1, q2⟩)
          · exact h0.mpr (Or.inl q)
          · exact h0.mpr (Or.inr q)
          · exact absurd q1.symm e
theorem w86 {K : dS → Prop} {o a s : Int} (hc : cityOK V) (hs : skyOK V 109) (hV : ∀ k, cty k → S k = V k) (hR : RC S V (NF V 109)) (o0 : 0 ≤ o) (o1 : o < V 5 2) (a0 : 0 ≤ a) (as : a < s) (s1 : s ≤ 15) (hq : ∀ σ', (∀ k, k ≠ 139 → σ' k = S k) → (∀ j, ¬ (10 * s ≤ j ∧ j < 10 * s + 10) → σ' 139 j = S 139 j) → (∀ r t, 0 ≤ r → r < V 5 0 → (σ' 139 (10 * s + r) ≤ t ↔ S 139 (10 * s + r) ≤ t ∨ rdV V o (fun r => S 139 (10 * a + r)) r t)) → K σ') : wV (d + 2) 86 [.inr (.inr 133), .inl o, .inl a, .inl s] S Q K := by
  have hO := hc.2.1
  have kb := hc.2.2.2.2.2.1 o o0 o1
  refine c86 (b86_0 ?_)
  by_cases z : nestb V 109 o
  · have e124 : rat S 124 5 o = 0 := by rw [rat_in o0 (by omega), (hR.2.1 o o0 o1).2, if_pos z]
    exact b86_1 ⟨fun _ => b86_6 (hq S (fun _ _ => rfl) (fun _ _ => rfl) (fun r t _ _ => ⟨Or.inl, fun q => q.elim id (fun w => absurd w (rd_nest z))⟩)), fun y => absurd (by rw [e124]; decide) y⟩
  · exact l86 hc hs hV hR o0 o1 z a0 as s1 hq (V 15 o).toNat 0 0 S (by omega) (by omega) (Or.inl rfl) ⟨fun q => absurd q (by decide), fun q => absurd q onk_0⟩ (fun _ _ => rfl) (fun _ _ => rfl) (fun r t _ _ => ⟨Or.inl, fun q => q.elim id (fun w => absurd w rk_0)⟩)
theorem RC_139 {S' n : dS} (hF : ∀ k, k ≠ 139 → S' k = S k) (h : RC S V n) : RC S' V n := by
  unfold RC
  rw [hF 120 (by decide), hF 122 (by decide), hF 124 (by decide), hF 116 (by decide), hF 118 (by decide), hF 114 (by decide), hF 126 (by decide)]
  exact h
theorem l85_2 {s : Int} (hc : cityOK V) (hs : skyOK V 109) (hV : ∀ k, cty k → S k = V k) (hR : RC S V (NF V 109)) (s0 : 0 ≤ s) (s1 : s ≤ 15) (hq : ∀ σ', (∀ k, k ≠ 139 → σ' k = S k) → (∀ j, ¬ (10 * s ≤ j ∧ j < 10 * s + 10) → σ' 139 j = S 139 j) → (∀ r t, 0 ≤ r → r < V 5 0 → (σ' 139 (10 * s + r) ≤ t ↔ S 139 (10 * s + r) ≤ t ∨ ∃ o, 0 ≤ o ∧ o < V 5 2 ∧ prc V f o ≤ s ∧ rdV V o (fun r => S 139 (10 * (s - prc V f o) + r)) r t)) → B85_6 (d + 2) Q p f s σ') : ∀ (c : Nat) (x : Int) (σ : dS), 0 ≤ x → x + c = V 5 2 → (∀ k, k ≠ 139 → σ k = S k) → (∀ j, ¬ (10 * s ≤ j ∧ j < 10 * s + 10) → σ 139 j = S 139 j) → (∀ r t, 0 ≤ r → r < V 5 0 → (σ 139 (10 * s + r) ≤ t ↔ S 139 (10 * s + r) ≤ t ∨ ∃ o, 0 ≤ o ∧ o < x ∧ prc V f o ≤ s ∧ rdV V o (fun r => S 139 (10 * (s - prc V f o) + r)) r t)) → B85_2 (d + 2) Q p f s x σ
  | 0, x, σ, x0, hx, hF, h139, hB => by
    have e5 : σ 5 2 = V 5 2 := by rw [hF 5 (by decide), hV 5 (by decide)]
    have ex : x = V 5 2 := by omega
    subst ex
    exact b85_2 ⟨fun _ => hq σ hF h139 hB, fun z => absurd (by omega) z⟩
  | c + 1, x, σ, x0, hx, hF, h139, hB => by
    have hO := hc.2.1
    have hRo := hc.1
    have e5 : σ 5 2 = V 5 2 := by rw [hF 5 (by decide), hV 5 (by decide)]
    have kb := hc.2.2.2.2.2.1 x x0 (by omega)
    have pr := prc_r (f := f) hc x0 (show x < V 5 2 by omega)
    have hV' : ∀ k, cty k → σ k = V k := fun k hk => by rw [hF k (by rintro rfl; exact absurd hk (by decide))]; exact hV k hk
    have go : ∀ v, v = prc V f x → B85_4 (d + 2) Q p f s x v σ := by
      intro v hv
      have nx : ∀ σ1, (∀ k, k ≠ 139 → σ1 k = S k) → (∀ j, ¬ (10 * s ≤ j ∧ j < 10 * s + 10) → σ1 139 j = S 139 j) → (∀ r t, 0 ≤ r → r < V 5 0 → (σ1 139 (10 * s + r) ≤ t ↔ S 139 (10 * s + r) ≤ t ∨ ∃ o, 0 ≤ o ∧ o < x + 1 ∧ prc V f o ≤ s ∧ rdV V o (fun r => S 139 (10 * (s - prc V f o) + r)) r t)) → B85_5 (d + 2) Q p f s x σ1 := by
        intro σ1 g1 g2 g3
        refine b85_5 ?_
        rw [wr_id (by omega) (by omega)]
        exact l85_2 hc hs hV hR s0 s1 hq c (x + 1) σ1 (by omega) (by omega) g1 g2 g3
      refine b85_4 ⟨fun z => nx σ hF h139 (fun r t r0 r1 => ?_), fun z => ?_⟩
      · rw [hB r t r0 r1]
        constructor
        · rintro (q | ⟨o, q0, q1, q2, q3⟩)
          · exact Or.inl q
          · exact Or.inr ⟨o, q0, by omega, q2, q3⟩
        · rintro (q | ⟨o, q0, q1, q2, q3⟩)
          · exact Or.inl q
          · have : o ≠ x := by rintro rfl; omega
            exact Or.inr ⟨o, q0, by omega, q2, q3⟩
      · rw [wr_id (x := s - v) (by omega) (by omega)]
        refine w86 hc hs hV' (RC_139 hF hR) x0 (by omega) (by omega) (by omega) s1 (fun σ1 g1 g2 g3 => nx σ1 (fun k hk => by rw [g1 k hk]; exact hF k hk) (fun j hj => by rw [g2 j hj]; exact h139 j hj) (fun r t r0 r1 => ?_))
        rw [g3 r t r0 r1, hB r t r0 r1]
        have eA : rdV V x (fun r => σ 139 (10 * (s - v) + r)) r t ↔ rdV V x (fun r => S 139 (10 * (s - prc V f x) + r)) r t := by
          have ee : ∀ i, okc V x i → σ 139 (10 * (s - v) + V 17 (8 * x + i)) = S 139 (10 * (s - prc V f x) + V 17 (8 * x + i)) := by
            intro i hi
            have := kb.2.2.1 i hi.2.2.2.1 hi.2.2.2.2
            rw [h139 _ (by omega), hv]
          constructor
          · rintro ⟨i, j, a, b, c, e, g⟩
            exact ⟨i, j, a, b, c, by show S 139 (10 * (s - prc V f x) + V 17 (8 * x + i)) ≤ _; rw [← ee i a]; exact e, g⟩
          · rintro ⟨i, j, a, b, c, e, g⟩
            exact ⟨i, j, a, b, c, by show σ 139 (10 * (s - v) + V 17 (8 * x + i)) ≤ _; rw [ee i a]; exact e, g⟩
        rw [eA]
        constructor
        · rintro ((q | ⟨o, q0, q1, q2, q3⟩) | q)
          · exact Or.inl q
          · exact Or.inr ⟨o, q0, by omega, q2, q3⟩
          · exact Or.inr ⟨x, x0, by omega, by omega, q⟩
        · rintro (q | ⟨o, q0, q1, q2, q3⟩)
          · exact Or.inl (Or.inl q)
          · by_cases e : o = x
            · subst e; exact Or.inr q3
            · exact Or.inl (Or.inr ⟨o, q0, by omega, q2, q3⟩)
    refine b85_2 ⟨fun z => absurd z (by omega), fun _ => ⟨fun z => b85_3 (go 1 ?_), fun z => go _ ?_⟩⟩
    · unfold prc; rw [if_pos z]
    · rw [rat_in x0 (by omega), hV' 11 (by decide), wr_id (by omega) (by omega)]
      unfold prc; rw [if_neg z]
theorem l85_1 {S0 : dS} (hc : cityOK V) (hs : skyOK V 109) (hV : ∀ k, cty k → S0 k = V k) (hR : RC S0 V (NF V 109)) (p0 : 0 ≤ p) (p1 : p < V 5 3) (hq : ∀ σ', (∀ k, k ≠ 139 → σ' k = S0 k) → (-1 ≤ fwV V p f ∧ fwV V p f ≤ 15) → Q (.inl (some (.inl (fwV V p f)))) σ') : ∀ (c : Nat) (s : Int) (S : dS), 0 ≤ s → s + c = 16 → (∀ k, k ≠ 139 → S k = S0 k) → (∀ s', 0 ≤ s' → s' < s → CHR V p f (fun r => S 139 (10 * s' + r)) s') → (∀ s' r, s ≤ s' → s' < 16 → 0 ≤ r → r < V 5 0 → S 139 (10 * s' + r) = if s' = 0 ∧ r = V 19 p then V 23 p else 2147483647) → (∀ m, 0 ≤ m → m < s → ¬ HB V p f m) → B85_1 (d + 2) Q p f s S
  | 0, s, S, s0, hsn, hF, h1, h2, h3 => by
    have e : fwV V p f = -1 := fw_no (n := 0) hc hs (fun m m0 m1 => h3 m m0 (by
      by_cases z : f = 0
      · rw [if_pos z] at m1; omega
      · rw [if_neg z] at m1; omega))
    have := hq S hF (by omega)
    rw [e] at this
    exact b85_1 ⟨fun _ => b85_8 this, fun z => absurd (by omega) z⟩
  | c + 1, s, S, s0, hsn, hF, h1, h2, h3 => by
    have hO := hc.2.1
    have hRo := hc.1
    have hP := hc.2.2.1
    have hD := hc.2.2.2.1
    have hp := hc.2.2.2.2.2.2.1 p p0 p1
    have hV' : ∀ k, cty k → S k = V k := fun k hk => by rw [hF k (by rintro rfl; exact absurd hk (by decide))]; exact hV k hk
    refine b85_1 ⟨fun z => absurd z (by omega), fun _ => ?_⟩
    refine l85_2 (f := f) (p := p) hc hs hV' (RC_139 hF hR) s0 (by omega) (fun σ1 g1 g2 g3 => ?_) (V 5 2).toNat 0 S (by omega) (by omega) (fun _ _ => rfl) (fun _ _ => rfl) (fun r t _ _ => ⟨Or.inl, fun q => q.elim id (fun ⟨o, a, b, _⟩ => absurd a (by omega))⟩)
    have F1 : ∀ k, k ≠ 139 → σ1 k = S0 k := fun k hk => by rw [g1 k hk]; exact hF k hk
    have hV1 : ∀ k, cty k → σ1 k = V k := fun k hk => by rw [F1 k (by rintro rfl; exact absurd hk (by decide))]; exact hV k hk
    have ch : CHR V p f (fun r => σ1 139 (10 * s + r)) s := by
      intro r t r0 r1 t2
      show σ1 139 (10 * s + r) ≤ t ↔ _
      rw [g3 r t r0 r1, h2 s r (by omega) (by omega) r0 r1]
      constructor
      · rintro (q | ⟨o, o0, o1, q1, i, j, a, b, c', e, g, k⟩)
        · by_cases z : s = 0 ∧ r = V 19 p
          · rw [if_pos z] at q
            exact ⟨[], by rw [cst]; exact z.1.symm, z.2, q⟩
          · rw [if_neg z] at q; omega
        · have pr := prc_r (f := f) hc o0 o1
          have kb := (hc.2.2.2.2.2.1 o o0 o1).2.2.1 i a.2.2.2.1 a.2.2.2.2
          have l5 := (FN_r (FN_F hc hs) a).2.2
          obtain ⟨ws, w1, w2⟩ := (h1 (s - prc V f o) (by omega) (by omega) (V 17 (8 * o + i)) (NF V 109 5 (8 * o + i)) kb.1 kb.2 l5).mp e
          exact ⟨o :: ws, by rw [cst, w1]; omega, i, j, a, b, c', w2, g, k⟩
      · rintro ⟨ws, w1, w2⟩
        cases ws with
        | nil =>
          left
          rw [cst] at w1
          rw [if_pos ⟨w1.symm, w2.1⟩]; exact w2.2
        | cons o ws =>
          obtain ⟨i, j, a, b, c', e, g, k⟩ := w2
          have o0 := a.1
          have o1 := a.2.1
          have pr := prc_r (f := f) hc o0 o1
          have cr := cst_r (f := f) hc ws (Rc_in _ e)
          have kb := (hc.2.2.2.2.2.1 o o0 o1).2.2.1 i a.2.2.2.1 a.2.2.2.2
          have l5 := (FN_r (FN_F hc hs) a).2.2
          rw [cst] at w1
          right
          refine ⟨o, o0, o1, by omega, i, j, a, b, c', ?_, g, k⟩
          exact (h1 (s - prc V f o) (by omega) (by omega) (V 17 (8 * o + i)) (NF V 109 5 (8 * o + i)) kb.1 kb.2 l5).mpr ⟨ws, by omega, e⟩
    have e21 : rat σ1 21 8 p = V 21 p := by rw [rat_in p0 (by omega), hV1 21 (by decide)]
    have e54 : σ1 5 4 = V 5 4 := by rw [hV1 5 (by decide)]
    have es : wr (wr (s * 10) + V 21 p) = 10 * s + V 21 p := by rw [wr_id (x := s * 10) (by omega) (by omega), wr_id (by omega) (by omega)]; omega
    have hb : σ1 139 (10 * s + V 21 p) ≤ V 5 4 ↔ HB V p f s := ch (V 21 p) (V 5 4) hp.2.1.1 hp.2.1.2 (by omega)
    refine b85_6 ?_
    rw [e21, e54, es, rat_in (by omega) (by omega)]
    refine ⟨fun z => b85_7 ?_, fun z => ?_⟩
    · rw [wr_id (by omega) (by omega)]
      refine l85_1 hc hs hV hR p0 p1 hq c (s + 1) σ1 (by omega) (by omega) F1 (fun s' q0 q1 => ?_) (fun s' r q0 q1 r0 r1 => ?_) (fun m m0 m1 => ?_)
      · by_cases e : s' = s
        · subst e; exact ch
        · intro r t r0 r1 t2
          show σ1 139 (10 * s' + r) ≤ t ↔ _
          rw [g2 _ (by omega)]
          exact h1 s' q0 (by omega) r t r0 r1 t2
      · rw [g2 _ (by omega)]
        exact h2 s' r (by omega) q1 r0 r1
      · by_cases e : m = s
        · subst e
          exact fun q => absurd (hb.mpr q) (by omega)
        · exact h3 m m0 (by omega)
    · have e : fwV V p f = s := fw_yes hc (hb.mp (by omega)) h3
      have := hq σ1 F1 (by omega)
      rw [e] at this
      exact this
theorem w85 {K : Int → dS → Prop} (hc : cityOK V) (hs : skyOK V 109) (hV : ∀ k, cty k → S k = V k) (hR : RC S V (NF V 109)) (p0 : 0 ≤ p) (p1 : p < V 5 3) (hq : ∀ σ', (∀ k, k ≠ 139 → σ' k = S k) → (-1 ≤ fwV V p f ∧ fwV V p f ≤ 15) → K (fwV V p f) σ') : wI (d + 4) 85 [.inr (.inr 133), .inl p, .inl f] S Q K := by
  have hRo := hc.1
  have hP := hc.2.2.1
  have hp := hc.2.2.2.2.2.2.1 p p0 p1
  refine c85 (b85_0 (fun σ1 f1 σ2 f2 => ?_))
  have F1 : ∀ k, k ≠ 139 → σ1 k = S k := by
    intro k hk
    funext j
    rw [f1]
    unfold rfill
    rw [if_neg (fun q => hk q.1)]
  rw [rat_in p0 (by omega), rat_in p0 (by omega), F1 19 (by decide), F1 23 (by decide), hV 19 (by decide), hV 23 (by decide), rput_in (by omega) (by omega)] at f2
  have F2 : ∀ k, k ≠ 139 → σ2 k = S k := fun k hk => by rw [f2, up_k hk]; exact F1 k hk
  refine l85_1 (S0 := S) hc hs hV hR p0 p1 hq 16 0 σ2 (by omega) (by omega) F2 (fun s' q0 q1 => absurd q1 (by omega)) (fun s' r q0 q1 r0 r1 => ?_) (fun m m0 m1 => absurd m1 (by omega))
  rw [f2]
  by_cases z : s' = 0 ∧ r = V 19 p
  · rw [if_pos z, z.1, z.2, show 10 * 0 + V 19 p = V 19 p by omega, up_same]
  · rw [if_neg z, up_i (by omega), f1]
    unfold rfill
    rw [if_pos ⟨rfl, by omega, by omega⟩]
theorem x_changes {K : Int → dS → Prop} (hI : INV σ) (h1 : 0 ≤ p → p < σ 5 3 → ∀ σ', FRM σ σ' → K (if fwV (nrm σ 70) p 0 ≤ 0 then fwV (nrm σ 70) p 0 else fwV (nrm σ 70) p 0 - 1) σ') (h2 : ¬ (0 ≤ p ∧ p < σ 5 3) → Q (.inr 0) σ) : wI (d + 9) 121 [.inr (.inr 0), .inl p] σ Q K := by
  have e5 : nrm σ 70 5 = σ 5 := nrm_c (k := 5) (by decide)
  refine c121 (b121_0 (w111 (fun p0 p1 => v70 hI (fun σ1 g1 g2 g3 g4 => ?_)) h2))
  refine w85 (INV_vc hI) (INV_vs hI) g3 g4 p0 (by rw [e5]; exact p1) (fun σ2 g5 g6 => ?_)
  have hh := h1 p0 p1 σ2 (FRM_tr g1 (FRM_c (fun k hk => g5 k (by rintro rfl; exact hk (by decide)))))
  refine ⟨fun z => b121_1 (b121_2 ?_), fun z => b121_2 ?_⟩
  · rw [if_pos z] at hh; exact hh
  · rw [if_neg z] at hh
    rw [wr_id (by omega) (by omega)]; exact hh
theorem x_cheapest {K : Int → dS → Prop} (hI : INV σ) (h1 : 0 ≤ p → p < σ 5 3 → ∀ σ', FRM σ σ' → K (fwV (nrm σ 70) p 1) σ') (h2 : ¬ (0 ≤ p ∧ p < σ 5 3) → Q (.inr 0) σ) : wI (d + 9) 122 [.inr (.inr 0), .inl p] σ Q K := by
  have e5 : nrm σ 70 5 = σ 5 := nrm_c (k := 5) (by decide)
  refine c122 (b122_0 (w111 (fun p0 p1 => v70 hI (fun σ1 g1 g2 g3 g4 => ?_)) h2))
  refine w85 (INV_vc hI) (INV_vs hI) g3 g4 p0 (by rw [e5]; exact p1) (fun σ2 g5 g6 => ?_)
  exact h1 p0 p1 σ2 (FRM_tr g1 (FRM_c (fun k hk => g5 k (by rintro rfl; exact hk (by decide)))))
end FEWC
