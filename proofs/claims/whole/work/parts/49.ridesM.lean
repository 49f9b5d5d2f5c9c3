/-! THE REFERENCE: when a rider can be at each roof -/
theorem msum_lt {f g : Int → Int} {b : Int} (hb : 0 ≤ b) : ∀ N : Nat, b < (N : Int) → g b < f b → (∀ o, o ≠ b → g o = f o) → msum g N < msum f N
  | 0, h, _, _ => by omega
  | N + 1, h, e, q => by
    rw [msum, msum]
    by_cases z : b = (N : Int)
    · have : msum g N = msum f N := by
        have aux : ∀ M : Nat, (M : Int) ≤ b → msum g M = msum f M := by
          intro M
          induction M with
          | zero => intro _; rfl
          | succ M ih => intro hM; rw [msum, msum, ih (by omega), q _ (by omega)]
        exact aux N (by omega)
      rw [this, ← z]; omega
    · have := msum_lt hb N (by omega) e q
      rw [q (N : Int) (by omega)]; omega
/-- arrivals that lie above all that are closed -/
def UB (V : dS) (p : Int) (a : Int → Int) : Prop := a (V 19 p) ≤ V 23 p ∧ (∀ r, 0 ≤ r → r < V 5 0 → 0 ≤ a r ∧ a r ≤ 1000000) ∧ ∀ B, Cl V (NF V 109) p B → Cap V B → ∀ r, 0 ≤ r → r < V 5 0 → B r ≤ a r
/-- closed under one owl -/
def clo (V : dS) (a : Int → Int) (o : Int) : Prop := ∀ i j, okc V o i → okc V o j → i < j → a (V 17 (8 * o + i)) ≤ NF V 109 5 (8 * o + i) → a (V 17 (8 * o + j)) ≤ NF V 109 4 (8 * o + j)
/-- the reference's view of a night that it has passed -/
def MN (σ V : dS) : Prop := MVc σ V ∧ MVs σ V ∧ RM σ V (NF V 109)
abbrev rml (k : Nat) : Prop := k = 186
theorem MN_k {σ S V : dS} (hF : ∀ k, 153 ≤ k → k ≤ 160 ∨ k = 174 ∨ (180 ≤ k ∧ k ≤ 185) → σ k = S k) (h : MN S V) : MN σ V := by
  refine ⟨MVc_k (fun k hk => hF k hk.1 (Or.inl hk.2)) h.1, MVs_k (hF 174 (by decide) (by decide)) h.2.1, ?_⟩
  have h3 := h.2.2
  unfold RM at h3 ⊢
  rw [hF 182 (by decide) (by decide), hF 183 (by decide) (by decide), hF 184 (by decide) (by decide), hF 185 (by decide) (by decide), hF 180 (by decide) (by decide), hF 181 (by decide) (by decide)]
  exact h3
section RMM
variable {d : Nat} {Q : dR → dS → Prop} {V S : dS} {p : Int}
theorem MN_6 {σ : dS} (hF : ∀ k, k ≠ 186 → σ k = S k) (h : MN S V) : MN σ V := MN_k (fun k _ hk => hF k (by omega)) h
theorem l208 (hc : cityOK V) (hs : skyOK V 109) (hM : MN S V) {o : Int} (o0 : 0 ≤ o) (o1 : o < V 5 2) (hq : ∀ (x : Int) (σ' : dS), (x = 0 ∨ x = 1) → (∀ k, k ≠ 186 → σ' k = S k) → UB V p (σ' 186) → (x = 0 → σ' = S ∧ clo V (S 186) o) → (x = 1 → msum (σ' 186) (V 5 0).toNat < msum (S 186) (V 5 0).toNat) → Q (.inl (some (.inl x))) σ') : ∀ (m : Nat) (x6 x7 x8 : Int) (σ : dS), 0 ≤ x8 → x8 + m = V 15 o → (∀ k, k ≠ 186 → σ k = S k) → UB V p (σ 186) → (x6 = 0 ∨ x6 = 1) → (x7 = 0 ∨ x7 = 1) → (x7 = 0 → σ = S) → (x7 = 1 → msum (σ 186) (V 5 0).toNat < msum (S 186) (V 5 0).toNat) → (0 < x8 → ¬ nestb V 109 o) → (x6 = 1 → ∃ i, okc V o i ∧ i < x8 ∧ ∀ B, Cl V (NF V 109) p B → Cap V B → B (V 17 (8 * o + i)) ≤ NF V 109 5 (8 * o + i)) → (x7 = 0 → x6 = 0 → ∀ i, okc V o i → i < x8 → ¬ S 186 (V 17 (8 * o + i)) ≤ NF V 109 5 (8 * o + i)) → (x7 = 0 → ∀ i j, okc V o i → okc V o j → i < j → j < x8 → S 186 (V 17 (8 * o + i)) ≤ NF V 109 5 (8 * o + i) → S 186 (V 17 (8 * o + j)) ≤ NF V 109 4 (8 * o + j)) → B208_186_186_1 (d + 1) Q o 0 0 x6 x7 x8 σ
  | 0, x6, x7, x8, σ, h0, hm, hF, hU, h6, h7, hz, hl, hn, hon, hoff, hcl => by
    have hO := hc.2.1
    have hM' := MN_6 hF hM
    have e156 : σ 156 o = V 15 o := (hM'.1.2.2.2.2.2.2.1 o o0 o1).2.1
    refine b208_186_186_1 ⟨o0, by omega, fun _ => b208_186_186_6 ⟨h7, hq x7 σ h7 hF hU (fun z => ⟨hz z, fun i j hi hj l q => hcl z i j hi hj l ?_ q⟩) hl⟩, fun z => absurd (by rw [e156]; omega) z⟩
    have := hj.2.2.2.2
    omega
  | m + 1, x6, x7, x8, σ, h0, hm, hF, hU, h6, h7, hz, hl, hn, hon, hoff, hcl => by
    have hO := hc.2.1
    have hRo := hc.1
    have hFN := FN_F hc hs
    have hM' := MN_6 hF hM
    have kb := hc.2.2.2.2.2.1 o o0 o1
    have e156 : σ 156 o = V 15 o := (hM'.1.2.2.2.2.2.2.1 o o0 o1).2.1
    refine b208_186_186_1 ⟨o0, by omega, fun z => absurd z (by rw [e156]; omega), fun _ => ?_⟩
    refine w202 hM'.2.1.2.2.2.1 ?_
    by_cases hnb : nestb V 109 o
    · rw [if_pos hnb]
      refine ⟨fun _ => b208_186_186_6 ⟨h7, hq x7 σ h7 hF hU (fun z => ⟨hz z, fun i j hi hj l q => absurd hnb hi.2.2.1⟩) hl⟩, fun z => absurd (by decide) z⟩
    · rw [if_neg hnb]
      refine ⟨fun z => absurd rfl z, fun _ => ?_⟩
      have hk : okc V o x8 := ⟨o0, o1, hnb, h0, by omega⟩
      have hw := kb.2.2.1 x8 h0 (by omega)
      have fr := FN_r hFN hk
      have hu := hU.2.1 _ hw.1 hw.2
      have e157 : σ 157 (8 * o + x8) = V 17 (8 * o + x8) := (hM'.1.2.2.2.2.2.2.1 o o0 o1).2.2 x8 h0 (by omega)
      have e18 := hM'.2.2.2.2 o x8 o0 o1 hnb h0 (by rw [hFN.2 o o0 o1]; omega)
      rw [wr_id (x := 8 * o) (by omega) (by omega), wr_id (x := 8 * o + x8) (by omega) (by omega), e157, wr_id (x := 0 + V 17 (8 * o + x8)) (by omega) (by omega), Int.zero_add]
      -- behind the getting off
      have go : ∀ (y7 : Int) (σ1 : dS), (∀ k, k ≠ 186 → σ1 k = S k) → UB V p (σ1 186) → (y7 = 0 ∨ y7 = 1) → (y7 = 0 → σ1 = S) → (y7 = 1 → msum (σ1 186) (V 5 0).toNat < msum (S 186) (V 5 0).toNat) → (y7 = 0 → x7 = 0) → (y7 = 0 → x6 = 1 → S 186 (V 17 (8 * o + x8)) ≤ NF V 109 4 (8 * o + x8)) → B208_186_186_2 (d + 1) Q o 0 0 x6 y7 x8 (V 17 (8 * o + x8)) σ1 := by
        intro y7 σ1 p1 p2 p3 p4 p5 p6 p7
        have hM1 := MN_6 p1 hM
        have hu1 := p2.2.1 _ hw.1 hw.2
        have e181 : σ1 181 (8 * o + x8) = NF V 109 5 (8 * o + x8) := (hM1.2.2.2.2 o x8 o0 o1 hnb h0 (by rw [hFN.2 o o0 o1]; omega)).2
        have next : ∀ y6 : Int, (y6 = 0 ∨ y6 = 1) → (x6 = 1 → y6 = 1) → (y6 = 1 → x6 = 1 ∨ σ1 186 (V 17 (8 * o + x8)) ≤ NF V 109 5 (8 * o + x8)) → (y6 = 0 → ¬ σ1 186 (V 17 (8 * o + x8)) ≤ NF V 109 5 (8 * o + x8)) → B208_186_186_5 (d + 1) Q o 0 0 y7 x8 y6 σ1 := by
          intro y6 q1 q2 q3 q4
          refine b208_186_186_5 ?_
          rw [wr_id (by omega) (by omega)]
          refine l208 hc hs hM o0 o1 hq m y6 y7 (x8 + 1) σ1 (by omega) (by omega) p1 p2 q1 p3 p4 p5 (fun _ => hnb) (fun z => ?_) (fun z1 z2 i hi l => ?_) (fun z i j hi hj l l2 q => ?_)
          · rcases q3 z with w | w
            · obtain ⟨i, w1, w2, w3⟩ := hon w
              exact ⟨i, w1, by omega, w3⟩
            · refine ⟨x8, hk, by omega, fun B hB hC => ?_⟩
              have := p2.2.2 B hB hC _ hw.1 hw.2
              omega
          · have x60 : x6 = 0 := by
              rcases h6 with w | w
              · exact w
              · have := q2 w; omega
            by_cases w : i = x8
            · rw [w, ← p4 z1]; exact q4 z2
            · exact hoff (p6 z1) x60 i hi (by omega)
          · by_cases w : j = x8
            · subst w
              refine p7 z ?_
              rcases h6 with v | v
              · exact absurd q (hoff (p6 z) v i hi l)
              · exact v
            · exact hcl (p6 z) i j hi hj l (by omega) q
        refine b208_186_186_2 ⟨fun z => b208_186_186_3 (next 1 (Or.inr rfl) (fun _ => rfl) (fun _ => Or.inl (h6.resolve_left z)) (fun w => absurd w (by decide))), fun z => ?_⟩
        have z' : x6 = 0 := Decidable.of_not_not z
        rw [wr_id (x := 8 * o) (by omega) (by omega), wr_id (x := 8 * o + x8) (by omega) (by omega), wr_id (x := 0 + V 17 (8 * o + x8)) (by omega) (by omega), Int.zero_add, e181]
        refine ⟨by omega, by omega, by omega, by omega, fun w => b208_186_186_4 (next 0 (Or.inl rfl) (fun v => by omega) (fun v => absurd v (by decide)) (fun _ => by omega)), fun w => b208_186_186_3 (next 1 (Or.inr rfl) (fun _ => rfl) (fun _ => Or.inr (by omega)) (fun v => absurd v (by decide)))⟩
      refine ⟨by omega, by omega, fun z => go x7 σ hF hU h7 hz hl id (fun _ w => absurd w (by omega)), fun z => ?_⟩
      rw [e18.1]
      refine ⟨by omega, by omega, by omega, by omega, fun y => go x7 σ hF hU h7 hz hl id (fun w _ => ?_), fun y => ⟨by omega, by omega, by omega, by omega, ?_⟩⟩
      · rw [← hz w]; exact y
      · intro σ1 f1
        have x61 : x6 = 1 := h6.resolve_left z
        have hlt : msum (σ1 186) (V 5 0).toNat < msum (σ 186) (V 5 0).toNat := by
          refine msum_lt (b := V 17 (8 * o + x8)) hw.1 _ (by omega) ?_ (fun r hr => ?_)
          · rw [f1, up_same]; omega
          · rw [f1, up_i hr]
        refine go 1 σ1 (fun k hk => by rw [f1, up_k hk]; exact hF k hk) ⟨?_, fun r r0 r1 => ?_, fun B hB hC r r0 r1 => ?_⟩ (Or.inr rfl) (fun w => absurd w (by decide)) (fun _ => ?_) (fun w => absurd w (by decide)) (fun w => absurd w (by decide))
        · rw [f1]
          have := hU.1
          by_cases w : V 19 p = V 17 (8 * o + x8)
          · rw [w, up_same]; rw [w] at this; omega
          · rw [up_i w]; exact this
        · rw [f1]
          by_cases w : r = V 17 (8 * o + x8)
          · rw [w, up_same]; omega
          · rw [up_i w]; exact hU.2.1 r r0 r1
        · rw [f1]
          by_cases w : r = V 17 (8 * o + x8)
          · rw [w, up_same]
            obtain ⟨i, w1, w2, w3⟩ := hon x61
            exact hB.2 o i x8 w1 hk w2 (w3 B hB hC)
          · rw [up_i w]; exact hU.2.2 B hB hC r r0 r1
        · rcases h7 with w | w
          · rw [← hz w]; exact hlt
          · have := hl w; omega
theorem w208 {K : Int → dS → Prop} (hc : cityOK V) (hs : skyOK V 109) (hM : MN S V) {o : Int} (o0 : 0 ≤ o) (o1 : o < V 5 2) (hU : UB V p (S 186)) (hq : ∀ (x : Int) (σ' : dS), (x = 0 ∨ x = 1) → (∀ k, k ≠ 186 → σ' k = S k) → UB V p (σ' 186) → (x = 0 → σ' = S ∧ clo V (S 186) o) → (x = 1 → msum (σ' 186) (V 5 0).toNat < msum (S 186) (V 5 0).toNat) → K x σ') : wI (d + 3) 208 [.inr (.inr 153), .inl o, .inr (.inr 186), .inl 0, .inr (.inr 186), .inl 0] S Q K := by
  have kb := hc.2.2.2.2.2.1 o o0 o1
  refine c208_186_186 (b208_186_186_0 (l208 hc hs hM o0 o1 hq (V 15 o).toNat 0 0 0 S (by omega) (by omega) (fun _ _ => rfl) hU (Or.inl rfl) (Or.inl rfl) (fun _ => rfl) (fun w => absurd w (by decide)) (fun w => absurd w (by decide)) (fun w => absurd w (by decide)) (fun _ _ i hi l => ?_) (fun _ i j hi hj l l2 => ?_)))
  · have := hi.2.2.2.1; omega
  · have := hj.2.2.2.1; omega
theorem l209_2 (hc : cityOK V) (hs : skyOK V 109) (hM : MN S V) (hq : ∀ (x : Int) (σ' : dS), (x = 0 ∨ x = 1) → (∀ k, k ≠ 186 → σ' k = S k) → UB V p (σ' 186) → (x = 0 → ∀ o, 0 ≤ o → o < V 5 2 → clo V (σ' 186) o) → (x = 1 → msum (σ' 186) (V 5 0).toNat < msum (S 186) (V 5 0).toNat) → B209_1 (d + 2) Q x σ') : ∀ (m : Nat) (x2 x3 : Int) (σ : dS), 0 ≤ x3 → x3 + m = V 5 2 → (∀ k, k ≠ 186 → σ k = S k) → UB V p (σ 186) → (x2 = 0 ∨ x2 = 1) → (x2 = 0 → σ = S ∧ ∀ o, 0 ≤ o → o < x3 → clo V (S 186) o) → (x2 = 1 → msum (σ 186) (V 5 0).toNat < msum (S 186) (V 5 0).toNat) → B209_2 (d + 2) Q x2 x3 σ
  | 0, x2, x3, σ, h0, hm, hF, hU, h2, hz, hl => by
    have hM' := MN_6 hF hM
    refine b209_2 ⟨fun _ => b209_6 (hq x2 σ h2 hF hU (fun z o o0 o1 => ?_) hl), fun z => absurd (by rw [hM'.1.2.1]; omega) z⟩
    rw [(hz z).1]
    exact (hz z).2 o o0 (by omega)
  | m + 1, x2, x3, σ, h0, hm, hF, hU, h2, hz, hl => by
    have hO := hc.2.1
    have hM' := MN_6 hF hM
    refine b209_2 ⟨fun z => absurd z (by rw [hM'.1.2.1]; omega), fun _ => ?_⟩
    refine w208 hc hs hM' h0 (by omega) hU (fun x σ1 q1 q2 q3 q4 q5 => ?_)
    have F1 : ∀ k, k ≠ 186 → σ1 k = S k := fun k hk => by rw [q2 k hk]; exact hF k hk
    have next1 : (x = 1 ∨ x2 = 1) → B209_5 (d + 2) Q x3 1 σ1 := by
      intro w
      refine b209_5 ?_
      rw [wr_id (by omega) (by omega)]
      refine l209_2 hc hs hM hq m 1 (x3 + 1) σ1 (by omega) (by omega) F1 q3 (Or.inr rfl) (fun w => absurd w (by decide)) (fun _ => ?_)
      rcases h2 with a | a
      · rcases w with b | b
        · have := q5 b
          rw [(hz a).1] at this
          exact this
        · omega
      · have := hl a
        rcases q1 with b | b
        · rw [(q4 b).1]; exact this
        · have := q5 b; omega
    refine ⟨fun z => b209_3 (next1 (Or.inl (by omega))), fun z => ⟨fun y => b209_4 (b209_5 ?_), fun y => b209_3 (next1 (Or.inr (by omega)))⟩⟩
    have x0 : x = 0 := Decidable.of_not_not z
    rw [wr_id (by omega) (by omega)]
    refine l209_2 hc hs hM hq m 0 (x3 + 1) σ1 (by omega) (by omega) F1 q3 (Or.inl rfl) (fun _ => ⟨?_, fun o o0 o1 => ?_⟩) (fun w => absurd w (by decide))
    · rw [(q4 x0).1, (hz y).1]
    · by_cases w : o = x3
      · rw [w]
        have := (q4 x0).2
        rw [(hz y).1] at this
        exact this
      · exact (hz y).2 o o0 (by omega)
theorem l209_1 (hc : cityOK V) (hs : skyOK V 109) (hM : MN S V) (hq : ∀ σ', (∀ k, k ≠ 186 → σ' k = S k) → ARR V p (AR V p) → (∀ r, 0 ≤ r → r < V 5 0 → 0 ≤ AR V p r ∧ AR V p r ≤ 1000000 ∧ σ' 186 r = AR V p r) → Q (.inl none) σ') : ∀ (m : Nat) (σ : dS), msum (σ 186) (V 5 0).toNat ≤ m → (∀ k, k ≠ 186 → σ k = S k) → UB V p (σ 186) → B209_1 (d + 2) Q 1 σ := by
  intro m
  have fin : ∀ (x : Int) (σ' : dS), x = 0 → (∀ k, k ≠ 186 → σ' k = S k) → UB V p (σ' 186) → (x = 0 → ∀ o, 0 ≤ o → o < V 5 2 → clo V (σ' 186) o) → B209_1 (d + 2) Q x σ' := by
    intro x σ' hx q2 q3 q4
    have hA : ARR V p (σ' 186) := ⟨⟨q3.1, fun o i j hi hj l q => q4 hx o hi.1 hi.2.1 i j hi hj l q⟩, fun r r0 r1 => (q3.2.1 r r0 r1).2, q3.2.2⟩
    refine b209_1 ⟨fun _ => b209_7 (hq σ' q2 (Classical.epsilon_spec ⟨_, hA⟩) (fun r r0 r1 => ?_)), fun z => absurd hx z⟩
    have e := AR_eq hA r r0 r1
    have := q3.2.1 r r0 r1
    rw [← e]
    exact ⟨this.1, this.2, rfl⟩
  induction m with
  | zero =>
    intro σ hm hF hU
    have hRo := hc.1
    have hO := hc.2.1
    have hM' := MN_6 hF hM
    refine b209_1 ⟨fun z => absurd z (by decide), fun _ => l209_2 (p := p) hc hs hM' (fun x σ' q1 q2 q3 q4 q5 => ?_) (V 5 2).toNat 0 0 σ (by omega) (by omega) (fun _ _ => rfl) hU (Or.inl rfl) (fun _ => ⟨rfl, fun o o0 o1 => absurd o1 (by omega)⟩) (fun w => absurd w (by decide))⟩
    have F' : ∀ k, k ≠ 186 → σ' k = S k := fun k hk => by rw [q2 k hk]; exact hF k hk
    rcases q1 with w | w
    · exact fin x σ' w F' q3 q4
    · exfalso
      have a1 := q5 w
      have a2 := msum_nn (f := σ' 186) (V 5 0).toNat (fun r r0 r1 => (q3.2.1 r r0 (by omega)).1)
      omega
  | succ m ih =>
    intro σ hm hF hU
    have hRo := hc.1
    have hO := hc.2.1
    have hM' := MN_6 hF hM
    refine b209_1 ⟨fun z => absurd z (by decide), fun _ => l209_2 (p := p) hc hs hM' (fun x σ' q1 q2 q3 q4 q5 => ?_) (V 5 2).toNat 0 0 σ (by omega) (by omega) (fun _ _ => rfl) hU (Or.inl rfl) (fun _ => ⟨rfl, fun o o0 o1 => absurd o1 (by omega)⟩) (fun w => absurd w (by decide))⟩
    have F' : ∀ k, k ≠ 186 → σ' k = S k := fun k hk => by rw [q2 k hk]; exact hF k hk
    rcases q1 with w | w
    · exact fin x σ' w F' q3 q4
    · rw [w]
      have a1 := q5 w
      exact ih σ' (by omega) F' q3
theorem l207 (hc : cityOK V) (hm : MVc S V) (p0 : 0 ≤ p) (p1 : p < V 5 3) (hq : ∀ σ', (∀ k, k ≠ 186 → σ' k = S k) → (∀ r, 0 ≤ r → r < 10 → σ' 186 r = if r = V 19 p then V 23 p else 1000000) → Q (.inl none) σ') : ∀ (m : Nat) (x3 : Int) (σ : dS), 0 ≤ x3 → x3 + m = 10 → (∀ k, k ≠ 186 → σ k = S k) → (∀ r, 0 ≤ r → r < x3 → σ 186 r = 1000000) → B207_1 d Q p x3 σ
  | 0, x3, σ, h0, hm', hF, ha => by
    have hP := hc.2.2.1
    have hRo := hc.1
    have hp := hc.2.2.2.2.2.2.1 p p0 p1
    have hr := hm.2.2.2.2.2.2.2.1 p p0 p1
    have e158 : σ 158 = S 158 := hF 158 (by decide)
    refine b207_1 ⟨fun _ => b207_2 ?_, fun z => absurd (by omega) z⟩
    rw [wr_id (x := 4 * p) (by omega) (by omega), wr_id (x := 4 * p + 2) (by omega) (by omega), e158, hr.1, hr.2.2.1]
    refine ⟨by omega, by omega, by omega, by omega, by omega, by omega, ?_⟩
    intro σ1 f1
    refine hq σ1 (fun k hk => by rw [f1, up_k hk]; exact hF k hk) (fun r r0 r1 => ?_)
    rw [f1]
    by_cases w : r = V 19 p
    · rw [w, up_same, if_pos rfl]
    · rw [up_i w, if_neg w]; exact ha r r0 (by omega)
  | m + 1, x3, σ, h0, hm', hF, ha => by
    refine b207_1 ⟨fun z => absurd z (by omega), fun _ => ⟨h0, by omega, ?_⟩⟩
    intro σ1 f1
    rw [wr_id (by omega) (by omega)]
    refine l207 hc hm p0 p1 hq m (x3 + 1) σ1 (by omega) (by omega) (fun k hk => by rw [f1, up_k hk]; exact hF k hk) (fun r r0 r1 => ?_)
    rw [f1]
    by_cases w : r = x3
    · rw [w, up_same]
    · rw [up_i w]; exact ha r r0 (by omega)
theorem w207 {K : dS → Prop} (hc : cityOK V) (hm : MVc S V) (p0 : 0 ≤ p) (p1 : p < V 5 3) (hq : ∀ σ', (∀ k, k ≠ 186 → σ' k = S k) → (∀ r, 0 ≤ r → r < 10 → σ' 186 r = if r = V 19 p then V 23 p else 1000000) → K σ') : wV (d + 2) 207 [.inr (.inr 153), .inl p, .inr (.inr 186)] S Q K :=
  c207 (b207_0 (l207 hc hm p0 p1 hq 10 0 S (by omega) (by omega) (fun _ _ => rfl) (fun r r0 r1 => absurd r1 (by omega))))
theorem w209 {K : dS → Prop} (hc : cityOK V) (hs : skyOK V 109) (hM : MN S V) (p0 : 0 ≤ p) (p1 : p < V 5 3) (hq : ∀ σ', (∀ k, k ≠ 186 → σ' k = S k) → ARR V p (AR V p) → (∀ r, 0 ≤ r → r < V 5 0 → 0 ≤ AR V p r ∧ AR V p r ≤ 1000000 ∧ σ' 186 r = AR V p r) → K σ') : wV (d + 4) 209 [.inr (.inr 153), .inl p] S Q K := by
  have hp := hc.2.2.2.2.2.2.1 p p0 p1
  have hRo := hc.1
  refine c209 (b209_0 (w207 hc hM.1 p0 p1 (fun σ1 g1 g2 => ?_)))
  have hU : UB V p (σ1 186) := by
    refine ⟨?_, fun r r0 r1 => ?_, fun B hB hC r r0 r1 => ?_⟩
    · rw [g2 _ hp.1.1 (by omega), if_pos rfl]; omega
    · rw [g2 r r0 (by omega)]
      by_cases w : r = V 19 p
      · rw [if_pos w]; omega
      · rw [if_neg w]; omega
    · rw [g2 r r0 (by omega)]
      by_cases w : r = V 19 p
      · rw [if_pos w, w]; exact hB.1
      · rw [if_neg w]; exact hC r r0 r1
  have hnn := msum_nn (f := σ1 186) (V 5 0).toNat (fun r r0 r1 => (hU.2.1 r r0 (by omega)).1)
  exact l209_1 hc hs hM hq (msum (σ1 186) (V 5 0).toNat).toNat σ1 (by omega) g1 hU
theorem w210 {K : Int → dS → Prop} (hc : cityOK V) (hm : MVc S V) (p0 : 0 ≤ p) (p1 : p < V 5 3) (hq : K (V 21 p) S) : wI (d + 2) 210 [.inr (.inr 153), .inl p] S Q K := by
  have hP := hc.2.2.1
  have hr := hm.2.2.2.2.2.2.2.1 p p0 p1
  refine c210 (b210_0 ?_)
  rw [wr_id (x := 4 * p) (by omega) (by omega), wr_id (x := 4 * p + 1) (by omega) (by omega), hr.2.1]
  exact ⟨by omega, by omega, hq⟩
/-- the minute home as the reference has it -/
noncomputable def hmm (V : dS) (p : Int) : Int := if hmv V p = -1 then 1000000 else hmv V p
theorem w211 {K : Int → dS → Prop} (hc : cityOK V) (hs : skyOK V 109) (hM : MN S V) (p0 : 0 ≤ p) (p1 : p < V 5 3) (hq : ∀ σ', (∀ k, k ≠ 186 → σ' k = S k) → ARR V p (AR V p) → (∀ r, 0 ≤ r → r < V 5 0 → 0 ≤ AR V p r ∧ AR V p r ≤ 1000000 ∧ σ' 186 r = AR V p r) → (hmv V p = -1 ∨ (0 ≤ hmv V p ∧ hmv V p ≤ 600)) → K (hmm V p) σ') : wI (d + 6) 211 [.inr (.inr 153), .inl p] S Q K := by
  have hp := hc.2.2.2.2.2.2.1 p p0 p1
  have hRo := hc.1
  have hD := hc.2.2.2.1
  refine c211 (b211_0 (w209 hc hs hM p0 p1 (fun σ1 g1 g2 g3 => ?_)))
  have hM1 := MN_6 g1 hM
  refine w210 hc hM1.1 p0 p1 ⟨hp.2.1.1, by omega, ?_⟩
  have q := g3 _ hp.2.1.1 hp.2.1.2
  have e6 : σ1 153 6 = V 5 4 := hM1.1.2.2.2.2.1
  rw [q.2.2, e6]
  have hh := hq σ1 g1 g2 g3
  unfold hmm hmv at hh
  refine ⟨fun z => b211_1 (b211_2 ?_), fun z => b211_2 ?_⟩
  · rw [if_neg (by omega), if_pos rfl] at hh
    exact hh (Or.inl rfl)
  · rw [if_pos (by omega), if_neg (by omega)] at hh
    exact hh (Or.inr (by omega))
theorem l213 (hc : cityOK V) (hs : skyOK V 109) (hM : MN S V) (hq : ∀ σ', (∀ k, k ≠ 186 → σ' k = S k) → Q (.inl (some (.inl (hms V)))) σ') : ∀ (j m : Nat) (σ : dS), (m : Int) + j = V 5 3 → (∀ k, k ≠ 186 → σ k = S k) → B213_1 (d + 5) Q (cnh V m) (m : Int) σ
  | 0, m, σ, hj, hF => by
    have hM' := MN_6 hF hM
    have em : m = (V 5 3).toNat := by omega
    refine b213_1 ⟨fun _ => b213_4 ?_, fun z => absurd (by rw [hM'.1.2.2.1]; omega) z⟩
    rw [em]
    exact hq σ hF
  | j + 1, m, σ, hj, hF => by
    have hP := hc.2.2.1
    have hr := cnh_r V m
    have hM' := MN_6 hF hM
    refine b213_1 ⟨fun z => absurd z (by rw [hM'.1.2.2.1]; omega), fun _ => ?_⟩
    refine w211 hc hs hM' (by omega) (by omega) (fun σ1 g1 _ _ g4 => ?_)
    have F1 : ∀ k, k ≠ 186 → σ1 k = S k := fun k hk => by rw [g1 k hk]; exact hF k hk
    have ih := l213 hc hs hM hq j (m + 1) σ1 (by omega) F1
    have go : ∀ v : Int, v = (if hmv V (m : Int) = -1 then 0 else 1) → B213_3 (d + 5) Q (m : Int) v (cnh V m) σ1 := by
      intro v hv
      refine b213_3 ?_
      have ec : cnh V (m + 1) = cnh V m + v := by rw [cnh, hv]
      have hv2 : 0 ≤ v ∧ v ≤ 1 := by
        rw [hv]
        by_cases h : hmv V (m : Int) = -1
        · rw [if_pos h]; omega
        · rw [if_neg h]; omega
      rw [wr_id (by omega) (by omega), wr_id (by omega) (by omega), ← ec]
      exact ih
    unfold hmm
    by_cases h : hmv V (m : Int) = -1
    · rw [if_pos h]
      exact ⟨fun _ => b213_2 (go 0 (by rw [if_pos h])), fun z => absurd (by omega) z⟩
    · rw [if_neg h]
      exact ⟨fun z => absurd z (by omega), fun _ => go 1 (by rw [if_neg h])⟩
/-- HOW MANY GET HOME, by the reference -/
theorem w213 {K : Int → dS → Prop} (hc : cityOK V) (hs : skyOK V 109) (hmS : MVc S V) (hsS : MVs S V) (hq : ∀ σ', (∀ k, ¬ nml k → k ≠ 186 → σ' k = S k) → K (hms V) σ') : wI (d + 8) 213 [.inr (.inr 153)] S Q K := by
  have hP := hc.2.2.1
  refine c213 (b213_0 (w205 hc hs hmS hsS (fun σ1 g1 g2 => ?_)))
  exact l213 hc hs ⟨MVc_f g1 hmS, MVs_f g1 hsS, g2⟩ (fun σ2 g3 => hq σ2 (fun k h1 h2 => by rw [g3 k h2]; exact g1 k h1)) (V 5 3).toNat 0 σ1 (by omega) (fun _ _ => rfl)
end RMM
