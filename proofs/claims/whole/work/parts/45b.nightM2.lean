/-! THE REFERENCE PASSES A NIGHT: all comings -/
section NM2
variable {d : Nat} {Q : dR → dS → Prop} {V S : dS}
theorem MVc_f {σ : dS} (hF : ∀ k, ¬ nml k → σ k = S k) (h : MVc S V) : MVc σ V := MVc_k (fun k hk => hF k (by omega)) h
theorem MVs_f {σ : dS} (hF : ∀ k, ¬ nml k → σ k = S k) (h : MVs S V) : MVs σ V := MVs_k (hF 174 (by decide)) h
/-- the next owl: the loop -/
theorem l205_8 {n σ : dS} (hc : cityOK V) (hm : MVc σ V) (hn : NI V 109 n) (hR : RM σ V n) (hq : B205_11 d Q (best V n) σ) : ∀ (j m : Nat), (m : Int) + j = V 5 2 → B205_8 d Q (pk (fu V n) m) (m : Int) σ
  | 0, m, hj => by
    refine b205_8 ⟨fun _ => ?_, fun z => absurd (by rw [hm.2.1]; omega) z⟩
    have e : m = (V 5 2).toNat := by omega
    rw [e]; exact hq
  | j + 1, m, hj => by
    have hO := hc.2.1
    have a0 : 0 ≤ (m : Int) := by omega
    have a1 : (m : Int) < V 5 2 := by omega
    have a5 : (m : Int) < 5 := by omega
    have a3 : ¬ σ 153 3 ≤ (m : Int) := by rw [hm.2.1]; omega
    have ew : wr ((m : Int) + 1) = ((m + 1 : Nat) : Int) := by rw [wr_id (by omega) (by omega)]; omega
    have ho := hR.2.1 (m : Int) a0 a1
    have eL := (hm.2.2.2.2.2.2.1 (m : Int) a0 a1).2.1
    have n3 : n 3 (m : Int) < 2147483647 := by
      have nm := hn.2 (m : Int) a0 a1
      have kb := hc.2.2.2.2.2.1 (m : Int) a0 a1
      omega
    have ih := l205_8 hc hm hn hR hq j (m + 1) (by omega)
    have go10 : ∀ x, x = pk (fu V n) (m + 1) → B205_10 d Q x (m : Int) σ := by
      intro x hx
      refine b205_10 ?_
      rw [ew, hx]; exact ih
    clear ih hj
    refine b205_8 ⟨fun z => absurd z a3, fun _ => ⟨a0, a5, a0, a5, fun z => ?_, fun z => ⟨fun y => ?_, fun y => ⟨a0, a5, ?_⟩⟩⟩⟩
    · rw [eL, ho.2.1] at z
      refine go10 _ ?_
      have e : fu V n (m : Int) = 2147483647 := by unfold fu; rw [if_neg (Int.not_lt.mpr z)]
      rw [pk, if_pos]
      rw [e]
      rcases pk_r (fu V n) m with q | q
      · rw [if_pos q]; exact Int.le_refl _
      · rw [if_neg (by omega)]; exact Int.le_of_lt q.2.2
    · rw [eL, ho.2.1] at z
      refine b205_9 (go10 _ ?_)
      have e : fu V n (m : Int) = n 3 (m : Int) := by unfold fu; rw [if_pos (Int.not_le.mp z)]
      rw [pk, if_neg]
      rw [e, if_pos y]; exact Int.not_le.mpr n3
    · rw [eL, ho.2.1] at z
      have e : fu V n (m : Int) = n 3 (m : Int) := by unfold fu; rw [if_pos (Int.not_le.mp z)]
      rcases pk_r (fu V n) m with q | q
      · exact absurd q y
      · have qo := hR.2.1 (pk (fu V n) m) q.1 (Int.lt_trans q.2.1 a1)
        have e2 : fu V n (pk (fu V n) m) = n 3 (pk (fu V n) m) := by
          have := fu_lt q.2.2
          unfold fu
          unfold fu at this
          rw [if_pos this]
        refine ⟨q.1, Int.lt_trans q.2.1 a5, fun x => go10 _ ?_, fun x => b205_9 (go10 _ ?_)⟩
        · rw [qo.2.2, ho.2.2] at x
          rw [pk, if_pos]
          rw [if_neg y, e2, e]; exact x
        · rw [qo.2.2, ho.2.2] at x
          rw [pk, if_neg]
          rw [if_neg y, e2, e]; exact x
/-- behind the hunt -/
theorem l205_15 {n σ : dS} {b : Int} (hc : cityOK V) (hsk : skyOK V 109) (hmS : MVc S V) (hsS : MVs S V) (hn : NI V 109 n) (b0 : 0 ≤ b) (b1 : b < V 5 2) (b2 : n 2 b < V 15 b) (hF : ∀ k, ¬ nml k → σ k = S k) (hmi : ∀ r, 0 ≤ r → r < V 5 0 → σ 182 r = ns V 109 n b 0 r) (ho : ∀ o, 0 ≤ o → o < V 5 2 → σ 183 o = ns V 109 n b 1 o ∧ σ 184 o = n 2 o ∧ σ 185 o = n 3 o) (hcl : ∀ o i, 0 ≤ o → o < V 5 2 → ¬ nestb V 109 o → 0 ≤ i → i < ns V 109 n b 2 o → σ 180 (8 * o + i) = ns V 109 n b 4 (8 * o + i) ∧ σ 181 (8 * o + i) = ns V 109 n b 5 (8 * o + i)) (hq : ∀ σ', (∀ k, ¬ nml k → σ' k = S k) → RM σ' V (ns V 109 n b) → B205_7 (d + 3) Q 1 σ') : B205_15 (d + 3) Q 1 b (8 * b + n 2 b) (V 17 (8 * b + n 2 b)) σ := by
  have nb := hn.2 b b0 b1
  have kb := hc.2.2.2.2.2.1 b b0 b1
  have hh := hvl_r V 109 (n 0 (V 17 (8 * b + n 2 b))) b (n 2 b) (n 3 b)
  have hhu : 0 ≤ hu V 109 n b ∧ hu V 109 n b ≤ 30 := hh
  have hO := hc.2.1
  have hnest : ¬ nestb V 109 b := fun z => by have := nb.2.2.2 z; omega
  refine b205_15 ⟨b0, by omega, b0, by omega, ?_⟩
  intro σ1 f1
  rw [(ho b b0 b1).2.1, wr_id (by omega) (by omega)] at f1
  have F1 : ∀ k, ¬ nml k → σ1 k = S k := by
    intro k hk
    have k1 : k ≠ 184 := fun e => hk (by subst e; decide)
    rw [f1, up_k k1]
    exact hF k hk
  have hm1 := MVc_f F1 hmS
  have hs1 := MVs_f F1 hsS
  have e156 : σ1 156 b = V 15 b := (hm1.2.2.2.2.2.2.1 b b0 b1).2.1
  have e184 : σ1 184 b = n 2 b + 1 := by rw [f1, up_same]
  have fin : ∀ σ2, (∀ k, k ≠ 185 → σ2 k = σ1 k) → (∀ o, 0 ≤ o → o < V 5 2 → σ2 185 o = ns V 109 n b 3 o) → B205_16 (d + 3) Q 1 σ2 := by
    intro σ2 q1 q2
    refine b205_16 (hq σ2 (fun k hk => ?_) ⟨fun r r0 r1 => ?_, fun o o0 o1 => ⟨?_, ?_, q2 o o0 o1⟩, fun o i o0 o1 hno i0 i1 => ?_⟩)
    · have k1 : k ≠ 185 := fun e => hk (by subst e; decide)
      rw [q1 k k1]; exact F1 k hk
    · rw [q1 182 (by decide), f1, up_k (by decide)]; exact hmi r r0 r1
    · rw [q1 183 (by decide), f1, up_k (by decide)]; exact (ho o o0 o1).1
    · rw [q1 184 (by decide), f1, ns_2]
      by_cases q : o = b
      · subst q; rw [up_same, if_pos rfl]
      · rw [up_i q, if_neg q]; exact (ho o o0 o1).2.1
    · rw [q1 180 (by decide), q1 181 (by decide), f1, up_k (by decide), up_k (by decide)]
      exact hcl o i o0 o1 hno i0 i1
  rw [e156, e184]
  refine ⟨b0, by omega, b0, by omega, fun z => ?_, fun z => ?_⟩
  · refine fin σ1 (fun _ _ => rfl) (fun o o0 o1 => ?_)
    rw [ns_3, if_neg (fun q => by omega), f1, up_k (by decide)]
    exact (ho o o0 o1).2.2
  · rw [wr_id (x := 8 * b + n 2 b + 1) (by omega) (by omega)]
    have e157 : σ1 157 (8 * b + n 2 b + 1) = V 17 (8 * b + n 2 b + 1) := by
      have := (hm1.2.2.2.2.2.2.1 b b0 b1).2.2 (n 2 b + 1) (by omega) (by omega)
      rw [← Int.add_assoc] at this
      exact this
    rw [e157]
    refine ⟨by omega, by omega, by omega, by omega, ?_⟩
    refine w204 hc hm1 hs1 hsk.2.2.1 b0 b1 nb.1.1 (by omega) ?_
    have hf := fly_r (t := 109) (o := b) (kb.2.2.2 (n 2 b) nb.1.1 (by omega)).1 (kb.2.2.2 (n 2 b) nb.1.1 (by omega)).2
    have e181 : σ1 181 (8 * b + n 2 b) = n 3 b + hu V 109 n b := by
      rw [f1, up_k (by decide), (hcl b (n 2 b) b0 b1 hnest nb.1.1 (by rw [ns_2, if_pos rfl]; omega)).2, ns_5, if_pos rfl]
    refine ⟨b0, by omega, ?_⟩
    intro σ2 f2
    rw [e181, wr_id (by omega) (by omega)] at f2
    refine fin σ2 (fun k hk => by rw [f2, up_k hk]) (fun o o0 o1 => ?_)
    rw [ns_3, f2]
    by_cases q : o = b
    · subst q; rw [up_same, if_pos ⟨rfl, by omega⟩]
    · rw [up_i q, if_neg (fun z => q z.1), f1, up_k (by decide)]
      exact (ho o o0 o1).2.2
theorem l205_7 (hc : cityOK V) (hsk : skyOK V 109) (hmS : MVc S V) (hsS : MVs S V) : ∀ (m : Nat) (n σ : dS), mu V n ≤ m → NI V 109 n → (∀ k, ¬ nml k → σ k = S k) → RM σ V n → (∀ σ', (∀ k, ¬ nml k → σ' k = S k) → RM σ' V (nit V 109 m n) → Q (.inl none) σ') → B205_7 (d + 5) Q 1 σ := by
  intro m
  induction m with
  | zero =>
    intro n σ hm hn hF hR hq
    have hO := hc.2.1
    refine b205_7 ⟨fun z => absurd z (by decide), fun _ => ?_⟩
    have hb : best V n = -1 := by
      by_cases hb : best V n = -1
      · exact hb
      · have := (mu_step hc hn hb).1; omega
    refine l205_8 hc (MVc_f hF hmS) hn hR ?_ (V 5 2).toNat 0 (by omega)
    rw [hb]
    exact b205_11 ⟨fun _ => b205_12 (b205_13 ⟨fun z => absurd rfl z, fun _ => b205_7 ⟨fun _ => b205_17 (hq σ hF hR), fun z => absurd rfl z⟩⟩), fun z => absurd rfl z⟩
  | succ m ih =>
    intro n σ hm hn hF hR hq
    have hO := hc.2.1
    have hMc := MVc_f hF hmS
    have hMs := MVs_f hF hsS
    refine b205_7 ⟨fun z => absurd z (by decide), fun _ => ?_⟩
    refine l205_8 hc hMc hn hR ?_ (V 5 2).toNat 0 (by omega)
    by_cases hb : best V n = -1
    · rw [hb]
      have e : nstep V 109 n = n := by unfold nstep; rw [if_pos hb]
      rw [nit, e, nit_stop hb] at hq
      exact b205_11 ⟨fun _ => b205_12 (b205_13 ⟨fun z => absurd rfl z, fun _ => b205_7 ⟨fun _ => b205_17 (hq σ hF hR), fun z => absurd rfl z⟩⟩), fun z => absurd rfl z⟩
    · have h2 := (mu_step hc hn hb).2
      have e : nstep V 109 n = ns V 109 n (best V n) := by unfold nstep; rw [if_neg hb]
      have hni := NI_step hc hn
      rw [e] at hni
      rw [nit, e] at hq
      rcases best_r (n := n) hO.1 with eb | eb
      · exact absurd eb hb
      generalize best V n = b at *
      obtain ⟨b0, b1, b2⟩ := eb
      refine b205_11 ⟨fun z => absurd z hb, fun _ => b205_13 ⟨fun _ => b205_14 ?_, fun z => absurd (by decide) z⟩⟩
      have nb := hn.2 b b0 b1
      have kb := hc.2.2.2.2.2.1 b b0 b1
      have hRo := hc.1
      have hw := kb.2.2.1 (n 2 b) nb.1.1 b2
      have hmr := hn.1 _ hw.1 hw.2
      have hob := hR.2.1 b b0 b1
      have hhu : 0 ≤ hu V 109 n b ∧ hu V 109 n b ≤ 30 := hvl_r V 109 (n 0 (V 17 (8 * b + n 2 b))) b (n 2 b) (n 3 b)
      have e157 : σ 157 (8 * b + n 2 b) = V 17 (8 * b + n 2 b) := (hMc.2.2.2.2.2.2.1 b b0 b1).2.2 (n 2 b) nb.1.1 b2
      rw [hob.2.1, wr_id (x := 8 * b) (by omega) (by omega), wr_id (x := 8 * b + n 2 b) (by omega) (by omega), e157]
      refine ⟨b0, by omega, by omega, by omega, ?_⟩
      refine w203 hc hsk hMc hMs hn hR b0 b1 b2 (fun σ1 g1 => ?_)
      refine ⟨b0, by omega, by omega, by omega, ?_⟩
      intro σ2 f2
      rw [g1 185 (by decide) (by decide), hob.2.2] at f2
      refine ⟨b0, by omega, by omega, by omega, ?_⟩
      intro σ3 f3
      have e285 : σ2 185 b = n 3 b := by rw [f2, up_k (by decide), g1 185 (by decide) (by decide)]; exact hob.2.2
      rw [e285, wr_id (by omega) (by omega), f2] at f3
      have E3 : ∀ k, k ≠ 181 → k ≠ 180 → k ≠ 178 → k ≠ 179 → σ3 k = σ k := by
        intro k q1 q2 q3 q4
        rw [f3, up_k q1, up_k q2, g1 k q3 q4]
      have e3m : σ3 182 (V 17 (8 * b + n 2 b)) = n 0 (V 17 (8 * b + n 2 b)) := by
        rw [E3 182 (by decide) (by decide) (by decide) (by decide)]
        exact hR.1 _ hw.1 hw.2
      have fin : ∀ σ', σ' 180 = σ3 180 → σ' 181 = σ3 181 → (∀ k, k ≠ 182 → k ≠ 183 → σ' k = σ3 k) → (∀ r, 0 ≤ r → r < V 5 0 → σ' 182 r = ns V 109 n b 0 r) → (∀ o, 0 ≤ o → o < V 5 2 → σ' 183 o = ns V 109 n b 1 o) → B205_15 (d + 5) Q 1 b (8 * b + n 2 b) (V 17 (8 * b + n 2 b)) σ' := by
        intro σ' p1 p2 p5 p6 p7
        refine l205_15 hc hsk hmS hsS hn b0 b1 b2 (fun k hk => ?_) p6 (fun o o0 o1 => ⟨p7 o o0 o1, ?_, ?_⟩) (fun o i o0 o1 hno i0 i1 => ?_) (fun σ'' q1 q2 => ih _ σ'' (by omega) hni q1 q2 hq)
        · have hne : ∀ x, nml x → k ≠ x := fun x hx e => hk (e ▸ hx)
          rw [p5 k (hne _ (by decide)) (hne _ (by decide)), E3 k (hne _ (by decide)) (hne _ (by decide)) (hne _ (by decide)) (hne _ (by decide))]
          exact hF k hk
        · rw [p5 184 (by decide) (by decide), E3 184 (by decide) (by decide) (by decide) (by decide)]
          exact (hR.2.1 o o0 o1).2.1
        · rw [p5 185 (by decide) (by decide), E3 185 (by decide) (by decide) (by decide) (by decide)]
          exact (hR.2.1 o o0 o1).2.2
        · have h180 : σ3 180 = up σ1 180 (8 * b + n 2 b) (n 3 b) 180 := by rw [f3, up_k (by decide)]
          have h181 : σ3 181 = up (up σ1 180 (8 * b + n 2 b) (n 3 b)) 181 (8 * b + n 2 b) (n 3 b + hu V 109 n b) 181 := by rw [f3]
          rw [p1, p2, ns_4, ns_5, h180, h181]
          rw [ns_2] at i1
          have no := hn.2 o o0 o1
          have ko := hc.2.2.2.2.2.1 o o0 o1
          by_cases q : o = b ∧ i = n 2 b
          · rw [q.1, q.2, up_same, up_same, if_pos rfl, if_pos rfl]
            exact ⟨rfl, rfl⟩
          · have i1' : i < n 2 o := by
              by_cases q2 : o = b
              · rw [if_pos q2] at i1
                subst q2
                have : i ≠ n 2 o := fun e => q ⟨rfl, e⟩
                omega
              · rw [if_neg q2] at i1; exact i1
            have hne : 8 * o + i ≠ 8 * b + n 2 b := by omega
            rw [up_i hne, up_i hne, up_k (by decide), if_neg hne, if_neg hne, g1 180 (by decide) (by decide), g1 181 (by decide) (by decide)]
            exact hR.2.2 o i o0 o1 hno i0 i1'
      constructor
      · intro z
        refine fin σ3 rfl rfl (fun _ _ _ => rfl) (fun r r0 r1 => ?_) (fun o o0 o1 => ?_)
        · rw [ns_0, if_neg (fun q => by omega), E3 182 (by decide) (by decide) (by decide) (by decide)]
          exact hR.1 r r0 r1
        · rw [ns_1, if_neg (fun q => by omega), E3 183 (by decide) (by decide) (by decide) (by decide)]
          exact (hR.2.1 o o0 o1).1
      · intro z
        refine ⟨hw.1, by omega, ?_⟩
        rw [e3m]
        constructor
        · intro y
          refine fin σ3 rfl rfl (fun _ _ _ => rfl) (fun r r0 r1 => ?_) (fun o o0 o1 => ?_)
          · rw [ns_0, if_neg (fun q => by omega), E3 182 (by decide) (by decide) (by decide) (by decide)]
            exact hR.1 r r0 r1
          · rw [ns_1, if_neg (fun q => by omega), E3 183 (by decide) (by decide) (by decide) (by decide)]
            exact (hR.2.1 o o0 o1).1
        · intro y
          refine ⟨hw.1, by omega, hw.1, by omega, ?_⟩
          intro σ4 f4
          rw [wr_id (by omega) (by omega)] at f4
          refine ⟨b0, by omega, b0, by omega, ?_⟩
          intro σ5 f5
          have e4 : σ4 183 b = n 1 b := by
            rw [f4, up_k (by decide), E3 183 (by decide) (by decide) (by decide) (by decide)]
            exact hob.1
          rw [e4, wr_id (by omega) (by omega), f4] at f5
          refine fin σ5 ?_ ?_ (fun k q1 q2 => ?_) (fun r r0 r1 => ?_) (fun o o0 o1 => ?_)
          · rw [f5, up_k (by decide), up_k (by decide)]
          · rw [f5, up_k (by decide), up_k (by decide)]
          · rw [f5, up_k q2, up_k q1]
          · rw [ns_0, f5, up_k (by decide)]
            by_cases q : r = V 17 (8 * b + n 2 b)
            · subst q
              rw [up_same, if_pos ⟨by omega, by omega, rfl⟩]
            · rw [up_i q, if_neg (fun z => q z.2.2), E3 182 (by decide) (by decide) (by decide) (by decide)]
              exact hR.1 r r0 r1
          · rw [ns_1, f5]
            by_cases q : o = b
            · subst q
              rw [up_same, if_pos ⟨by omega, by omega, rfl⟩]
            · rw [up_i q, up_k (by decide), if_neg (fun z => q z.2.2), E3 183 (by decide) (by decide) (by decide) (by decide)]
              exact (hR.2.1 o o0 o1).1
theorem l205_3 (hc : cityOK V) (hsk : skyOK V 109) (hmS : MVc S V) (hsS : MVs S V) (hq : ∀ σ', (∀ k, ¬ nml k → σ' k = S k) → RM σ' V (NF V 109) → Q (.inl none) σ') : ∀ (m : Nat) (x1 : Int) (σ : dS), 0 ≤ x1 → x1 + m = V 5 2 → (∀ k, ¬ nml k → σ k = S k) → (∀ r, 0 ≤ r → r < V 5 0 → σ 182 r = 2 * V 111 r) → (∀ o, 0 ≤ o → o < x1 → σ 183 o = 0 ∧ σ 184 o = (if nestb V 109 o then V 15 o else 0) ∧ σ 185 o = V 113 o) → B205_3 (d + 5) Q x1 σ
  | 0, x1, σ, h0, hm, hF, hmi, ho => by
    have hMc := MVc_f hF hmS
    refine b205_3 ⟨fun _ => b205_6 ?_, fun z => absurd (by rw [hMc.2.1]; omega) z⟩
    refine l205_7 hc hsk hmS hsS 40 (N0 V 109) σ (mu_0 hc) (N0_I hc hsk) hF ⟨hmi, fun o o0 o1 => ho o o0 (by omega), fun o i o0 o1 hno i0 i1 => ?_⟩ hq
    have : (if nestb V 109 o then V 15 o else 0) = 0 := if_neg hno
    exact absurd i1 (by show ¬ i < (if nestb V 109 o then V 15 o else 0); omega)
  | m + 1, x1, σ, h0, hm, hF, hmi, ho => by
    have hO := hc.2.1
    have hMc := MVc_f hF hmS
    refine b205_3 ⟨fun z => absurd z (by rw [hMc.2.1]; omega), fun _ => ⟨h0, by omega, ?_⟩⟩
    intro σ1 f1
    have F1 : ∀ k, ¬ nml k → σ1 k = S k := by
      intro k hk
      have k1 : k ≠ 183 := fun e => hk (by subst e; decide)
      rw [f1, up_k k1]
      exact hF k hk
    have hM1 := MVc_f F1 hmS
    have hS1 := MVs_f F1 hsS
    refine w202 hS1.2.2.2.1 ?_
    have fin : ∀ v : Int, v = (if nestb V 109 x1 then V 15 x1 else 0) → B205_5 (d + 5) Q x1 v x1 σ1 := by
      intro v hv
      refine b205_5 ⟨h0, by omega, ?_⟩
      intro σ2 f2
      rw [f1] at f2
      rw [wr_id (x := 14 + x1) (by omega) (by omega), wr_id (x := x1 + 1) (by omega) (by omega)]
      refine ⟨by omega, by omega, h0, by omega, ?_⟩
      intro σ3 f3
      have e : σ2 174 (14 + x1) = V 113 x1 := by
        rw [f2, up_k (by decide), up_k (by decide)]
        exact (MVs_f hF hsS).2.2.2.2.2 x1 h0 (by omega)
      rw [e, f2] at f3
      refine l205_3 hc hsk hmS hsS hq m (x1 + 1) σ3 (by omega) (by omega) (fun k hk => ?_) (fun r r0 r1 => ?_) (fun o o0 o1 => ?_)
      · have hne : ∀ x, nml x → k ≠ x := fun x hx e => hk (e ▸ hx)
        rw [f3, up_k (hne _ (by decide)), up_k (hne _ (by decide)), up_k (hne _ (by decide))]
        exact hF k hk
      · rw [f3, up_k (by decide), up_k (by decide), up_k (by decide)]; exact hmi r r0 r1
      · by_cases q : o = x1
        · subst q
          simp [f3, up, hv]
        · have := ho o o0 (by omega)
          rw [f3]
          simp [up, q]
          exact this
    have e156 : σ1 156 x1 = V 15 x1 := (hM1.2.2.2.2.2.2.1 x1 h0 (by omega)).2.1
    constructor
    · intro z
      refine b205_4 (fin _ ?_)
      by_cases y : nestb V 109 x1
      · rw [if_pos y] at z; omega
      · rw [if_neg y]
    · intro z
      refine ⟨h0, by omega, fin _ ?_⟩
      by_cases y : nestb V 109 x1
      · rw [if_pos y]; exact e156
      · rw [if_neg y] at z; exact absurd rfl z
theorem l205_1 (hc : cityOK V) (hsk : skyOK V 109) (hmS : MVc S V) (hsS : MVs S V) (hq : ∀ σ', (∀ k, ¬ nml k → σ' k = S k) → RM σ' V (NF V 109) → Q (.inl none) σ') : ∀ (m : Nat) (x1 : Int) (σ : dS), 0 ≤ x1 → x1 + m = V 5 0 → (∀ k, ¬ nml k → σ k = S k) → (∀ r, 0 ≤ r → r < x1 → σ 182 r = 2 * V 111 r) → B205_1 (d + 5) Q x1 σ
  | 0, x1, σ, h0, hm, hF, hmi => by
    have hO := hc.2.1
    have hMc := MVc_f hF hmS
    exact b205_1 ⟨fun _ => b205_2 (l205_3 hc hsk hmS hsS hq (V 5 2).toNat 0 σ (by omega) (by omega) hF (fun r r0 r1 => hmi r r0 (by omega)) (fun o o0 o1 => absurd o1 (by omega))), fun z => absurd (by rw [hMc.1]; omega) z⟩
  | m + 1, x1, σ, h0, hm, hF, hmi => by
    have hO := hc.1
    have hMc := MVc_f hF hmS
    have hMs := MVs_f hF hsS
    have hg := hsk.2.2.2.2.1 x1 h0 (by omega)
    have hg' : 0 ≤ V 111 x1 ∧ V 111 x1 ≤ 9 := hg
    refine b205_1 ⟨fun z => absurd z (by rw [hMc.1]; omega), fun _ => ?_⟩
    rw [wr_id (x := 4 + x1) (by omega) (by omega), hMs.2.2.2.2.1 x1 h0 (by omega), wr_id (x := x1 + 1) (by omega) (by omega)]
    refine ⟨by omega, by omega, h0, by omega, ?_⟩
    intro σ1 f1
    rw [wr_id (by omega) (by omega)] at f1
    refine l205_1 hc hsk hmS hsS hq m (x1 + 1) σ1 (by omega) (by omega) (fun k hk => ?_) (fun r r0 r1 => ?_)
    · have hne : ∀ x, nml x → k ≠ x := fun x hx e => hk (e ▸ hx)
      rw [f1, up_k (hne _ (by decide))]
      exact hF k hk
    · rw [f1]
      by_cases q : r = x1
      · rw [q, up_same]
      · rw [up_i q]; exact hmi r r0 (by omega)
/-- THE REFERENCE'S NIGHT, by the view -/
theorem w205 {K : dS → Prop} (hc : cityOK V) (hsk : skyOK V 109) (hmS : MVc S V) (hsS : MVs S V) (hq : ∀ σ', (∀ k, ¬ nml k → σ' k = S k) → RM σ' V (NF V 109) → K σ') : wV (d + 7) 205 [.inr (.inr 153)] S Q K := by
  have hO := hc.1
  exact c205 (b205_0 (l205_1 hc hsk hmS hsS hq (V 5 0).toNat 0 S (by omega) (by omega) (fun _ _ => rfl) (fun r r0 r1 => absurd r1 (by omega))))
end NM2
