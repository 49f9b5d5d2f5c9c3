/-! THE CLASS: when a rider can be at each roof -/
def un (x : Int) : Int := if x = 1000000 then 2147483647 else x
theorem un_lt {x t : Int} (h : x = 1000000 ∨ (0 ≤ x ∧ x ≤ 2000)) (ht : t ≤ 2000) : t < un x ↔ ¬ x ≤ t := by
  unfold un
  by_cases q : x = 1000000
  · rw [if_pos q]; omega
  · rw [if_neg q]; omega
theorem nit_cnt {V : dS} : ∀ (m : Nat) (n : dS), nit V 109 m n 7 0 ≤ n 7 0 + m
  | 0, n => by rw [nit]; omega
  | m + 1, n => by
    have := nit_cnt (V := V) m (nstep V 109 n)
    rw [nit]
    have e : nstep V 109 n 7 0 ≤ n 7 0 + 1 := by
      unfold nstep
      by_cases h : best V n = -1
      · rw [if_pos h]; omega
      · rw [if_neg h, ns_7, if_pos rfl]; omega
    omega
theorem NF_cnt (V : dS) : NF V 109 7 0 ≤ 40 := by
  have h : nit V 109 40 (N0 V 109) 7 0 ≤ N0 V 109 7 0 + (40 : Nat) := nit_cnt 40 (N0 V 109)
  have e : N0 V 109 7 0 = 0 := rfl
  rw [e] at h
  show nit V 109 40 (N0 V 109) 7 0 ≤ 40
  omega
section ARC
variable {d : Nat} {Q : dR → dS → Prop} {V S : dS} {p : Int}
theorem l78 (hc : cityOK V) (hs : skyOK V 109) (hV : ∀ k, cty k → S k = V k) (hR : RC S V (NF V 109)) (hq : ∀ σ', (∀ k, k ≠ 135 → k ≠ 137 → σ' k = S k) → ARR V p (AR V p) → (∀ r, 0 ≤ r → r < V 5 0 → (AR V p r = 1000000 ∨ (0 ≤ AR V p r ∧ AR V p r ≤ 2000)) ∧ σ' 135 r = un (AR V p r)) → Q (.inl none) σ') : ∀ (m : Nat) (x2 : Int) (a g : Int → Int) (σ : dS), 0 ≤ x2 → x2 + m = NF V 109 7 0 → AIs V (NF V 109) p x2 a g → (∀ k, k ≠ 135 → k ≠ 137 → σ k = S k) → (∀ r, 0 ≤ r → r < V 5 0 → σ 135 r = un (a r)) → (∀ o, 0 ≤ o → o < V 5 2 → σ 137 o = g o) → B78_1 d Q x2 σ
  | 0, x2, a, g, σ, h0, hm, hI, hF, ha, hg => by
    have e7 : σ 114 7 = NF V 109 7 0 := by rw [hF 114 (by decide) (by decide)]; exact hR.2.2.2.1
    have hA : ARR V p a := AI_end (FN_F hc hs) (by rw [← hm]; simpa using hI)
    have hE := AR_eq hA
    refine b78_1 ⟨fun _ => b78_5 (hq σ hF (Classical.epsilon_spec ⟨a, hA⟩) (fun r r0 r1 => ?_)), fun z => absurd (by rw [e7]; omega) z⟩
    rw [← hE r r0 r1]
    exact ⟨hI.1 r r0 r1, ha r r0 r1⟩
  | m + 1, x2, a, g, σ, h0, hm, hI, hF, ha, hg => by
    have hN := NF_cnt V
    have hFN := FN_F hc hs
    have hRo := hc.1
    have hO := hc.2.1
    have e7 : σ 114 7 = NF V 109 7 0 := by rw [hF 114 (by decide) (by decide)]; exact hR.2.2.2.1
    have hV17 : σ 17 = V 17 := by rw [hF 17 (by decide) (by decide)]; exact hV 17 (by decide)
    obtain ⟨b, k, q1, q2, q3, q4, q5, q6⟩ := hFN.1.2.1 x2 h0 (by omega)
    rw [hFN.2 b q2 q3] at q6
    have hbk : okc V b k := ⟨q2, q3, q4, q5, q6⟩
    have kb := hc.2.2.2.2.2.1 b q2 q3
    have e6 : rat σ 126 40 x2 = 8 * b + k := by
      rw [rat_in h0 (by omega), hF 126 (by decide) (by decide), ← q1]
      exact hR.2.2.2.2 x2 h0 (by omega)
    have next : ∀ (a' g' : Int → Int) (σ' : dS), AIs V (NF V 109) p (x2 + 1) a' g' → (∀ k, k ≠ 135 → k ≠ 137 → σ' k = S k) → (∀ r, 0 ≤ r → r < V 5 0 → σ' 135 r = un (a' r)) → (∀ o, 0 ≤ o → o < V 5 2 → σ' 137 o = g' o) → B78_4 d Q x2 σ' := by
      intro a' g' σ' p1 p2 p3 p4
      refine b78_4 ?_
      rw [wr_id (by omega) (by omega)]
      exact l78 hc hs hV hR hq m (x2 + 1) a' g' σ' (by omega) (by omega) p1 p2 p3 p4
    refine b78_1 ⟨fun z => absurd z (by rw [e7]; omega), fun _ => ⟨by decide, ?_⟩⟩
    rw [e6, irm_pos (by omega) (by omega) (by omega) (by omega), show (8 * b + k) % 8 = k by omega]
    refine ⟨fun hk => b78_2 ⟨by decide, ?_⟩, fun hk => next a g σ ?_ hF ha hg⟩
    · have hk1 : okc V b (k - 1) := ⟨q2, q3, q4, by omega, by omega⟩
      have hw := kb.2.2.1 (k - 1) (by omega) (by omega)
      have hw2 := kb.2.2.1 k q5 q6
      have cl := hR.2.2.1 b (k - 1) q2 q3 q4 (by omega) (by rw [hFN.2 b q2 q3]; omega)
      have cl2 := hR.2.2.1 b k q2 q3 q4 q5 (by rw [hFN.2 b q2 q3]; exact q6)
      have fr1 := FN_r hFN hk1
      have fr2 := FN_r hFN hbk
      have h1 := hI.1
      rw [wr_id (by omega) (by omega), idv_pos (by omega) (by omega) (by omega) (by omega), show (8 * b + k) / 8 = b by omega, show 8 * b + k - 1 = 8 * b + (k - 1) by omega, rat_in (k := 118) (by omega) (by omega), rat_in (k := 17) (by omega) (by omega), hV17, rat_in (k := 135) (by omega) (by omega), rat_in (k := 17) (by omega) (by omega), hV17, ha _ hw.1 hw.2, hF 118 (by decide) (by decide), cl.2, un_lt (h1 _ hw.1 hw.2) fr1.2.2]
      -- behind the boarding
      have go : ∀ (g' : Int → Int) (σ1 : dS), (∀ o, g' o = if o = b ∧ a (V 17 (8 * b + k - 1)) ≤ NF V 109 5 (8 * b + k - 1) then 1 else g o) → (∀ k, k ≠ 137 → σ1 k = σ k) → (∀ o, 0 ≤ o → o < V 5 2 → σ1 137 o = g' o) → B78_3 d Q x2 (8 * b + k) b (V 17 (8 * b + k)) σ1 := by
        intro g' σ1 p1 p2 p3
        have F1 : ∀ k, k ≠ 135 → k ≠ 137 → σ1 k = S k := fun k z1 z2 => by rw [p2 k z2]; exact hF k z1 z2
        refine b78_3 ?_
        rw [rat_in (k := 137) (by omega) (by omega), p3 b q2 q3, rat_in (k := 135) (by omega) (by omega), rat_in (k := 116) (by omega) (by omega), p2 135 (by decide), ha _ hw2.1 hw2.2, F1 116 (by decide) (by decide), cl2.1]
        refine ⟨fun z => next a g' σ1 (AI_go hc hFN h0 (by omega) hbk (by omega) q1 hI p1 (fun r => ?_)) F1 (fun r r0 r1 => by rw [p2 135 (by decide)]; exact ha r r0 r1) p3, fun z => ⟨fun y => next a g' σ1 (AI_go hc hFN h0 (by omega) hbk (by omega) q1 hI p1 (fun r => ?_)) F1 (fun r r0 r1 => by rw [p2 135 (by decide)]; exact ha r r0 r1) p3, fun y => ?_⟩⟩
        · rw [if_neg (fun w => z w.2.1)]
        · rw [if_neg (fun w => ?_)]
          have := (un_lt (h1 _ hw2.1 hw2.2) (by omega)).mpr (by omega : ¬ a (V 17 (8 * b + k)) ≤ NF V 109 4 (8 * b + k))
          omega
        · intro σ2 f2
          rw [rput_in (by omega) (by omega)] at f2
          have y' := (un_lt (h1 _ hw2.1 hw2.2) (by omega)).mp (by omega : NF V 109 4 (8 * b + k) < un (a (V 17 (8 * b + k))))
          refine next (fun r => if r = V 17 (8 * b + k) then NF V 109 4 (8 * b + k) else a r) g' σ2 (AI_go hc hFN h0 (by omega) hbk (by omega) q1 hI p1 (fun r => ?_)) (fun k z1 z2 => by rw [f2, up_k z1]; exact F1 k z1 z2) (fun r r0 r1 => ?_) (fun o o0 o1 => by rw [f2, up_k (by decide)]; exact p3 o o0 o1)
          · by_cases w : r = V 17 (8 * b + k)
            · rw [if_pos w, if_pos ⟨w, by omega, by omega⟩]
            · rw [if_neg w, if_neg (fun v => w v.1)]
          · rw [f2]
            by_cases w : r = V 17 (8 * b + k)
            · rw [w, up_same, if_pos rfl]
              unfold un
              rw [if_neg (by omega)]
            · rw [up_i w, if_neg w, p2 135 (by decide)]; exact ha r r0 r1
      refine ⟨fun z => go g σ (fun o => ?_) (fun _ _ => rfl) hg, fun z => ?_⟩
      · rw [if_neg (fun w => z ?_)]
        have w2 := w.2
        rw [show 8 * b + k - 1 = 8 * b + (k - 1) by omega] at w2
        exact w2
      · intro σ1 f1
        rw [rput_in (by omega) (by omega)] at f1
        refine go (fun o => if o = b then 1 else g o) σ1 (fun o => ?_) (fun k hk => by rw [f1, up_k hk]) (fun o o0 o1 => ?_)
        · by_cases w : o = b
          · have z' := Decidable.of_not_not z
            rw [show 8 * b + (k - 1) = 8 * b + k - 1 by omega] at z'
            rw [if_pos w, if_pos ⟨w, z'⟩]
          · rw [if_neg w, if_neg (fun v => w v.1)]
        · rw [f1]
          by_cases w : o = b
          · rw [w, up_same, if_pos rfl]
          · rw [up_i w, if_neg w]; exact hg o o0 o1
    · have hk0 : k = 0 := by omega
      subst hk0
      exact AI_skip hc h0 hbk q1 hI
theorem w78 {K : dS → Prop} (hc : cityOK V) (hs : skyOK V 109) (hV : ∀ k, cty k → S k = V k) (hR : RC S V (NF V 109)) (p0 : 0 ≤ p) (p1 : p < V 5 3) (hq : ∀ σ', (∀ k, k ≠ 135 → k ≠ 137 → σ' k = S k) → ARR V p (AR V p) → (∀ r, 0 ≤ r → r < V 5 0 → (AR V p r = 1000000 ∨ (0 ≤ AR V p r ∧ AR V p r ≤ 2000)) ∧ σ' 135 r = un (AR V p r)) → K σ') : wV (d + 2) 78 [.inr (.inr 133), .inl p] S Q K := by
  have hp := hc.2.2.2.2.2.2.1 p p0 p1
  have hRo := hc.1
  have hO := hc.2.1
  have hP := hc.2.2.1
  have hN := (OI_F hc hs).1
  refine c78 (b78_0 ?_)
  intro σ1 f1 σ2 f2 σ3 f3
  have F2 : ∀ k, k ≠ 135 → k ≠ 137 → σ2 k = S k := by
    intro k z1 z2
    rw [f2, f1]
    funext i
    simp [rfill, z1, z2]
  have e19 : rat σ2 19 8 p = V 19 p := by rw [rat_in p0 (by omega), F2 19 (by decide) (by decide), hV 19 (by decide)]
  have e23 : rat σ2 23 8 p = V 23 p := by rw [rat_in p0 (by omega), F2 23 (by decide) (by decide), hV 23 (by decide)]
  rw [e19, e23, rput_in (by omega) (by omega)] at f3
  refine l78 (p := p) hc hs hV hR hq (NF V 109 7 0).toNat 0 (fun r => if r = V 19 p then V 23 p else 1000000) (fun _ => 0) σ3 (by omega) (by omega) ⟨fun r r0 r1 => ?_, ?_, fun B hB hC r r0 r1 => ?_, fun o i j hi hj l hp => ?_, fun o i hi hj hp => ?_, fun o o0 o1 hg => absurd (show (0 : Int) = 1 from hg) (by decide)⟩ (fun k z1 z2 => by rw [f3, up_k z1]; exact F2 k z1 z2) (fun r r0 r1 => ?_) (fun o o0 o1 => ?_)
  · show (if r = V 19 p then V 23 p else 1000000) = 1000000 ∨ (0 ≤ (if r = V 19 p then V 23 p else 1000000) ∧ (if r = V 19 p then V 23 p else 1000000) ≤ 2000)
    by_cases w : r = V 19 p
    · rw [if_pos w]; omega
    · rw [if_neg w]; omega
  · show (if V 19 p = V 19 p then V 23 p else 1000000) ≤ V 23 p
    rw [if_pos rfl]; omega
  · show B r ≤ (if r = V 19 p then V 23 p else 1000000)
    by_cases w : r = V 19 p
    · rw [if_pos w, w]; exact hB.1
    · rw [if_neg w]; exact hC r r0 r1
  · obtain ⟨j', j0, j1, j2⟩ := hp; omega
  · obtain ⟨j', j0, j1, j2⟩ := hp; omega
  · rw [f3]
    by_cases w : r = V 19 p
    · rw [w, up_same]
      show V 23 p = un (if V 19 p = V 19 p then V 23 p else 1000000)
      rw [if_pos rfl]
      unfold un
      rw [if_neg (by omega)]
    · rw [up_i w]
      show σ2 135 r = un (if r = V 19 p then V 23 p else 1000000)
      rw [if_neg w, f2, f1]
      simp [rfill, un]
      omega
  · rw [f3, up_k (by decide), f2]
    simp [rfill]
    omega
end ARC
