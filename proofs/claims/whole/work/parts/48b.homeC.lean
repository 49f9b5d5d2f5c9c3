/-! THE CLASS: who gets home -/
/-- the minute in which rider p is home, or -1 -/
noncomputable def hmv (V : dS) (p : Int) : Int := if AR V p (V 21 p) ≤ V 5 4 then AR V p (V 21 p) else -1
/-- how many of the first k riders get home -/
noncomputable def cnh (V : dS) : Nat → Int
  | 0 => 0
  | k + 1 => cnh V k + (if hmv V (k : Int) = -1 then 0 else 1)
theorem cnh_r (V : dS) : ∀ k : Nat, 0 ≤ cnh V k ∧ cnh V k ≤ k
  | 0 => by simp [cnh]
  | k + 1 => by
    have := cnh_r V k
    rw [cnh]
    by_cases h : hmv V (k : Int) = -1
    · rw [if_pos h]; omega
    · rw [if_neg h]; omega
/-- how many get home -/
noncomputable def hms (V : dS) : Int := cnh V (V 5 3).toNat
theorem hms_r {V : dS} (hc : cityOK V) : 0 ≤ hms V ∧ hms V ≤ V 5 3 := by
  have := cnh_r V (V 5 3).toNat
  have := hc.2.2.1
  unfold hms
  omega
abbrev rcl (k : Nat) : Prop := k = 135 ∨ k = 137
theorem RC_f {σ S V n : dS} (hF : ∀ k, ¬ rcl k → σ k = S k) (h : RC S V n) : RC σ V n := by
  unfold RC
  rw [hF 120 (by decide), hF 122 (by decide), hF 124 (by decide), hF 116 (by decide), hF 118 (by decide), hF 114 (by decide), hF 126 (by decide)]
  exact h
section HC
variable {d : Nat} {Q : dR → dS → Prop} {V S : dS} {p : Int}
theorem w79 {K : Int → dS → Prop} (hc : cityOK V) (hs : skyOK V 109) (hV : ∀ k, cty k → S k = V k) (hR : RC S V (NF V 109)) (p0 : 0 ≤ p) (p1 : p < V 5 3) (hq : ∀ σ', (∀ k, ¬ rcl k → σ' k = S k) → ARR V p (AR V p) → (∀ r, 0 ≤ r → r < V 5 0 → (AR V p r = 1000000 ∨ (0 ≤ AR V p r ∧ AR V p r ≤ 2000)) ∧ σ' 135 r = un (AR V p r)) → K (hmv V p) σ') : wI (d + 4) 79 [.inr (.inr 133), .inl p] S Q K := by
  have hp := hc.2.2.2.2.2.2.1 p p0 p1
  have hRo := hc.1
  have hP := hc.2.2.1
  have hD := hc.2.2.2.1
  refine c79 (b79_0 ?_)
  refine w78 hc hs hV hR p0 p1 (fun σ1 g1 g2 g3 => ?_)
  have q := g3 (V 21 p) hp.2.1.1 hp.2.1.2
  have e21 : rat σ1 21 8 p = V 21 p := by rw [rat_in p0 (by omega), g1 21 (by decide) (by decide), hV 21 (by decide)]
  have e135 : rat σ1 135 10 (V 21 p) = un (AR V p (V 21 p)) := by rw [rat_in (by omega) (by omega), q.2]
  have e5 : σ1 5 4 = V 5 4 := by rw [g1 5 (by decide) (by decide), hV 5 (by decide)]
  have hh := hq σ1 (fun k hk => g1 k (fun e => hk (Or.inl e)) (fun e => hk (Or.inr e))) g2 g3
  unfold hmv at hh
  rw [e21, e135, e5, un_lt q.1 (by omega)]
  refine ⟨fun z => b79_1 (b79_2 ?_), fun z => b79_2 ?_⟩
  · rw [if_neg z] at hh; exact hh
  · have z' := Decidable.of_not_not z
    rw [if_pos z'] at hh
    have : un (AR V p (V 21 p)) = AR V p (V 21 p) := by unfold un; rw [if_neg (by omega)]
    rw [this]; exact hh
theorem l80 (hc : cityOK V) (hs : skyOK V 109) (hq : ∀ σ', (∀ k, ¬ rcl k → σ' k = S k) → Q (.inl (some (.inl (hms V)))) σ') (hV : ∀ k, cty k → S k = V k) (hR : RC S V (NF V 109)) : ∀ (j m : Nat) (σ : dS), (m : Int) + j = V 5 3 → (∀ k, ¬ rcl k → σ k = S k) → B80_1 (d + 3) Q (cnh V m) (m : Int) σ
  | 0, m, σ, hj, hF => by
    have e5 : σ 5 3 = V 5 3 := by rw [hF 5 (by decide), hV 5 (by decide)]
    have em : m = (V 5 3).toNat := by omega
    refine b80_1 ⟨fun _ => b80_4 ?_, fun z => absurd (by rw [e5]; omega) z⟩
    rw [em]
    exact hq σ hF
  | j + 1, m, σ, hj, hF => by
    have hP := hc.2.2.1
    have hr := cnh_r V m
    have e5 : σ 5 3 = V 5 3 := by rw [hF 5 (by decide), hV 5 (by decide)]
    have hV' : ∀ k, cty k → σ k = V k := fun k hk => by rw [hF k (by omega)]; exact hV k hk
    refine b80_1 ⟨fun z => absurd z (by rw [e5]; omega), fun _ => ?_⟩
    refine w79 hc hs hV' (RC_f hF hR) (by omega) (by omega) (fun σ1 g1 _ _ => ?_)
    have F1 : ∀ k, ¬ rcl k → σ1 k = S k := fun k hk => by rw [g1 k hk]; exact hF k hk
    have ih := l80 hc hs hq hV hR j (m + 1) σ1 (by omega) F1
    have go : ∀ v : Int, v = (if hmv V (m : Int) = -1 then 0 else 1) → B80_3 (d + 3) Q (m : Int) v (cnh V m) σ1 := by
      intro v hv
      refine b80_3 ?_
      have ec : cnh V (m + 1) = cnh V m + v := by rw [cnh, hv]
      have hv2 : 0 ≤ v ∧ v ≤ 1 := by
        rw [hv]
        by_cases h : hmv V (m : Int) = -1
        · rw [if_pos h]; omega
        · rw [if_neg h]; omega
      rw [wr_id (by omega) (by omega), wr_id (by omega) (by omega), ← ec]
      exact ih
    refine ⟨fun z => b80_2 (go 1 ?_), fun z => go 0 ?_⟩
    · rw [if_neg z]
    · rw [if_pos (Decidable.of_not_not z)]
theorem w80 {K : Int → dS → Prop} (hc : cityOK V) (hs : skyOK V 109) (hV : ∀ k, cty k → S k = V k) (hR : RC S V (NF V 109)) (hq : ∀ σ', (∀ k, ¬ rcl k → σ' k = S k) → K (hms V) σ') : wI (d + 6) 80 [.inr (.inr 133)] S Q K := by
  have hP := hc.2.2.1
  exact c80 (b80_0 (l80 hc hs hq hV hR (V 5 3).toNat 0 S (by omega) (fun _ _ => rfl)))
/-- how many get home under sky 70 -/
theorem w126_70 {K : Int → dS → Prop} (hc : cityOK S) (hs : skyOK S 70) (hq : ∀ σ', (∀ k, ¬ ncl k → ¬ rcl k → σ' k = S k) → K (hms (nrm S 70)) σ') : wI (d + 9) 126 [.inr (.inr 0), .inr (.inr 70)] S Q K := by
  refine c126_70 (b126_70_0 ?_)
  refine v68_70 hc hs (fun σ1 g1 g2 => ?_)
  refine w80 (V := nrm S 70) (cityOK_nrm hc) (skyOK_nrm hs) (fun k hk => ?_) g2 (fun σ2 g3 => ?_)
  · rw [nrm_c hk]; exact g1 k (by omega)
  · exact hq σ2 (fun k h1 h2 => by rw [g3 k h2]; exact g1 k h1)
/-- how many get home under sky 109 -/
theorem w126_109 {K : Int → dS → Prop} (hc : cityOK S) (hs : skyOK S 109) (hq : ∀ σ', (∀ k, ¬ ncl k → ¬ rcl k → σ' k = S k) → K (hms (nrm S 109)) σ') : wI (d + 9) 126 [.inr (.inr 0), .inr (.inr 109)] S Q K := by
  refine c126_109 (b126_109_0 ?_)
  refine v68_109 hc hs (fun σ1 g1 g2 => ?_)
  refine w80 (V := nrm S 109) (cityOK_nrm hc) (skyOK_nrm hs) (fun k hk => ?_) g2 (fun σ2 g3 => ?_)
  · rw [nrm_c hk]; exact g1 k (by omega)
  · exact hq σ2 (fun k h1 h2 => by rw [g3 k h2]; exact g1 k h1)
end HC
