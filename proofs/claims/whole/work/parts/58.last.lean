/-! the last owl -/
noncomputable def brg (V : dS) (p o m : Int) : Nat → Int → Int → Int
  | 0, _, _ => 0
  | k + 1, i, on => if on ≠ 0 ∧ V 17 (8 * o + i) = V 21 p ∧ NF V 109 4 (8 * o + i) = m then 1 else brg V p o m k (i + 1) (if on ≠ 0 ∨ AR V p (V 17 (8 * o + i)) ≤ NF V 109 5 (8 * o + i) then 1 else 0)
noncomputable def lso (V : dS) (p m : Int) : Nat → Int → Int
  | 0, _ => -1
  | k + 1, o => if (if nestb V 109 o then 0 else brg V p o m (V 15 o).toNat 0 0) = 1 then o else lso V p m k (o + 1)
noncomputable def lsV (V : dS) (p : Int) : Int := if hmv V p = -1 ∨ V 19 p = V 21 p then -1 else lso V p (hmv V p) (V 5 2).toNat 0
theorem brg_r (V : dS) (p o m : Int) : ∀ (k : Nat) (i on : Int), brg V p o m k i on = 0 ∨ brg V p o m k i on = 1
  | 0, _, _ => Or.inl rfl
  | k + 1, i, on => by
    unfold brg
    by_cases z : on ≠ 0 ∧ V 17 (8 * o + i) = V 21 p ∧ NF V 109 4 (8 * o + i) = m
    · rw [if_pos z]; exact Or.inr rfl
    · rw [if_neg z]; exact brg_r V p o m k (i + 1) _
section LAST
variable {d : Nat} {Q : dR → dS → Prop} {σ V S : dS} {p : Int}
theorem l84 {o m : Int} (hc : cityOK V) (hs : skyOK V 109) (hV : ∀ k, cty k → S k = V k) (hR : RC S V (NF V 109)) (hA : ∀ r, 0 ≤ r → r < V 5 0 → (AR V p r = 1000000 ∨ (0 ≤ AR V p r ∧ AR V p r ≤ 2000)) ∧ S 135 r = un (AR V p r)) (o0 : 0 ≤ o) (o1 : o < V 5 2) (hn : ¬ nestb V 109 o) : ∀ (k : Nat) (i on : Int), 0 ≤ i → i + k = V 15 o → (on = 0 ∨ on = 1) → Q (.inl (some (.inl (brg V p o m k i on)))) S → B84_1 d Q (V 21 p) o m on i S
  | 0, i, on, i0, hi, hon, hq => by
    have hO := hc.2.1
    have kb := hc.2.2.2.2.2.1 o o0 o1
    have e124 : rat S 124 5 o = V 15 o := by rw [rat_in o0 (by omega), (hR.2.1 o o0 o1).2, if_neg hn, (NF_done hc hs).2 o o0 o1]
    exact b84_1 ⟨fun _ => b84_6 ⟨Or.inl rfl, hq⟩, fun z => absurd (by omega) z⟩
  | k + 1, i, on, i0, hi, hon, hq => by
    have hO := hc.2.1
    have hRo := hc.1
    have kb := hc.2.2.2.2.2.1 o o0 o1
    have e124 : rat S 124 5 o = V 15 o := by rw [rat_in o0 (by omega), (hR.2.1 o o0 o1).2, if_neg hn, (NF_done hc hs).2 o o0 o1]
    have ew : wr (wr (o * 8) + i) = 8 * o + i := by rw [wr_id (x := o * 8) (by omega) (by omega), wr_id (by omega) (by omega)]; omega
    have hk : okc V o i := ⟨o0, o1, hn, i0, by omega⟩
    have cl := hR.2.2.1 o i o0 o1 hn i0 (by rw [(NF_done hc hs).2 o o0 o1]; omega)
    have hr := FN_r (FN_F hc hs) hk
    have rr := kb.2.2.1 i i0 (by omega)
    have a := hA _ rr.1 rr.2
    have e17 : rat S 17 40 (8 * o + i) = V 17 (8 * o + i) := by rw [rat_in (by omega) (by omega), hV 17 (by decide)]
    have e116 : rat S 116 40 (8 * o + i) = NF V 109 4 (8 * o + i) := by rw [rat_in (by omega) (by omega), cl.1]
    have e118 : rat S 118 40 (8 * o + i) = NF V 109 5 (8 * o + i) := by rw [rat_in (by omega) (by omega), cl.2]
    have e135 : rat S 135 10 (V 17 (8 * o + i)) = un (AR V p (V 17 (8 * o + i))) := by rw [rat_in rr.1 (by omega), a.2]
    rw [brg] at hq
    refine b84_1 ⟨fun z => absurd z (by omega), fun _ => ?_⟩
    rw [ew, e17, e116]
    have go : ¬ (on ≠ 0 ∧ V 17 (8 * o + i) = V 21 p ∧ NF V 109 4 (8 * o + i) = m) → B84_2 d Q (V 21 p) o m on i (8 * o + i) (V 17 (8 * o + i)) S := by
      intro z
      rw [if_neg z] at hq
      have nx : ∀ v, v = (if on ≠ 0 ∨ AR V p (V 17 (8 * o + i)) ≤ NF V 109 5 (8 * o + i) then 1 else 0) → B84_5 d Q (V 21 p) o m i v S := by
        intro v hv
        refine b84_5 ?_
        rw [wr_id (by omega) (by omega)]
        refine l84 hc hs hV hR hA o0 o1 hn k (i + 1) v (by omega) (by omega) ?_ (by rw [hv]; exact hq)
        rw [hv]
        by_cases q : on ≠ 0 ∨ AR V p (V 17 (8 * o + i)) ≤ NF V 109 5 (8 * o + i)
        · rw [if_pos q]; exact Or.inr rfl
        · rw [if_neg q]; exact Or.inl rfl
      refine b84_2 ⟨fun y => b84_3 (nx 1 ?_), fun y => ?_⟩
      · rw [if_pos (Or.inl y)]
      · rw [e118, e135, un_lt a.1 (by omega)]
        refine ⟨fun x => b84_4 (nx 0 ?_), fun x => b84_3 (nx 1 ?_)⟩
        · rw [if_neg (fun q => q.elim y x)]
        · rw [if_pos (Or.inr (Decidable.of_not_not x))]
    refine ⟨fun z => go (fun q => q.1 z), fun z => ⟨fun y => go (fun q => y q.2.1), fun y => ⟨fun x => go (fun q => x q.2.2), fun x => ⟨Or.inr rfl, ?_⟩⟩⟩⟩
    rw [if_pos ⟨z, Decidable.of_not_not y, Decidable.of_not_not x⟩] at hq
    exact hq
theorem w84 {K : Int → dS → Prop} {o m : Int} (hc : cityOK V) (hs : skyOK V 109) (hV : ∀ k, cty k → S k = V k) (hR : RC S V (NF V 109)) (hA : ∀ r, 0 ≤ r → r < V 5 0 → (AR V p r = 1000000 ∨ (0 ≤ AR V p r ∧ AR V p r ≤ 2000)) ∧ S 135 r = un (AR V p r)) (o0 : 0 ≤ o) (o1 : o < V 5 2) (h : K (if nestb V 109 o then 0 else brg V p o m (V 15 o).toNat 0 0) S) : wI (d + 2) 84 [.inr (.inr 133), .inl (V 21 p), .inl o, .inl m] S Q K := by
  have hO := hc.2.1
  have kb := hc.2.2.2.2.2.1 o o0 o1
  refine c84 (b84_0 ?_)
  by_cases z : nestb V 109 o
  · rw [if_pos z] at h
    have e124 : rat S 124 5 o = 0 := by rw [rat_in o0 (by omega), (hR.2.1 o o0 o1).2, if_pos z]
    exact b84_1 ⟨fun _ => b84_6 ⟨Or.inl rfl, h⟩, fun y => absurd (by rw [e124]; decide) y⟩
  · rw [if_neg z] at h
    exact l84 hc hs hV hR hA o0 o1 z (V 15 o).toNat 0 0 (by omega) (by omega) (Or.inl rfl) h
theorem l83 {m : Int} (hc : cityOK V) (hs : skyOK V 109) (hV : ∀ k, cty k → S k = V k) (hR : RC S V (NF V 109)) (hA : ∀ r, 0 ≤ r → r < V 5 0 → (AR V p r = 1000000 ∨ (0 ≤ AR V p r ∧ AR V p r ≤ 2000)) ∧ S 135 r = un (AR V p r)) : ∀ (k : Nat) (o : Int), 0 ≤ o → o + k = V 5 2 → Q (.inl (some (.inl (lso V p m k o)))) S → B83_3 (d + 2) Q m (V 21 p) o S
  | 0, o, o0, ho, hq => by
    have e5 : S 5 2 = V 5 2 := by rw [hV 5 (by decide)]
    exact b83_3 ⟨fun _ => b83_5 hq, fun z => absurd (by omega) z⟩
  | k + 1, o, o0, ho, hq => by
    have hO := hc.2.1
    have e5 : S 5 2 = V 5 2 := by rw [hV 5 (by decide)]
    rw [lso] at hq
    refine b83_3 ⟨fun z => absurd z (by omega), fun _ => w84 hc hs hV hR hA o0 (by omega) ?_⟩
    refine ⟨fun z => b83_4 ?_, fun z => ?_⟩
    · rw [z, if_neg (by decide)] at hq
      rw [wr_id (by omega) (by omega)]
      exact l83 hc hs hV hR hA k (o + 1) (by omega) (by omega) hq
    · rw [if_pos] at hq
      · exact hq
      · by_cases w : nestb V 109 o
        · rw [if_pos w] at z; exact absurd rfl z
        · rw [if_neg w] at z ⊢; exact (brg_r _ _ _ _ _ _ _).resolve_left z
theorem x_last {K : Int → dS → Prop} (hI : INV σ) (h1 : 0 ≤ p → p < σ 5 3 → ∀ σ', FRM σ σ' → K (lsV (nrm σ 70) p) σ') (h2 : ¬ (0 ≤ p ∧ p < σ 5 3) → Q (.inr 0) σ) : wI (d + 9) 123 [.inr (.inr 0), .inl p] σ Q K := by
  have hP := (INV_c hI).2.2.1
  have e5 : nrm σ 70 5 = σ 5 := nrm_c (k := 5) (by decide)
  refine c123 (b123_0 (w111 (fun p0 p1 => v70 hI (fun σ1 g1 g2 g3 g4 => c83 (b83_0 ?_))) h2))
  refine w79 (INV_vc hI) (INV_vs hI) g3 g4 p0 (by rw [e5]; exact p1) (fun σ2 g5 g6 g7 => ?_)
  have hh := h1 p0 p1 σ2 (FRM_n (fun k q1 q2 => by rw [g5 k q2]; exact g2 k q1))
  have hV2 : ∀ k, cty k → σ2 k = nrm σ 70 k := fun k hk => by rw [g5 k (cty_x hk).2.2.2.2.2.2.2]; exact g3 k hk
  unfold lsV at hh
  rw [rat_in p0 (by omega), rat_in p0 (by omega), hV2 19 (by decide), hV2 21 (by decide)]
  refine ⟨fun z => b83_1 ?_, fun z => ⟨fun y => b83_2 ?_, fun y => b83_1 ?_⟩⟩
  · rw [if_pos (Or.inl z)] at hh; exact hh
  · rw [if_neg (fun q => q.elim z y)] at hh
    have hO := (INV_vc hI).2.1
    exact l83 (INV_vc hI) (INV_vs hI) hV2 (RC_f g5 g4) g7 (nrm σ 70 5 2).toNat 0 (by omega) (by omega) hh
  · rw [if_pos (Or.inr (Decidable.of_not_not y))] at hh; exact hh
/-! the reference -/
theorem w212 {K : Int → dS → Prop} (hc : cityOK V) (hm : MVc S V) (p0 : 0 ≤ p) (p1 : p < V 5 3) (h : K (if V 19 p = V 21 p then 1 else 0) S) : wI (d + 4) 212 [.inr (.inr 153), .inl p] S Q K := by
  have hP := hc.2.2.1
  have e := hm.2.2.2.2.2.2.2.1 p p0 p1
  refine c212 (b212_0 ?_)
  rw [wr_id (x := 4 * p) (by omega) (by omega)]
  refine ⟨by omega, by omega, w210 hc hm p0 p1 ?_⟩
  rw [e.1]
  refine ⟨fun z => b212_1 (b212_2 ⟨Or.inl rfl, ?_⟩), fun z => b212_2 ⟨Or.inr rfl, ?_⟩⟩
  · rw [if_neg z] at h; exact h
  · rw [if_pos (Decidable.of_not_not z)] at h; exact h
theorem l237_5 {o m : Int} (hc : cityOK V) (hs : skyOK V 109) (hM : MN S V) (hA : ∀ r, 0 ≤ r → r < V 5 0 → 0 ≤ AR V p r ∧ AR V p r ≤ 1000000 ∧ S 186 r = AR V p r) (p0 : 0 ≤ p) (p1 : p < V 5 3) (o0 : 0 ≤ o) (o1 : o < V 5 2) (hn : ¬ nestb V 109 o) : ∀ (k : Nat) (i on : Int), 0 ≤ i → i + k = V 15 o → (on = 0 ∨ on = 1) → (brg V p o m k i on = 1 → Q (.inl (some (.inl o))) S) → (brg V p o m k i on = 0 → B237_10 (d + 2) Q p m o S) → B237_5 (d + 2) Q p m o on i S
  | 0, i, on, i0, hi, hon, h1, h0 => by
    have hO := hc.2.1
    have mo := hM.1.2.2.2.2.2.2.1 o o0 o1
    exact b237_5 ⟨o0, by omega, fun _ => h0 rfl, fun z => absurd (by rw [mo.2.1]; omega) z⟩
  | k + 1, i, on, i0, hi, hon, h1, h0 => by
    have hO := hc.2.1
    have hRo := hc.1
    have kb := hc.2.2.2.2.2.1 o o0 o1
    have mo := hM.1.2.2.2.2.2.2.1 o o0 o1
    have ew : wr (wr (8 * o) + i) = 8 * o + i := by rw [wr_id (x := 8 * o) (by omega) (by omega), wr_id (by omega) (by omega)]
    have hk : okc V o i := ⟨o0, o1, hn, i0, by omega⟩
    have cl := hM.2.2.2.2 o i o0 o1 hn i0 (by rw [(NF_done hc hs).2 o o0 o1]; omega)
    have rr := kb.2.2.1 i i0 (by omega)
    have a := hA _ rr.1 rr.2
    rw [brg] at h1 h0
    refine b237_5 ⟨o0, by omega, fun z => absurd z (by rw [mo.2.1]; omega), fun _ => w202 (V := V) hM.2.1.2.2.2.1 ?_⟩
    rw [if_neg hn, ew, mo.2.2 i i0 (by omega)]
    have go : ¬ (on ≠ 0 ∧ V 17 (8 * o + i) = V 21 p ∧ NF V 109 4 (8 * o + i) = m) → B237_6 (d + 2) Q p m o on i (V 17 (8 * o + i)) S := by
      intro z
      rw [if_neg z] at h1 h0
      have nx : ∀ v, v = (if on ≠ 0 ∨ AR V p (V 17 (8 * o + i)) ≤ NF V 109 5 (8 * o + i) then 1 else 0) → B237_9 (d + 2) Q p m o i v S := by
        intro v hv
        refine b237_9 ?_
        rw [wr_id (by omega) (by omega)]
        refine l237_5 hc hs hM hA p0 p1 o0 o1 hn k (i + 1) v (by omega) (by omega) ?_ (by rw [hv]; exact h1) (by rw [hv]; exact h0)
        rw [hv]
        by_cases q : on ≠ 0 ∨ AR V p (V 17 (8 * o + i)) ≤ NF V 109 5 (8 * o + i)
        · rw [if_pos q]; exact Or.inr rfl
        · rw [if_neg q]; exact Or.inl rfl
      refine b237_6 ⟨fun y => b237_7 (nx 1 ?_), fun y => ⟨rr.1, by omega, ?_⟩⟩
      · rw [if_pos (Or.inl y)]
      · rw [ew, cl.2, a.2.2]
        refine ⟨by omega, by omega, fun x => b237_8 (nx 0 ?_), fun x => b237_7 (nx 1 ?_)⟩
        · rw [if_neg (fun q => q.elim y (fun w => by omega))]
        · rw [if_pos (Or.inr (by omega))]
    refine ⟨fun z => absurd rfl z, fun _ => ⟨by omega, by omega, fun z => go (fun q => q.1 z), fun z => w210 hc hM.1 p0 p1 ⟨fun y => go (fun q => y q.2.1), fun y => ⟨by omega, by omega, ?_⟩⟩⟩⟩
    rw [cl.1]
    exact ⟨fun x => go (fun q => x q.2.2), fun x => h1 (if_pos ⟨z, Decidable.of_not_not y, Decidable.of_not_not x⟩)⟩
theorem l237_4 {m : Int} (hc : cityOK V) (hs : skyOK V 109) (hM : MN S V) (hA : ∀ r, 0 ≤ r → r < V 5 0 → 0 ≤ AR V p r ∧ AR V p r ≤ 1000000 ∧ S 186 r = AR V p r) (p0 : 0 ≤ p) (p1 : p < V 5 3) : ∀ (k : Nat) (o : Int), 0 ≤ o → o + k = V 5 2 → Q (.inl (some (.inl (lso V p m k o)))) S → B237_4 (d + 2) Q p m o S
  | 0, o, o0, ho, hq => by
    have e3 := hM.1.2.1
    exact b237_4 ⟨fun _ => b237_11 hq, fun z => absurd (by omega) z⟩
  | k + 1, o, o0, ho, hq => by
    have hO := hc.2.1
    have e3 := hM.1.2.1
    have kb := hc.2.2.2.2.2.1 o o0 (by omega)
    have mo := hM.1.2.2.2.2.2.2.1 o o0 (by omega)
    rw [lso] at hq
    have next : (if nestb V 109 o then 0 else brg V p o m (V 15 o).toNat 0 0) = 0 → B237_10 (d + 2) Q p m o S := by
      intro z
      rw [z, if_neg (by decide)] at hq
      refine b237_10 ?_
      rw [wr_id (by omega) (by omega)]
      exact l237_4 hc hs hM hA p0 p1 k (o + 1) (by omega) (by omega) hq
    refine b237_4 ⟨fun z => absurd z (by omega), fun _ => ?_⟩
    by_cases z : nestb V 109 o
    · refine b237_5 ⟨o0, by omega, fun _ => next (if_pos z), fun _ => w202 (V := V) hM.2.1.2.2.2.1 ?_⟩
      rw [if_pos z]
      exact ⟨fun _ => next (if_pos z), fun q => absurd (by decide) q⟩
    · rw [if_neg z] at next hq
      refine l237_5 hc hs hM hA p0 p1 o0 (by omega) z (V 15 o).toNat 0 0 (by omega) (by omega) (Or.inl rfl) (fun q => ?_) next
      rw [if_pos q] at hq; exact hq
theorem m_last {K : Int → dS → Prop} (hI : INV σ) (h1 : 0 ≤ p → p < σ 5 3 → ∀ σ', FRM σ σ' → σ' 153 0 = 0 → K (lsV (nrm σ 70) p) σ') (h2 : ¬ (0 ≤ p ∧ p < σ 5 3) → ∀ σ', FRM σ σ' → σ' 153 0 = 1 → K 0 σ') : wI (d + 9) 237 [.inr (.inr 153), .inl p] σ Q K := by
  have e5' : nrm σ 70 5 = σ 5 := nrm_c (k := 5) (by decide)
  refine c237 (b237_0 ?_)
  intro σ1 f1
  obtain ⟨hT, hF1, hI1, en, e5, e1, e3, e4⟩ := m_begin hI f1
  refine w217 hT (fun p0 p1 => ⟨fun _ => b237_1 ?_, fun q => absurd (by decide) q⟩) (fun z => ⟨fun q => absurd rfl q, fun _ => h2 (by rw [e4] at z; exact z) _ (FRM_tr hF1 FRM_153) (up_same _ _ _ _)⟩)
  rw [e4] at p1
  refine v205 hI1 (fun σ2 g1 g2 g3 => ?_)
  rw [en] at g3
  refine w211 (INV_vc hI) (INV_vs hI) g3 p0 (by rw [e5']; exact p1) (fun σ3 g4 g5 g6 g7 => ?_)
  have hM3 := MN_6 g4 g3
  have hh := h1 p0 p1 σ3 (FRM_tr hF1 (FRM_nm (fun k q1 q2 => by rw [g4 k q2]; exact g2 k q1))) (by rw [g4 153 (by decide), g2 153 (by decide)]; exact hT)
  unfold lsV at hh
  unfold hmm
  by_cases z : hmv (nrm σ 70) p = -1
  · rw [if_pos z]
    rw [if_pos (Or.inl z)] at hh
    exact ⟨fun _ => b237_2 hh, fun q => absurd (by decide) q⟩
  · rw [if_neg z]
    refine ⟨fun q => absurd q (by omega), fun _ => w212 (INV_vc hI) hM3.1 p0 (by rw [e5']; exact p1) ?_⟩
    by_cases y : nrm σ 70 19 p = nrm σ 70 21 p
    · rw [if_pos y]
      rw [if_pos (Or.inr y)] at hh
      exact ⟨fun q => absurd q (by decide), fun _ => b237_2 hh⟩
    · rw [if_neg y]
      rw [if_neg (fun q => q.elim z y)] at hh
      have hO := (INV_vc hI).2.1
      exact ⟨fun _ => b237_3 (l237_4 (INV_vc hI) (INV_vs hI) hM3 g6 p0 (by rw [e5']; exact p1) (nrm σ 70 5 2).toNat 0 (by omega) (by omega) hh), fun q => absurd rfl q⟩
end LAST
