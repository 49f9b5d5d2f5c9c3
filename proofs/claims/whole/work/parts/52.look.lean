/-! CALLS THAT ONLY LOOK: count, flight, rider, home, fault -/
def bol (c : Prop) [Decidable c] : Int := if c then 1 else 0
noncomputable def cntV (σ : dS) (w : Int) : Int := if w = 0 then σ 5 0 else if w = 1 then σ 5 1 else if w = 2 then σ 5 2 else if w = 3 then σ 5 3 else if w = 4 then σ 26 0 else if w = 5 then σ 70 0 else if w = 6 then σ 5 4 else if w = 7 then σ 70 1 else if w = 8 then σ 70 2 else if w = 9 then σ 70 3 else if w = 10 then hms (nrm σ 70) else if w = 11 then σ 75 0 else if w = 12 then σ 82 0 else if w = 13 then σ 0 1 else σ 4 (w - 14)
section LOOK
variable {d : Nat} {Q : dR → dS → Prop} {σ : dS}
theorem x_fault {K : Int → dS → Prop} (h : K (σ 0 2) σ) : wI (d + 2) 101 [.inr (.inr 0)] σ Q K := c101 (b101_0 h)
theorem m_fault {K : Int → dS → Prop} (hI : INV σ) (h : ∀ σ', FRM σ σ' → K (σ 0 2) σ') : wI (d + 2) 195 [.inr (.inr 153)] σ Q K := by
  refine c195 (b195_0 ?_)
  intro σ1 f1
  have : σ1 153 17 = σ 0 2 := by rw [f1, up_i (by decide)]; exact hI.2.2.2.2.2.2.2.2.1
  rw [this, f1]
  exact h _ FRM_153
theorem x_count {K : Int → dS → Prop} {w : Int} (hI : INV σ) (h1 : 0 ≤ w → w ≤ 16 → ∀ σ', FRM σ σ' → K (cntV σ w) σ') (h2 : ¬ (0 ≤ w ∧ w ≤ 16) → Q (.inr 0) σ) : wI (d + 11) 102 [.inr (.inr 0), .inl w] σ Q K := by
  refine c102 (b102_0 ?_)
  unfold cntV at h1
  refine ⟨fun e => ?_, fun n0 => ⟨fun e => ?_, fun n1 => ⟨fun e => ?_, fun n2 => ⟨fun e => ?_, fun n3 => ⟨fun e => ?_, fun n4 => ⟨fun e => ?_, fun n5 => ⟨fun e => ?_, fun n6 => ⟨fun e => ?_, fun n7 => ⟨fun e => ?_, fun n8 => ⟨fun e => ?_, fun n9 => ⟨fun e => ?_, fun n10 => ⟨fun e => ?_, fun n11 => ⟨fun e => ?_, fun n12 => ⟨fun e => ?_, fun n13 => ⟨fun e => ?_, fun n14 => ⟨fun e => ?_, fun n15 => ⟨fun e => ?_, fun n16 => ?_⟩⟩⟩⟩⟩⟩⟩⟩⟩⟩⟩⟩⟩⟩⟩⟩⟩
  all_goals try subst e
  · exact b102_1 (by simpa using h1 (by omega) (by omega) σ (FRM_refl σ))
  · exact b102_2 (by simpa using h1 (by omega) (by omega) σ (FRM_refl σ))
  · exact b102_3 (by simpa using h1 (by omega) (by omega) σ (FRM_refl σ))
  · exact b102_4 (by simpa using h1 (by omega) (by omega) σ (FRM_refl σ))
  · exact b102_5 (by simpa using h1 (by omega) (by omega) σ (FRM_refl σ))
  · exact b102_6 (by simpa using h1 (by omega) (by omega) σ (FRM_refl σ))
  · exact b102_7 (by simpa using h1 (by omega) (by omega) σ (FRM_refl σ))
  · exact b102_8 (by simpa using h1 (by omega) (by omega) σ (FRM_refl σ))
  · have hw := (INV_s hI).2.2.1
    have := h1 (by omega) (by omega) σ (FRM_refl σ)
    simp at this
    refine b102_9 ⟨fun z => b102_10 (b102_11 ?_), fun z => b102_11 ?_⟩
    · rw [z] at this; exact this
    · rw [show σ 70 2 = 1 by omega] at this; exact this
  · exact b102_12 (by simpa using h1 (by omega) (by omega) σ (FRM_refl σ))
  · refine b102_13 (w126_70 (INV_c hI) (INV_s hI) (fun σ' g => ?_))
    have := h1 (by omega) (by omega) σ' (FRM_n g)
    simpa using this
  · exact b102_14 (by simpa using h1 (by omega) (by omega) σ (FRM_refl σ))
  · exact b102_15 (by simpa using h1 (by omega) (by omega) σ (FRM_refl σ))
  · exact b102_16 (by simpa using h1 (by omega) (by omega) σ (FRM_refl σ))
  · refine b102_17 ?_
    rw [rat_in (by omega) (by omega)]
    simpa using h1 (by omega) (by omega) σ (FRM_refl σ)
  · refine b102_18 ?_
    rw [rat_in (by omega) (by omega)]
    simpa using h1 (by omega) (by omega) σ (FRM_refl σ)
  · refine b102_19 ?_
    rw [rat_in (by omega) (by omega)]
    simpa using h1 (by omega) (by omega) σ (FRM_refl σ)
  · exact b102_20 (h2 (by omega))
theorem m_count {K : Int → dS → Prop} {w : Int} (hI : INV σ) (h1 : 0 ≤ w → w ≤ 16 → ∀ σ', FRM σ σ' → σ' 153 0 = 0 → K (cntV σ w) σ') (h2 : ¬ (0 ≤ w ∧ w ≤ 16) → ∀ σ', FRM σ σ' → σ' 153 0 = 1 → K 0 σ') : wI (d + 10) 214 [.inr (.inr 153), .inl w] σ Q K := by
  refine c214 (b214_0 ?_)
  intro σ1 f1
  have hT : σ1 153 0 = 0 := by rw [f1, up_same]
  have hF1 : FRM σ σ1 := by rw [f1]; exact FRM_153
  have hI1 := INV_F hF1 hI
  refine w159 (fun z y => w158 hT (by decide) (fun _ => ?_) (fun w => absurd w (by decide))) (fun z => w158 hT (by decide) (fun w => absurd rfl w) (fun _ => ?_))
  · have h := h1 z y
    unfold cntV at h
    have hm := hI1.2.1
    have e5 : σ1 5 = σ 5 := hF1.1 5 (by decide) (by decide) (by decide)
    have e26 : σ1 26 = σ 26 := hF1.1 26 (by decide) (by decide) (by decide)
    have e70 : σ1 70 = σ 70 := hF1.1 70 (by decide) (by decide) (by decide)
    have e4 : σ1 4 = σ 4 := hF1.1 4 (by decide) (by decide) (by decide)
    have sk := hI1.2.2.2.2.2.1
    have m1 := hm.1
    have m3 := hm.2.1
    have m4 := hm.2.2.1
    have m5 := hm.2.2.2.1
    have m6 := hm.2.2.2.2.1
    have k1 := sk.1
    have k2 := sk.2.1
    have k3 := sk.2.2.1
    have k4 := sk.2.2.2.1
    rw [e5] at m1 m3 m4 m6
    rw [e26] at m5
    rw [e70] at k1 k2 k3 k4
    refine ⟨fun _ => b214_1 ?_, fun q => absurd (by decide) q⟩
    refine ⟨fun e => ?_, fun n0 => ⟨fun e => ?_, fun n1 => ⟨fun e => ?_, fun n2 => ⟨fun e => ?_, fun n3 => ⟨fun e => ?_, fun n4 => ⟨fun e => ?_, fun n5 => ⟨fun e => ?_, fun n6 => ⟨fun e => ?_, fun n7 => ⟨fun e => ?_, fun n8 => ⟨fun e => ?_, fun n9 => ⟨fun e => ?_, fun n10 => ⟨fun e => ?_, fun n11 => ⟨fun e => ?_, fun n12 => ⟨fun e => ?_, fun n13 => ?_⟩⟩⟩⟩⟩⟩⟩⟩⟩⟩⟩⟩⟩⟩
    all_goals try subst e
    · refine b214_2 ?_
      rw [m1]; simpa using h σ1 hF1 hT
    · refine b214_3 ?_
      rw [hI1.2.2.1, e5]; simpa using h σ1 hF1 hT
    · refine b214_4 ?_
      rw [m3]; simpa using h σ1 hF1 hT
    · refine b214_5 ?_
      rw [m4]; simpa using h σ1 hF1 hT
    · refine b214_6 ?_
      rw [m5]; simpa using h σ1 hF1 hT
    · refine b214_7 ⟨by decide, by decide, ?_⟩
      rw [k1]; simpa using h σ1 hF1 hT
    · refine b214_8 ?_
      rw [m6]; simpa using h σ1 hF1 hT
    · refine b214_9 ⟨by decide, by decide, ?_⟩
      rw [k2]; simpa using h σ1 hF1 hT
    · refine b214_10 ⟨by decide, by decide, ?_⟩
      rw [k3]; simpa using h σ1 hF1 hT
    · refine b214_11 ⟨by decide, by decide, ?_⟩
      rw [k4]; simpa using h σ1 hF1 hT
    · refine b214_12 (w213 (INV_vc hI1) (INV_vs hI1) (INV_mc hI1) (INV_ms hI1) (fun σ' g => ?_))
      have := h σ' (FRM_tr hF1 (FRM_nm g)) (by rw [g 153 (by decide) (by decide)]; exact hT)
      rw [nrm_F hF1]
      simpa using this
    · refine b214_13 ?_
      have := hI1.2.2.2.2.2.2.2.2.2.2.1.1
      rw [← this, hF1.1 75 (by decide) (by decide) (by decide)]; simpa using h σ1 hF1 hT
    · refine b214_14 ?_
      have := hI1.2.2.2.2.2.2.2.2.2.2.2.1.1
      rw [← this, hF1.1 82 (by decide) (by decide) (by decide)]; simpa using h σ1 hF1 hT
    · refine b214_15 ?_
      have := hI1.2.2.2.2.2.2.1.1
      rw [this, hF1.1 0 (by decide) (by decide) (by decide)]; simpa using h σ1 hF1 hT
    · refine b214_16 ?_
      rw [wr_id (by omega) (by omega), hI1.2.2.2.2.2.2.2.1 _ (by omega) (by omega), e4]
      refine ⟨by omega, by omega, ?_⟩
      have := h σ1 hF1 hT
      rw [if_neg n0, if_neg n1, if_neg n2, if_neg n3, if_neg n4, if_neg n5, if_neg n6, if_neg n7, if_neg n8, if_neg n9, if_neg n10, if_neg n11, if_neg n12, if_neg n13] at this
      exact this
  · exact ⟨fun q => absurd rfl q, fun _ => h2 z _ (FRM_tr hF1 FRM_153) (up_same _ _ _ _)⟩
theorem x_flight {K : Int → dS → Prop} {a b : Int} (hI : INV σ) (h1 : (0 ≤ a ∧ a < σ 5 0) → (0 ≤ b ∧ b < σ 5 0) → K (if 0 < σ 9 (10 * a + b) then σ 9 (10 * a + b) else -1) σ) (h2 : ¬ ((0 ≤ a ∧ a < σ 5 0) ∧ (0 ≤ b ∧ b < σ 5 0)) → Q (.inr 0) σ) : wI (d + 4) 104 [.inr (.inr 0), .inl a, .inl b] σ Q K := by
  have hR := (INV_c hI).1
  refine c104 (b104_0 (w109 (fun a0 a1 => w109 (fun b0 b1 => w28_5 a0 (by omega) b0 (by omega) ?_) (fun z => h2 (fun q => z q.2))) (fun z => h2 (fun q => z q.1))))
  have := h1 ⟨a0, a1⟩ ⟨b0, b1⟩
  have hf := (hI.2.2.2.1.2 a b a0 (by omega) b0 (by omega)).1
  by_cases z : σ 9 (10 * a + b) = 0
  · rw [if_neg (by omega)]
    rw [if_neg (by omega)] at this
    exact this
  · rw [if_pos z]
    rw [if_pos (by omega)] at this
    exact this
theorem m_flight {K : Int → dS → Prop} {a b : Int} (hI : INV σ) (h1 : (0 ≤ a ∧ a < σ 5 0) → (0 ≤ b ∧ b < σ 5 0) → ∀ σ', FRM σ σ' → σ' 153 0 = 0 → K (if 0 < σ 9 (10 * a + b) then σ 9 (10 * a + b) else -1) σ') (h2 : ¬ ((0 ≤ a ∧ a < σ 5 0) ∧ (0 ≤ b ∧ b < σ 5 0)) → ∀ σ', FRM σ σ' → σ' 153 0 = 1 → K 0 σ') : wI (d + 6) 220 [.inr (.inr 153), .inl a, .inl b] σ Q K := by
  have hR := (INV_c hI).1
  refine c220 (b220_0 ?_)
  intro σ1 f1
  have hT : σ1 153 0 = 0 := by rw [f1, up_same]
  have hF1 : FRM σ σ1 := by rw [f1]; exact FRM_153
  have hI1 := INV_F hF1 hI
  have hm := hI1.2.1
  have e5 : σ1 5 = σ 5 := hF1.1 5 (by decide) (by decide) (by decide)
  have e9 : σ1 9 = σ 9 := hF1.1 9 (by decide) (by decide) (by decide)
  have e1 : σ1 153 1 = σ 5 0 := by rw [hm.1, e5]
  refine w215 hT (fun a0 a1 => ⟨fun q => absurd q (by decide), fun _ => w215 hT (fun b0 b1 => ⟨fun _ => b220_2 ?_, fun q => absurd (by decide) q⟩) (fun z => ⟨fun q => absurd rfl q, fun _ => b220_1 (h2 (fun q => z (by rw [e1]; exact q.2)) _ (FRM_tr hF1 FRM_153) (up_same _ _ _ _))⟩)⟩) (fun z => ⟨fun _ => b220_1 (h2 (fun q => z (by rw [e1]; exact q.1)) _ (FRM_tr hF1 FRM_153) (up_same _ _ _ _)), fun q => absurd rfl q⟩)
  rw [e1] at a1 b1
  have hh := h1 ⟨a0, a1⟩ ⟨b0, b1⟩ σ1 hF1 hT
  rw [wr_id (x := 10 * a) (by omega) (by omega), wr_id (by omega) (by omega), hm.2.2.2.2.2.1 _ (by omega) (by omega), e9]
  refine ⟨by omega, by omega, fun z => b220_3 (b220_4 ?_), fun z => ⟨by omega, by omega, b220_4 ?_⟩⟩
  · rw [if_neg (by omega)] at hh; exact hh
  · rw [if_pos (by omega)] at hh; exact hh
def ridV (σ : dS) (p w : Int) : Int := if w = 0 then σ 19 p else if w = 1 then σ 21 p else if w = 2 then σ 23 p else σ 25 p
theorem x_rider {K : Int → dS → Prop} {p w : Int} (hI : INV σ) (h1 : (0 ≤ p ∧ p < σ 5 3) → (0 ≤ w ∧ w ≤ 3) → K (ridV σ p w) σ) (h2 : ¬ ((0 ≤ p ∧ p < σ 5 3) ∧ (0 ≤ w ∧ w ≤ 3)) → Q (.inr 0) σ) : wI (d + 4) 107 [.inr (.inr 0), .inl p, .inl w] σ Q K := by
  have hP := (INV_c hI).2.2.1
  unfold ridV at h1
  refine c107 (b107_0 (w111 (fun p0 p1 => ?_) (fun z => h2 (fun q => z q.1))))
  refine ⟨fun e => b107_1 ?_, fun n0 => ⟨fun e => b107_2 ?_, fun n1 => ⟨fun e => b107_3 ?_, fun n2 => ⟨fun e => b107_4 ?_, fun n3 => b107_5 (h2 (fun q => by omega))⟩⟩⟩⟩
  all_goals
    have := h1 ⟨p0, p1⟩ (by omega)
    subst e
    rw [rat_in p0 (by omega)]
    simpa using this
theorem m_rider {K : Int → dS → Prop} {p w : Int} (hI : INV σ) (h1 : (0 ≤ p ∧ p < σ 5 3) → (0 ≤ w ∧ w ≤ 3) → ∀ σ', FRM σ σ' → σ' 153 0 = 0 → K (ridV σ p w) σ') (h2 : ¬ ((0 ≤ p ∧ p < σ 5 3) ∧ (0 ≤ w ∧ w ≤ 3)) → ∀ σ', FRM σ σ' → σ' 153 0 = 1 → K 0 σ') : wI (d + 6) 224 [.inr (.inr 153), .inl p, .inl w] σ Q K := by
  have hP := (INV_c hI).2.2.1
  refine c224 (b224_0 ?_)
  intro σ1 f1
  have hT : σ1 153 0 = 0 := by rw [f1, up_same]
  have hF1 : FRM σ σ1 := by rw [f1]; exact FRM_153
  have hI1 := INV_F hF1 hI
  have hm := hI1.2.1
  have e5 : σ1 5 = σ 5 := hF1.1 5 (by decide) (by decide) (by decide)
  have e4 : σ1 153 4 = σ 5 3 := by rw [hm.2.2.1, e5]
  refine w217 hT (fun p0 p1 => ⟨fun q => absurd q (by decide), fun _ => w218 hT (fun w0 w1 => ⟨fun q => absurd q (by decide), fun _ => ?_⟩) (fun z => ⟨fun _ => b224_1 (b224_2 (h2 (fun q => z q.2) _ (FRM_tr hF1 FRM_153) (up_same _ _ _ _))), fun q => absurd rfl q⟩)⟩) (fun z => ⟨fun _ => b224_1 (b224_2 (h2 (fun q => z (by rw [e4]; exact q.1)) _ (FRM_tr hF1 FRM_153) (up_same _ _ _ _))), fun q => absurd rfl q⟩)
  rw [e4] at p1
  have hr := hm.2.2.2.2.2.2.2.1 p p0 (by rw [e5]; exact p1)
  rw [hF1.1 19 (by decide) (by decide) (by decide), hF1.1 21 (by decide) (by decide) (by decide), hF1.1 23 (by decide) (by decide) (by decide), hF1.1 25 (by decide) (by decide) (by decide)] at hr
  have hh := h1 ⟨p0, p1⟩ ⟨w0, w1⟩ σ1 hF1 hT
  unfold ridV at hh
  rw [wr_id (x := 4 * p) (by omega) (by omega), wr_id (by omega) (by omega)]
  refine ⟨by omega, by omega, b224_2 ?_⟩
  have hw : w = 0 ∨ w = 1 ∨ w = 2 ∨ w = 3 := by omega
  rcases hw with e | e | e | e <;> subst e
  · rw [Int.add_zero, hr.1]; simpa using hh
  · rw [hr.2.1]; simpa using hh
  · rw [hr.2.2.1]; simpa using hh
  · rw [hr.2.2.2]; simpa using hh
theorem x_home {K : Int → dS → Prop} {p : Int} (hI : INV σ) (h1 : 0 ≤ p → p < σ 5 3 → ∀ σ', FRM σ σ' → K (hmv (nrm σ 70) p) σ') (h2 : ¬ (0 ≤ p ∧ p < σ 5 3) → Q (.inr 0) σ) : wI (d + 9) 120 [.inr (.inr 0), .inl p] σ Q K := by
  refine c120 (b120_0 (w111 (fun p0 p1 => v68_70 (INV_c hI) (INV_s hI) (fun σ1 g1 g2 => ?_)) h2))
  refine w79 (V := nrm σ 70) (INV_vc hI) (INV_vs hI) (fun k hk => ?_) g2 p0 (by rw [nrm_c (k := 5) (by decide)]; exact p1) (fun σ2 g3 _ _ => ?_)
  · rw [nrm_c hk]; exact g1 k (by omega)
  · exact h1 p0 p1 σ2 (FRM_n (fun k q1 q2 => by rw [g3 k q2]; exact g1 k q1))
theorem w232 {K : Int → dS → Prop} {x : Int} (h : K (if x < 1000000 then x else -1) σ) : wI (d + 2) 232 [.inl x] σ Q K := by
  refine c232 (b232_0 ⟨fun z => b232_1 (b232_2 ?_), fun z => b232_2 ?_⟩)
  · rw [if_pos z] at h; exact h
  · rw [if_neg z] at h; exact h
theorem m_home {K : Int → dS → Prop} {p : Int} (hI : INV σ) (h1 : 0 ≤ p → p < σ 5 3 → ∀ σ', FRM σ σ' → σ' 153 0 = 0 → K (hmv (nrm σ 70) p) σ') (h2 : ¬ (0 ≤ p ∧ p < σ 5 3) → ∀ σ', FRM σ σ' → σ' 153 0 = 1 → K 0 σ') : wI (d + 9) 233 [.inr (.inr 153), .inl p] σ Q K := by
  refine c233 (b233_0 ?_)
  intro σ1 f1
  have hT : σ1 153 0 = 0 := by rw [f1, up_same]
  have hF1 : FRM σ σ1 := by rw [f1]; exact FRM_153
  have hI1 := INV_F hF1 hI
  have e5 : σ1 5 = σ 5 := hF1.1 5 (by decide) (by decide) (by decide)
  have e4 : σ1 153 4 = σ 5 3 := by rw [hI1.2.1.2.2.1, e5]
  refine w217 hT (fun p0 p1 => ⟨fun _ => b233_1 ?_, fun q => absurd (by decide) q⟩) (fun z => ⟨fun q => absurd rfl q, fun _ => h2 (fun q => z (by rw [e4]; exact q)) _ (FRM_tr hF1 FRM_153) (up_same _ _ _ _)⟩)
  rw [e4] at p1
  refine w205 (INV_vc hI1) (INV_vs hI1) (INV_mc hI1) (INV_ms hI1) (fun σ2 g1 g2 => ?_)
  refine w211 (V := nrm σ1 70) (INV_vc hI1) (INV_vs hI1) ⟨MVc_f g1 (INV_mc hI1), MVs_f g1 (INV_ms hI1), g2⟩ p0 (by rw [nrm_c (k := 5) (by decide), e5]; exact p1) (fun σ3 g3 _ _ g4 => w232 ?_)
  rw [nrm_F hF1] at g4 ⊢
  have g5 : ∀ k, ¬ nml k → k ≠ 186 → σ3 k = σ1 k := fun k q1 q2 => by rw [g3 k q2]; exact g1 k q1
  have hh := h1 p0 p1 σ3 (FRM_tr hF1 (FRM_nm g5)) (by rw [g5 153 (by decide) (by decide)]; exact hT)
  unfold hmm
  by_cases z : hmv (nrm σ 70) p = -1
  · rw [if_pos z, if_neg (by omega)]
    rw [z] at hh; exact hh
  · rw [if_neg z, if_pos (by omega)]
    exact hh
end LOOK
