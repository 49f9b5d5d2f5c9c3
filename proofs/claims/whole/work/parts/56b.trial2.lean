/-! late, worth, vital, years -/
noncomputable def ltg (V : dS) (o : Int) : Nat → Int
  | 0 => 0
  | n + 1 => if hms V ≤ hms (up V 113 o (V 113 o + (n : Int))) then (n : Int) else ltg V o n
noncomputable def wrt (V : dS) (o : Int) : Int := hms V - hms (up V 109 3 (ior (V 109 3) (shl 1 o)))
noncomputable def vtl (V : dS) : Nat → Int
  | 0 => 0
  | k + 1 => ior (vtl V k) (if 0 < wrt V (k : Int) then shl 1 (k : Int) else 0)
theorem nb {n o : Int} (n0 : 0 ≤ n) (n1 : n ≤ 31) (o0 : 0 ≤ o) (o1 : o < 5) : (ian (shr n o) 1 = 1 → ior n (shl 1 o) = n) ∧ (ian (shr n o) 1 ≠ 1 → ian (ior n (shl 1 o)) (ixr (shl 1 o) (-1)) = n) ∧ 0 ≤ ior n (shl 1 o) ∧ ior n (shl 1 o) ≤ 31 := by
  have h := nb_dec ⟨n.toNat, by omega⟩ ⟨o.toNat, by omega⟩
  have e1 : ((n.toNat : Nat) : Int) = n := by omega
  have e2 : ((o.toNat : Nat) : Int) = o := by omega
  simp only [e1, e2] at h
  exact h
section TRI2
variable {d : Nat} {Q : dR → dS → Prop} {σ V S : dS}
theorem wrt_r {hI : INV σ} {o : Int} (o0 : 0 ≤ o) (o1 : o < σ 5 2) : VWK (up (nrm σ 70) 109 3 (ior (nrm σ 70 109 3) (shl 1 o))) := by
  have hW := VW_now hI
  have hO := (INV_c hI).2.1
  have h3 := hW.2.1.2.2.2.1
  have b := nb h3.1 h3.2 o0 (by omega)
  exact VW_up9 hW (by decide) (by decide) (fun e => absurd e (by decide)) (fun e => absurd e (by decide)) (fun e => absurd e (by decide)) (fun _ => b.2.2)
theorem w136 {K : Int → dS → Prop} {o : Int} (hI : INV σ) (o0 : 0 ≤ o) (o1 : o < σ 5 2) (h : ∀ σ', FRM σ σ' → K (wrt (nrm σ 70) o) σ') : wI (d + 11) 136 [.inr (.inr 0), .inl o] σ Q K := by
  have hW := VW_now hI
  have hP := (INV_c hI).2.2.1
  refine c136 (b136_0 (w22 hI (fun σ1 g1 g2 σ2 f2 => ?_)))
  have F2 : FRM σ σ2 := FRM_t (fun k q1 q2 q3 => by rw [f2, up_k (by omega)]; exact g1 k q1)
  have I2 := INV_F F2 hI
  have e3 : σ1 109 3 = nrm σ 70 109 3 := g2.2.1 3 (by decide) (by decide)
  have S2 : SK σ2 (up (nrm σ 70) 109 3 (ior (nrm σ 70 109 3) (shl 1 o))) := by rw [f2, e3]; exact SK_up9 g2
  refine w126_70 (INV_c I2) (INV_s I2) (fun σ3 g3 => ?_)
  have W2 := wrt_r (hI := hI) o0 o1
  refine t126 W2 (SK_n g3 S2) (fun σ4 g4 => ?_)
  rw [nrm_F F2]
  have r1 := hms_r hW.1
  have r2 := hms_r W2.1
  rw [nrm_c (k := 5) (by decide)] at r1
  rw [up_k (k' := 5) (by decide), nrm_c (k := 5) (by decide)] at r2
  rw [wr_id (by omega) (by omega)]
  exact h σ4 (FRM_tr F2 (FRM_n (fun k q1 q2 => by rw [g4 k q1 q2]; exact g3 k q1 q2)))
theorem x_worth {K : Int → dS → Prop} {o : Int} (hI : INV σ) (h1 : 0 ≤ o → o < σ 5 2 → ∀ σ', FRM σ σ' → K (wrt (nrm σ 70) o) σ') (h2 : ¬ (0 ≤ o ∧ o < σ 5 2) → Q (.inr 0) σ) : wI (d + 13) 134 [.inr (.inr 0), .inl o] σ Q K :=
  c134 (b134_0 (w110 (fun o0 o1 => w136 hI o0 o1 (h1 o0 o1)) h2))
theorem vtl_w (V : dS) (k : Nat) : wr (vtl V k) = vtl V k := by
  cases k with
  | zero => rfl
  | succ m => rw [vtl]; exact wr_eq (ti_R _)
theorem l135 {S0 : dS} (hI0 : INV S0) (hq : ∀ σ', FRM S0 σ' → Q (.inl (some (.inl (vtl (nrm S0 70) (S0 5 2).toNat)))) σ') : ∀ (c k : Nat) (S : dS), (k : Int) + c = S0 5 2 → FRM S0 S → B135_1 (d + 11) Q (vtl (nrm S0 70) k) (k : Int) S
  | 0, k, S, hk, hF => by
    have e5 : S 5 = S0 5 := hF.1 5 (by decide) (by decide) (by decide)
    have ek : k = (S0 5 2).toNat := by omega
    refine b135_1 ⟨fun _ => b135_3 ?_, fun z => absurd (by rw [e5]; omega) z⟩
    rw [ek]; exact hq S hF
  | c + 1, k, S, hk, hF => by
    have hO := (INV_c hI0).2.1
    have e5 : S 5 = S0 5 := hF.1 5 (by decide) (by decide) (by decide)
    have ew : wr ((k : Int) + 1) = ((k + 1 : Nat) : Int) := by rw [wr_id (by omega) (by omega)]; omega
    refine b135_1 ⟨fun z => absurd z (by rw [e5]; omega), fun _ => w136 (INV_F hF hI0) (by omega) (by rw [e5]; omega) (fun σ1 g => ?_)⟩
    rw [nrm_F hF]
    have ih := l135 hI0 hq c (k + 1) σ1 (by omega) (FRM_tr hF g)
    refine ⟨fun z => b135_2 ?_, fun z => b135_2 ?_⟩
    · rw [vtl, if_neg (by omega), ior_0, vtl_w] at ih
      rw [ew]; exact ih
    · rw [vtl, if_pos (by omega)] at ih
      rw [ew]; exact ih
theorem x_vital {K : Int → dS → Prop} (hI : INV σ) (h : ∀ σ', FRM σ σ' → K (vtl (nrm σ 70) (σ 5 2).toNat) σ') : wI (d + 13) 135 [.inr (.inr 0)] σ Q K := by
  have hO := (INV_c hI).2.1
  exact c135 (b135_0 (l135 hI h (σ 5 2).toNat 0 σ (by omega) (FRM_refl σ)))
/-! the reference's worth -/
theorem w247 {K : Int → dS → Prop} {o : Int} (hW : VWK V) (h1 : MVc S V) (h2 : MVs S V) (o0 : 0 ≤ o) (o1 : o < V 5 2) (hq : ∀ σ', (∀ k, k ≠ 174 → ¬ nml k → k ≠ 186 → σ' k = S k) → (∀ i, σ' 174 i = S 174 i) → K (wrt V o) σ') : wI (d + 10) 247 [.inr (.inr 153), .inl o] S Q K := by
  have hO := hW.1.2.1
  have hP := hW.1.2.2.1
  have h3 := hW.2.1.2.2.2.1
  have b := nb h3.1 h3.2 o0 (by omega)
  refine c247 (b247_0 (w202 (V := V) h2.2.2.2.1 ?_))
  by_cases z : nestb V 109 o
  · rw [if_pos z]
    refine ⟨fun q => absurd q (by decide), fun _ => ?_⟩
    have := hq S (fun _ _ _ _ => rfl) (fun _ => rfl)
    have e : wrt V o = 0 := by
      unfold wrt
      rw [b.1 z, up_self]; omega
    rw [e] at this
    exact this
  · rw [if_neg z]
    refine ⟨fun _ => b247_1 (t213 hW h1 h2 (fun σ1 g1 => ⟨by decide, by decide, by decide, by decide, fun σ2 f2 => ?_⟩)), fun q => absurd rfl q⟩
    have e3 : σ1 174 3 = V 109 3 := (MVs_n g1 h2).2.2.2.1
    have W2 : VWK (up V 109 3 (ior (V 109 3) (shl 1 o))) := VW_up9 hW (by decide) (by decide) (fun e => absurd e (by decide)) (fun e => absurd e (by decide)) (fun e => absurd e (by decide)) (fun _ => b.2.2)
    have m1 : MVc σ2 (up V 109 3 (ior (V 109 3) (shl 1 o))) := by rw [f2]; exact MVc_up9 (MVc_n g1 h1)
    have m2 : MVs σ2 (up V 109 3 (ior (V 109 3) (shl 1 o))) := by rw [f2, e3]; exact MVs_up9 (by have := hW.1.1; omega) (MVs_n g1 h2) (by decide) (by decide)
    refine t213 W2 m1 m2 (fun σ3 g3 => ⟨by decide, by decide, by decide, by decide, fun σ4 f4 => ?_⟩)
    have e4 : σ3 174 3 = ior (V 109 3) (shl 1 o) := by rw [g3 174 (by decide) (by decide), f2, up_same, e3]
    have r1 := hms_r hW.1
    have r2 := hms_r W2.1
    rw [up_k (k' := 5) (by decide)] at r2
    rw [wr_id (by omega) (by omega)]
    refine hq σ4 (fun k q1 q2 q3 => ?_) (fun i => ?_)
    · rw [f4, up_k q1, g3 k q2 q3, f2, up_k q1]; exact g1 k q2 q3
    · rw [f4, e4]
      by_cases e : i = 3
      · subst e
        rw [up_same, b.2.1 z]
        exact h2.2.2.2.1.symm
      · rw [up_i e, g3 174 (by decide) (by decide), f2, up_i e, g1 174 (by decide) (by decide)]
theorem m_worth {K : Int → dS → Prop} {o : Int} (hI : INV σ) (h1 : 0 ≤ o → o < σ 5 2 → ∀ σ', FRM σ σ' → σ' 153 0 = 0 → K (wrt (nrm σ 70) o) σ') (h2 : ¬ (0 ≤ o ∧ o < σ 5 2) → ∀ σ', FRM σ σ' → σ' 153 0 = 1 → K 0 σ') : wI (d + 13) 248 [.inr (.inr 153), .inl o] σ Q K := by
  refine c248 (b248_0 ?_)
  intro σ1 f1
  obtain ⟨hT, hF1, hI1, en, e5, e1, e3, e4⟩ := m_begin hI f1
  have hW := VW_now hI
  have mc := INV_mc hI1
  have ms := INV_ms hI1
  rw [en] at mc ms
  refine w216 hT (fun o0 o1 => ⟨fun q => absurd q (by decide), fun _ => ?_⟩) (fun z => ⟨fun _ => b248_1 (b248_2 (h2 (by rw [e3] at z; exact z) _ (FRM_tr hF1 FRM_153) (up_same _ _ _ _))), fun q => absurd rfl q⟩)
  rw [e3] at o1
  refine w247 (V := nrm σ 70) hW mc ms o0 (by rw [nrm_c (k := 5) (by decide)]; exact o1) (fun σ2 g1 g2 => b248_2 ?_)
  exact h1 o0 o1 σ2 (FRM_tr hF1 (FRM_nw g1 g2)) (by rw [g1 153 (by decide) (by decide) (by decide)]; exact hT)
theorem l249 {S0 : dS} (hW : VWK V) (h1 : MVc S0 V) (h2 : MVs S0 V) (hq : ∀ σ', (∀ k, k ≠ 174 → ¬ nml k → k ≠ 186 → σ' k = S0 k) → (∀ i, σ' 174 i = S0 174 i) → Q (.inl (some (.inl (vtl V (V 5 2).toNat)))) σ') : ∀ (c k : Nat) (S : dS), (k : Int) + c = V 5 2 → (∀ k, k ≠ 174 → ¬ nml k → k ≠ 186 → S k = S0 k) → (∀ i, S 174 i = S0 174 i) → B249_1 (d + 10) Q (vtl V k) (k : Int) S
  | 0, k, S, hk, hF, h174 => by
    have e3 : S 153 3 = V 5 2 := by rw [hF 153 (by decide) (by decide) (by decide)]; exact h1.2.1
    have ek : k = (V 5 2).toNat := by omega
    refine b249_1 ⟨fun _ => b249_4 ?_, fun z => absurd (by omega) z⟩
    rw [ek]; exact hq S hF h174
  | c + 1, k, S, hk, hF, h174 => by
    have hO := hW.1.2.1
    have e3 : S 153 3 = V 5 2 := by rw [hF 153 (by decide) (by decide) (by decide)]; exact h1.2.1
    have ew : wr ((k : Int) + 1) = ((k + 1 : Nat) : Int) := by rw [wr_id (by omega) (by omega)]; omega
    have mc : MVc S V := MVc_k (fun x hx => hF x (by omega) (by omega) (by omega)) h1
    have ms : MVs S V := MVs_k (funext h174) h2
    refine b249_1 ⟨fun z => absurd z (by omega), fun _ => w247 hW mc ms (by omega) (by omega) (fun σ1 g1 g2 => ?_)⟩
    have ih := l249 hW h1 h2 hq c (k + 1) σ1 (by omega) (fun x q1 q2 q3 => by rw [g1 x q1 q2 q3]; exact hF x q1 q2 q3) (fun i => by rw [g2 i]; exact h174 i)
    rw [vtl] at ih
    refine ⟨fun z => b249_2 (b249_3 ?_), fun z => b249_3 ?_⟩
    · rw [if_neg (by omega)] at ih
      rw [ew]; exact ih
    · rw [if_pos (by omega)] at ih
      rw [ew]; exact ih
theorem m_vital {K : Int → dS → Prop} (hI : INV σ) (h : ∀ σ', FRM σ σ' → K (vtl (nrm σ 70) (σ 5 2).toNat) σ') : wI (d + 13) 249 [.inr (.inr 153)] σ Q K := by
  refine c249 (b249_0 ?_)
  intro σ1 f1
  obtain ⟨hT, hF1, hI1, en, e5, e1, e3, e4⟩ := m_begin hI f1
  have hW := VW_now hI
  have hO := hW.1.2.1
  have mc := INV_mc hI1
  have ms := INV_ms hI1
  rw [en] at mc ms
  have e5' : nrm σ 70 5 2 = σ 5 2 := by rw [nrm_c (k := 5) (by decide)]
  exact l249 (S0 := σ1) (V := nrm σ 70) hW mc ms (fun σ' g1 g2 => by rw [e5']; exact h σ' (FRM_tr hF1 (FRM_nw g1 g2))) (σ 5 2).toNat 0 σ1 (by omega) (fun _ _ _ _ => rfl) (fun _ => rfl)
/-! late -/
theorem l150 {S0 : dS} {o : Int} (hI0 : INV S0) (o0 : 0 ≤ o) (o1 : o < S0 5 2) (hq : ∀ σ', FRM S0 σ' → Q (.inl (some (.inl (ltg (nrm S0 70) o 61)))) σ') : ∀ (k : Nat) (S : dS), k ≤ 60 → ltg (nrm S0 70) o 61 = ltg (nrm S0 70) o (k + 1) → FRM S0 S → B150_1 (d + 9) Q o (hms (nrm S0 70)) (k : Int) S
  | 0, S, k60, hk, hF => by
    refine b150_1 ⟨fun _ => b150_3 ?_, fun z => absurd (by decide) z⟩
    have e : ltg (nrm S0 70) o (0 + 1) = 0 := by
      rw [ltg]
      by_cases z : hms (nrm S0 70) ≤ hms (up (nrm S0 70) 113 o (nrm S0 70 113 o + ((0 : Nat) : Int)))
      · rw [if_pos z]; rfl
      · rw [if_neg z]; rfl
    have := hq S hF
    rw [hk, e] at this
    exact this
  | k + 1, S, k60, hk, hF => by
    have hO := (INV_c hI0).2.1
    have hW := VW_now hI0
    have hI := INV_F hF hI0
    have st : S0 74 o ≤ 300 := hI0.2.2.2.2.1.2 o o0 o1
    have st0 : 0 ≤ S0 74 o ∧ S0 74 o ≤ 400 := (INV_s hI0).2.2.2.2.2 o o0 o1
    have e113 : nrm S0 70 113 o = S0 74 o := nrm_b o0 o1
    refine b150_1 ⟨fun z => absurd z (by omega), fun _ => w22 hI (fun σ1 g1 g2 σ2 f2 => ?_)⟩
    rw [nrm_F hF] at g2
    have e1 : σ1 113 o = nrm S0 70 113 o := g2.2.2.2 o o0 (by rw [nrm_c (k := 5) (by decide)]; exact o1)
    rw [rput_in o0 (by omega), rat_in o0 (by omega), e1, wr_id (by omega) (by omega)] at f2
    have S2 : SK σ2 (up (nrm S0 70) 113 o (nrm S0 70 113 o + ((k + 1 : Nat) : Int))) := by rw [f2]; exact SK_up13 g2
    have W2 : VWK (up (nrm S0 70) 113 o (nrm S0 70 113 o + ((k + 1 : Nat) : Int))) := VW_up13 hW o0 (by rw [nrm_c (k := 5) (by decide)]; exact o1) (by rw [e113]; omega) (by rw [e113]; omega)
    refine t126 W2 S2 (fun σ3 g3 => ?_)
    have F3 : FRM S0 σ3 := FRM_tr hF (FRM_t (fun x q1 q2 q3 => by rw [g3 x q2 q3, f2, up_k (by omega)]; exact g1 x q1))
    have el : ltg (nrm S0 70) o (k + 1 + 1) = if hms (nrm S0 70) ≤ hms (up (nrm S0 70) 113 o (nrm S0 70 113 o + ((k + 1 : Nat) : Int))) then ((k + 1 : Nat) : Int) else ltg (nrm S0 70) o (k + 1) := rfl
    refine ⟨fun z => b150_2 ?_, fun z => ?_⟩
    · rw [if_neg (by omega)] at el
      have ew : wr (((k + 1 : Nat) : Int) + (-1)) = (k : Int) := by rw [wr_id (by omega) (by omega)]; omega
      rw [ew]
      exact l150 hI0 o0 o1 hq k σ3 (by omega) (hk.trans el) F3
    · rw [if_pos (by omega)] at el
      have := hq σ3 F3
      rw [hk, el] at this
      exact this
theorem x_late {K : Int → dS → Prop} {o : Int} (hI : INV σ) (h1 : 0 ≤ o → o < σ 5 2 → ∀ σ', FRM σ σ' → K (ltg (nrm σ 70) o 61) σ') (h2 : ¬ (0 ≤ o ∧ o < σ 5 2) → Q (.inr 0) σ) : wI (d + 11) 150 [.inr (.inr 0), .inl o] σ Q K :=
  c150 (b150_0 (w110 (fun o0 o1 => w126_70 (INV_c hI) (INV_s hI) (fun σ1 g => l150 hI o0 o1 (h1 o0 o1) 60 σ1 (by omega) rfl (FRM_n g))) h2))
theorem l251 {S0 : dS} {o : Int} (hW : VWK V) (o0 : 0 ≤ o) (o1 : o < V 5 2) (s0 : 0 ≤ V 113 o) (s1 : V 113 o ≤ 300) (hq : ∀ σ', (∀ k, k ≠ 174 → ¬ nml k → k ≠ 186 → σ' k = S0 k) → (∀ i, i ≠ 14 + o → σ' 174 i = S0 174 i) → σ' 174 (14 + o) = V 113 o → Q (.inl (some (.inl (ltg V o 61)))) σ') : ∀ (c n : Nat) (a : Int) (S : dS), n + c = 61 → MVc S (up V 113 o a) → MVs S (up V 113 o a) → (∀ k, ¬ nml k → k ≠ 186 → k ≠ 174 → S k = S0 k) → (∀ i, i ≠ 14 + o → S 174 i = S0 174 i) → B251_2 (d + 8) Q o (V 113 o) (hms V) (ltg V o n) (n : Int) S
  | 0, n, a, S, hn, hM, hs, hF, h174 => by
    have hO := hW.1.2.1
    have en : n = 61 := by omega
    subst en
    refine b251_2 ⟨fun _ => b251_5 ?_, fun z => absurd (by decide) z⟩
    rw [wr_id (by omega) (by omega)]
    refine ⟨by omega, by omega, fun σ1 f1 => ?_⟩
    refine hq σ1 (fun k q1 q2 q3 => by rw [f1, up_k q1]; exact hF k q2 q3 q1) (fun i hi => by rw [f1, up_i hi]; exact h174 i hi) (by rw [f1, up_same])
  | c + 1, n, a, S, hn, hM, hs, hF, h174 => by
    have hR := hW.1.1
    have hO := hW.1.2.1
    have ew : wr ((n : Int) + 1) = ((n + 1 : Nat) : Int) := by rw [wr_id (by omega) (by omega)]; omega
    have W2 : VWK (up V 113 o (V 113 o + (n : Int))) := VW_up13 hW o0 o1 (by omega) (by omega)
    refine b251_2 ⟨fun z => absurd z (by omega), fun _ => ?_⟩
    rw [wr_id (x := 14 + o) (by omega) (by omega), wr_id (x := V 113 o + (n : Int)) (by omega) (by omega)]
    refine ⟨by omega, by omega, fun σ1 f1 => ?_⟩
    have m1 : MVc σ1 (up V 113 o (V 113 o + (n : Int))) := by
      rw [f1]
      have := MVc_up13 hM (i := 14 + o) (j := o) (v := V 113 o + (n : Int)) (w := V 113 o + (n : Int))
      rw [up_up] at this
      exact this
    have m2 : MVs σ1 (up V 113 o (V 113 o + (n : Int))) := by
      rw [f1]
      have := MVs_up13 (by rw [up_k (k' := 5) (by decide)]; omega) hs (v := V 113 o + (n : Int)) o0 (by omega)
      rw [up_up] at this
      exact this
    refine t213 W2 m1 m2 (fun σ2 g => ?_)
    have ih := l251 hW o0 o1 s0 s1 hq c (n + 1) (V 113 o + (n : Int)) σ2 (by omega) (MVc_n g m1) (MVs_n g m2) (fun k q1 q2 q3 => by rw [g k q1 q2, f1, up_k q3]; exact hF k q1 q2 q3) (fun i hi => by rw [g 174 (by decide) (by decide), f1, up_i hi]; exact h174 i hi)
    rw [ltg] at ih
    refine ⟨fun z => b251_3 (b251_4 ?_), fun z => b251_4 ?_⟩
    · rw [if_neg (by omega)] at ih
      rw [ew]; exact ih
    · rw [if_pos (by omega)] at ih
      rw [ew]; exact ih
theorem m_late {K : Int → dS → Prop} {o : Int} (hI : INV σ) (h1 : 0 ≤ o → o < σ 5 2 → ∀ σ', FRM σ σ' → σ' 153 0 = 0 → K (ltg (nrm σ 70) o 61) σ') (h2 : ¬ (0 ≤ o ∧ o < σ 5 2) → ∀ σ', FRM σ σ' → σ' 153 0 = 1 → K 0 σ') : wI (d + 11) 251 [.inr (.inr 153), .inl o] σ Q K := by
  have hO := (INV_c hI).2.1
  refine c251 (b251_0 ?_)
  intro σ1 f1
  obtain ⟨hT, hF1, hI1, en, e5, e1, e3, e4⟩ := m_begin hI f1
  have hW := VW_now hI
  have mc := INV_mc hI1
  have ms := INV_ms hI1
  rw [en] at mc ms
  refine w216 hT (fun o0 o1 => ⟨fun _ => b251_1 ?_, fun q => absurd (by decide) q⟩) (fun z => ⟨fun q => absurd rfl q, fun _ => h2 (by rw [e3] at z; exact z) _ (FRM_tr hF1 FRM_153) (up_same _ _ _ _)⟩)
  rw [e3] at o1
  have o1' : o < nrm σ 70 5 2 := by rw [nrm_c (k := 5) (by decide)]; exact o1
  have st := hI.2.2.2.2.1.2 o o0 o1
  have st0 := (INV_s hI).2.2.2.2.2 o o0 o1
  rw [show (70 + 4 : Nat) = 74 from rfl] at st st0
  have e113 : nrm σ 70 113 o = σ 74 o := nrm_b o0 o1
  have es : σ1 174 (14 + o) = nrm σ 70 113 o := ms.2.2.2.2.2 o o0 o1'
  rw [wr_id (x := 14 + o) (by omega) (by omega)]
  refine ⟨by omega, by omega, t213 hW mc ms (fun σ2 g => ?_)⟩
  rw [es]
  have := l251 (d := d + 1) (V := nrm σ 70) (Q := fun res σ1 => match res with | .inl (some (.inl v)) => K v σ1 | .inl _ => False | .inr e => Q (.inr e) σ1) (S0 := σ2) hW o0 o1' (by rw [e113]; exact st0.1) (by rw [e113]; exact st) (fun σ' g1 g2 g3 => ?_) 61 0 (nrm σ 70 113 o) σ2 (by omega) (by rw [up_self]; exact MVc_n g mc) (by rw [up_self]; exact MVs_n g ms) (fun _ _ _ _ => rfl) (fun _ _ => rfl)
  · exact this
  · have F : FRM σ1 σ' := FRM_nw (fun k q1 q2 q3 => by rw [g1 k q1 q2 q3]; exact g k q2 q3) (fun i => by
      by_cases e : i = 14 + o
      · subst e; rw [g3, es]
      · rw [g2 i e, g 174 (by decide) (by decide)])
    exact h1 o0 o1 σ' (FRM_tr hF1 F) (by rw [g1 153 (by decide) (by decide) (by decide), g 153 (by decide) (by decide)]; exact hT)
end TRI2
