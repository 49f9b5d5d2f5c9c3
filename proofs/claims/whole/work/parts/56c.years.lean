/-! years -/
def drw (s : Int) : Nat → Int
  | 0 => s
  | n + 1 => wr (wr (drw s n * 1103515245) + 12345)
def wtf (x : Int) : Int := if irm (ian (shr x 16) 32767) 4 ≠ 0 then 0 else 1
theorem wtf_r (x : Int) : wtf x = 0 ∨ wtf x = 1 := by
  unfold wtf
  by_cases h : irm (ian (shr x 16) 32767) 4 ≠ 0
  · rw [if_pos h]; exact Or.inl rfl
  · rw [if_neg h]; exact Or.inr rfl
def ymn (m : Int) : Nat → Int
  | 0 => m
  | n + 1 => irm (wr (ymn m n + 1)) 8
theorem ymn_r {m : Int} (h0 : 0 ≤ m) (h7 : m ≤ 7) : ∀ n : Nat, 0 ≤ ymn m n ∧ ymn m n ≤ 7
  | 0 => ⟨h0, h7⟩
  | n + 1 => by
    have := ymn_r h0 h7 n
    rw [ymn, wr_id (by omega) (by omega), irm_pos (by omega) (by omega) (by omega) (by omega)]
    omega
def yvw (V : dS) (s : Int) (n : Nat) : dS := up (up V 109 1 (ymn (V 109 1) n)) 109 2 (wtf (drw s n))
noncomputable def yal (V : dS) (s : Int) : Nat → Int
  | 0 => 0
  | n + 1 => yal V s n + hms (yvw V s (n + 1))
noncomputable def yfw (V : dS) (s : Int) : Nat → Int
  | 0 => 8
  | n + 1 => min (yfw V s n) (hms (yvw V s (n + 1)))
noncomputable def yfu (V : dS) (s : Int) : Nat → Int
  | 0 => 0
  | n + 1 => yfu V s n + (if hms (yvw V s (n + 1)) = V 5 3 then 1 else 0)
noncomputable def yrV (V : dS) (s : Int) (N : Nat) (w : Int) : Int := if w = 0 then yal V s N else if w = 1 then (if N = 0 then 0 else yfw V s N) else yfu V s N
section YEARS
variable {d : Nat} {Q : dR → dS → Prop} {σ V S : dS}
theorem yvw_W (hW : VWK V) (s : Int) (n : Nat) : VWK (yvw V s n) := by
  have hm := ymn_r hW.2.1.2.1.1 hW.2.1.2.1.2 n
  have h1 : VWK (up V 109 1 (ymn (V 109 1) n)) := VW_up9 hW (by decide) (by decide) (fun e => absurd e (by decide)) (fun _ => hm) (fun e => absurd e (by decide)) (fun e => absurd e (by decide))
  exact VW_up9 h1 (by decide) (by decide) (fun e => absurd e (by decide)) (fun e => absurd e (by decide)) (fun _ => wtf_r _) (fun e => absurd e (by decide))
theorem yvw_5 (s : Int) (n : Nat) : yvw V s n 5 = V 5 := by
  unfold yvw
  rw [up_k (by decide), up_k (by decide)]
theorem yr_r (hW : VWK V) (s : Int) : ∀ n : Nat, (0 ≤ yal V s n ∧ yal V s n ≤ 8 * n) ∧ (0 ≤ yfw V s n ∧ yfw V s n ≤ 8) ∧ (0 ≤ yfu V s n ∧ yfu V s n ≤ n)
  | 0 => by simp [yal, yfw, yfu]
  | n + 1 => by
    have hP := hW.1.2.2.1
    have ih := yr_r hW s n
    have r := hms_r (yvw_W hW s (n + 1)).1
    rw [yvw_5] at r
    rw [yal, yfw, yfu]
    refine ⟨by omega, by omega, ?_⟩
    by_cases z : hms (yvw V s (n + 1)) = V 5 3
    · rw [if_pos z]; omega
    · rw [if_neg z]; omega
theorem l149 {S0 : dS} {N : Nat} {w s : Int} (hN : N ≤ 60) (hW : VWK V) (hq : ∀ σ', (∀ k, ¬ tcl k → ¬ ncl k → ¬ rcl k → σ' k = S0 k) → Q (.inl (some (.inl (yrV V s N w)))) σ') : ∀ (c n : Nat) (b : Int) (S : dS), n + c = N → SK S (up (up V 109 1 (ymn (V 109 1) n)) 109 2 b) → (∀ k, ¬ tcl k → ¬ ncl k → ¬ rcl k → S k = S0 k) → B149_7 (d + 8) Q (N : Int) w (yal V s n) (if N = 0 then 0 else yfw V s n) (yfu V s n) (drw s n) (n : Int) S
  | 0, n, b, S, hn, hS, hF => by
    have en : n = N := by omega
    subst en
    have := hq S hF
    unfold yrV at this
    refine b149_7 ⟨fun _ => b149_12 ⟨fun z => b149_13 ⟨fun y => b149_14 (b149_15 ?_), fun y => b149_15 ?_⟩, fun z => b149_15 ?_⟩, fun z => absurd (by omega) z⟩
    · rw [if_neg z, if_neg y] at this; exact this
    · rw [if_neg z, if_pos (Decidable.of_not_not y)] at this; exact this
    · rw [if_pos (Decidable.of_not_not z)] at this; exact this
  | c + 1, n, b, S, hn, hS, hF => by
    have hP := hW.1.2.2.1
    have N0' : N ≠ 0 := by omega
    have ew : wr ((n : Int) + 1) = ((n + 1 : Nat) : Int) := by rw [wr_id (by omega) (by omega)]; omega
    have hm := ymn_r hW.2.1.2.1.1 hW.2.1.2.1.2 n
    have rr := yr_r hW s n
    have em : S 109 1 = ymn (V 109 1) n := by rw [hS.2.1 1 (by decide) (by decide), up_i (by decide), up_same]
    refine b149_7 ⟨fun z => absurd z (by omega), fun _ => ⟨by decide, fun σ1 f1 => ⟨by decide, ?_⟩⟩⟩
    rw [em] at f1
    have S1 : SK σ1 (up (up V 109 1 (ymn (V 109 1) (n + 1))) 109 2 b) := by
      rw [f1]
      have := SK_up9 hS (j := 1) (v := irm (wr (ymn (V 109 1) n + 1)) 8)
      rw [up_cm (by decide), up_up] at this
      exact this
    have go : ∀ v, v = wtf (drw s (n + 1)) → B149_9 (d + 8) Q (N : Int) w (yal V s n) (if N = 0 then 0 else yfw V s n) (yfu V s n) (drw s (n + 1)) (n : Int) v σ1 := by
      intro v hv
      refine b149_9 ⟨by rw [hv]; exact wtf_r _, fun σ2 f2 => ?_⟩
      have S2 : SK σ2 (yvw V s (n + 1)) := by
        rw [f2]
        have := SK_up9 S1 (j := 2) (v := v)
        rw [up_up, hv] at this
        rw [hv]
        exact this
      have r := hms_r (yvw_W hW s (n + 1)).1
      rw [yvw_5] at r
      refine t126 (yvw_W hW s (n + 1)) S2 (fun σ3 g3 => ?_)
      have ih := l149 hN hW hq c (n + 1) (wtf (drw s (n + 1))) σ3 (by omega) (SK_n g3 S2) (fun k q1 q2 q3 => by rw [g3 k q2 q3, f2, up_k (by omega), f1, up_k (by omega)]; exact hF k q1 q2 q3)
      rw [yal, yfw, yfu, if_neg N0'] at ih
      have e5 : σ3 5 3 = V 5 3 := by rw [(SK_n g3 S2).1 5 (by decide), yvw_5]
      rw [e5, wr_id (x := yal V s n + hms (yvw V s (n + 1))) (by omega) (by omega), if_neg N0']
      refine ⟨fun z => b149_10 (b149_11 ?_), fun z => b149_11 ?_⟩
      · rw [if_neg z] at ih
        rw [ew, wr_id (by omega) (by omega)]; exact ih
      · rw [if_pos (Decidable.of_not_not z)] at ih
        rw [ew, wr_id (by omega) (by omega)]; exact ih
    have ed : wr (wr (drw s n * 1103515245) + 12345) = drw s (n + 1) := rfl
    rw [ed, ush16]
    refine ⟨fun z => b149_8 (go 0 ?_), fun z => go 1 ?_⟩
    · unfold wtf; rw [if_pos z]
    · unfold wtf; rw [if_neg z]
theorem x_years {K : Int → dS → Prop} {s n w : Int} (hI : INV σ) (h1 : (0 ≤ w ∧ w ≤ 2) → (0 ≤ n ∧ n ≤ 60) → ∀ σ', FRM σ σ' → K (yrV (nrm σ 70) s n.toNat w) σ') (h2 : ¬ (0 ≤ w ∧ w ≤ 2) → Q (.inr 0) σ) (h3 : (0 ≤ w ∧ w ≤ 2) → ¬ (0 ≤ n ∧ n ≤ 60) → Q (.inr 1) σ) : wI (d + 11) 149 [.inr (.inr 0), .inl s, .inl n, .inl w] σ Q K := by
  have hW := VW_now hI
  refine c149 (b149_0 ⟨fun z => b149_1 (h2 (by omega)), fun w0 => ⟨fun w2 => b149_2 ⟨fun z => b149_3 (h3 (by omega) (by omega)), fun n0 => ⟨fun n1 => b149_4 ?_, fun z => b149_3 (h3 (by omega) (by omega))⟩⟩, fun z => b149_1 (h2 (by omega))⟩⟩)
  have en : ((n.toNat : Nat) : Int) = n := by omega
  have go : ∀ v : Int, v = (if n.toNat = 0 then (0 : Int) else 8) → B149_6 (d + 9) (fun res σ1 => match res with | .inl (some (.inl v)) => K v σ1 | .inl _ => False | .inr e => Q (.inr e) σ1) s n w 0 v σ := by
    intro v hv
    refine b149_6 (w22 hI (fun σ1 g1 g2 => ?_))
    have := l149 (d := d + 1) (V := nrm σ 70) (Q := fun res σ1 => match res with | .inl (some (.inl v)) => K v σ1 | .inl _ => False | .inr e => Q (.inr e) σ1) (S0 := σ1) (N := n.toNat) (w := w) (s := s) (by omega) hW (fun σ' g3 => h1 (by omega) (by omega) σ' (FRM_t (fun k q1 q2 q3 => by rw [g3 k q1 q2 q3]; exact g1 k q1))) n.toNat 0 (nrm σ 70 109 2) σ1 (by omega) ?_ (fun _ _ _ _ => rfl)
    · rw [en] at this
      rw [hv]
      exact this
    · have e : up (up (nrm σ 70) 109 1 (ymn (nrm σ 70 109 1) 0)) 109 2 (nrm σ 70 109 2) = nrm σ 70 := by
        have : up (nrm σ 70) 109 1 (ymn (nrm σ 70 109 1) 0) = nrm σ 70 := up_self
        rw [this, up_self]
      rw [e]; exact g2
  refine ⟨fun z => b149_5 (go 8 ?_), fun z => go 0 ?_⟩
  · rw [if_neg (by omega)]
  · rw [if_pos (by omega)]
theorem l264 {S0 : dS} {N : Nat} {w s : Int} (hN : N ≤ 60) (hW : VWK V) (hq : ∀ σ', (∀ k, k ≠ 174 → ¬ nml k → k ≠ 186 → σ' k = S0 k) → (∀ j, 0 ≤ j → j < 19 → σ' 174 j = S0 175 j) → Q (.inl (some (.inl (yrV V s N w)))) σ') : ∀ (c n : Nat) (b : Int) (S : dS), n + c = N → MVc S (up (up V 109 1 (ymn (V 109 1) n)) 109 2 b) → MVs S (up (up V 109 1 (ymn (V 109 1) n)) 109 2 b) → (∀ k, k ≠ 174 → ¬ nml k → k ≠ 186 → S k = S0 k) → B264_3 (d + 8) Q (N : Int) w (drw s n) (yal V s n) (if n = 0 then 0 else yfw V s n) (yfu V s n) (n : Int) S
  | 0, n, b, S, hn, hM, hs, hF => by
    have en : n = N := by omega
    subst en
    refine b264_3 ⟨fun _ => b264_11 (w161 (n := 19) (n2 := 19) (by decide) (by decide) (by decide) (by decide) ?_), fun z => absurd (by omega) z⟩
    have := hq (rcopy S 174 19 175 19 0) (fun k q1 q2 q3 => by rw [rcopy_k q1]; exact hF k q1 q2 q3) (fun j j0 j1 => by rw [rcopy_in j0 (by omega) (by omega), hF 175 (by decide) (by decide) (by decide)])
    unfold yrV at this
    refine ⟨fun z => b264_12 ⟨fun y => b264_13 (b264_14 ?_), fun y => b264_14 ?_⟩, fun z => b264_14 ?_⟩
    · rw [if_neg z, if_neg y] at this; exact this
    · rw [if_neg z, if_pos (Decidable.of_not_not y)] at this; exact this
    · rw [if_pos (Decidable.of_not_not z)] at this; exact this
  | c + 1, n, b, S, hn, hM, hs, hF => by
    have hP := hW.1.2.2.1
    have hR := hW.1.1
    have ew : wr ((n : Int) + 1) = ((n + 1 : Nat) : Int) := by rw [wr_id (by omega) (by omega)]; omega
    have hm := ymn_r hW.2.1.2.1.1 hW.2.1.2.1.2 n
    have rr := yr_r hW s n
    have em : S 174 1 = ymn (V 109 1) n := by rw [hs.2.1, up_i (by decide), up_same]
    refine b264_3 ⟨fun z => absurd z (by omega), fun _ => ⟨by decide, by decide, by decide, by decide, by decide, fun σ1 f1 => ⟨by decide, ?_⟩⟩⟩
    rw [em] at f1
    have m1 : MVc σ1 (up (up V 109 1 (ymn (V 109 1) (n + 1))) 109 2 b) := by
      rw [f1]
      have := MVc_up9 hM (i := 1) (j := 1) (v := irm (wr (ymn (V 109 1) n + 1)) 8) (w := irm (wr (ymn (V 109 1) n + 1)) 8)
      rw [up_cm (V := up V 109 1 (ymn (V 109 1) n)) (by decide), up_up] at this
      exact this
    have s1 : MVs σ1 (up (up V 109 1 (ymn (V 109 1) (n + 1))) 109 2 b) := by
      rw [f1]
      have := MVs_up9 (by rw [up_k (k' := 5) (by decide), up_k (k' := 5) (by decide)]; omega) hs (j := 1) (v := irm (wr (ymn (V 109 1) n + 1)) 8) (by decide) (by decide)
      rw [up_cm (V := up V 109 1 (ymn (V 109 1) n)) (by decide), up_up] at this
      exact this
    have go : ∀ v, v = wtf (drw s (n + 1)) → B264_5 (d + 8) Q (N : Int) w (drw s (n + 1)) (yal V s n) (if n = 0 then 0 else yfw V s n) (yfu V s n) (n : Int) v 2 σ1 := by
      intro v hv
      refine b264_5 ⟨by decide, by decide, fun σ2 f2 => ?_⟩
      have m2 : MVc σ2 (yvw V s (n + 1)) := by
        rw [f2]
        have := MVc_up9 m1 (i := 2) (j := 2) (v := v) (w := v)
        rw [up_up, hv] at this
        rw [hv]
        exact this
      have s2 : MVs σ2 (yvw V s (n + 1)) := by
        rw [f2]
        have := MVs_up9 (by rw [up_k (k' := 5) (by decide), up_k (k' := 5) (by decide)]; omega) s1 (j := 2) (v := v) (by decide) (by decide)
        rw [up_up, hv] at this
        rw [hv]
        exact this
      have r := hms_r (yvw_W hW s (n + 1)).1
      rw [yvw_5] at r
      refine t213 (yvw_W hW s (n + 1)) m2 s2 (fun σ3 g3 => ?_)
      have ih := l264 hN hW hq c (n + 1) (wtf (drw s (n + 1))) σ3 (by omega) (MVc_n g3 m2) (MVs_n g3 s2) (fun k q1 q2 q3 => by rw [g3 k q2 q3, f2, up_k q1, f1, up_k q1]; exact hF k q1 q2 q3)
      rw [yal, yfw, yfu, if_neg (by omega)] at ih
      have e5 : σ3 153 4 = V 5 3 := by rw [(MVc_n g3 m2).2.2.1, yvw_5]
      have fin : ∀ x, x = min (yfw V s n) (hms (yvw V s (n + 1))) → B264_8 (d + 8) Q (N : Int) w (drw s (n + 1)) (yal V s n + hms (yvw V s (n + 1))) (yfu V s n) (n : Int) (hms (yvw V s (n + 1))) x σ3 := by
        intro x hx
        refine b264_8 ?_
        rw [e5]
        refine ⟨fun z => b264_9 (b264_10 ?_), fun z => b264_10 ?_⟩
        · rw [if_neg z] at ih
          rw [ew, wr_id (by omega) (by omega), hx]; exact ih
        · rw [if_pos (Decidable.of_not_not z)] at ih
          rw [ew, wr_id (by omega) (by omega), hx]; exact ih
      rw [wr_id (x := yal V s n + hms (yvw V s (n + 1))) (by omega) (by omega)]
      refine ⟨fun z => b264_6 (fin _ ?_), fun z => ⟨fun y => b264_7 (fin _ ?_), fun y => b264_6 (fin _ ?_)⟩⟩
      · have e0 : n = 0 := by omega
        subst e0
        rw [yfw]; omega
      · rw [if_neg (by omega)] at y ⊢
        omega
      · rw [if_neg (by omega)] at y
        omega
    have ed : wr (wr (drw s n * 1103515245) + 12345) = drw s (n + 1) := rfl
    rw [ed]
    refine ⟨fun z => b264_4 (go 0 ?_), fun z => go 1 ?_⟩
    · unfold wtf; rw [if_pos z]
    · unfold wtf; rw [if_neg z]
theorem m_years {K : Int → dS → Prop} {s n w : Int} (hI : INV σ) (h1 : (0 ≤ w ∧ w ≤ 2) → (0 ≤ n ∧ n ≤ 60) → ∀ σ', FRM σ σ' → σ' 153 0 = 0 → K (yrV (nrm σ 70) s n.toNat w) σ') (h2 : ¬ (0 ≤ w ∧ w ≤ 2) → ∀ σ', FRM σ σ' → σ' 153 0 = 1 → K 0 σ') (h3 : (0 ≤ w ∧ w ≤ 2) → ¬ (0 ≤ n ∧ n ≤ 60) → ∀ σ', FRM σ σ' → σ' 153 0 = 2 → K 0 σ') : wI (d + 11) 264 [.inr (.inr 153), .inl s, .inl n, .inl w] σ Q K := by
  refine c264 (b264_0 ?_)
  intro σ1 f1
  obtain ⟨hT, hF1, hI1, en, e5, e1, e3, e4⟩ := m_begin hI f1
  have hW := VW_now hI
  have mc := INV_mc hI1
  have ms := INV_ms hI1
  rw [en] at mc ms
  refine w218 hT (fun w0 w2 => ⟨fun q => absurd q (by decide), fun _ => w159 (fun n0 n1 => w158 hT (by decide) (fun _ => ⟨fun _ => b264_2 ?_, fun q => absurd (by decide) q⟩) (fun q => absurd q (by decide))) (fun z => w158 hT (by decide) (fun q => absurd rfl q) (fun _ => ⟨fun q => absurd rfl q, fun _ => b264_1 (h3 ⟨w0, w2⟩ z _ (FRM_tr hF1 FRM_153) (up_same _ _ _ _))⟩))⟩) (fun z => ⟨fun _ => b264_1 (h2 z _ (FRM_tr hF1 FRM_153) (up_same _ _ _ _)), fun q => absurd rfl q⟩)
  have eN : ((n.toNat : Nat) : Int) = n := by omega
  refine w161 (n := 19) (n2 := 19) (by decide) (by decide) (by decide) (by decide) ?_
  have e0 : up (up (nrm σ 70) 109 1 (ymn (nrm σ 70 109 1) 0)) 109 2 (nrm σ 70 109 2) = nrm σ 70 := by
    have : up (nrm σ 70) 109 1 (ymn (nrm σ 70 109 1) 0) = nrm σ 70 := up_self
    rw [this, up_self]
  have := l264 (d := d + 1) (V := nrm σ 70) (Q := fun res σ1 => match res with | .inl (some (.inl v)) => K v σ1 | .inl _ => False | .inr e => Q (.inr e) σ1) (S0 := rcopy σ1 175 19 174 19 0) (N := n.toNat) (w := w) (s := s) (by omega) hW (fun σ' g1 g2 => ?_) n.toNat 0 (nrm σ 70 109 2) (rcopy σ1 175 19 174 19 0) (by omega) (by rw [e0]; exact MVc_k (fun k hk => rcopy_k (by omega)) mc) (by rw [e0]; exact MVs_k (rcopy_k (by decide)) ms) (fun _ _ _ _ => rfl)
  · rw [eN] at this
    exact this
  · have F : FRM σ1 σ' := by
      refine ⟨fun k q1 q2 q3 => ?_, fun j _ => ?_, fun j j0 j1 => ?_⟩
      · rw [g1 k q3 (fun z => q1 (Or.inr (by omega))) (fun z => q1 (Or.inr (by omega))), rcopy_k (fun z => q1 (Or.inr (by omega)))]
      · rw [g1 153 (by decide) (by decide) (by decide), rcopy_k (by decide)]
      · rw [g2 j j0 j1, rcopy_in j0 (by omega) (by omega)]
    refine h1 ⟨w0, w2⟩ ⟨n0, n1⟩ σ' (FRM_tr hF1 F) ?_
    rw [g1 153 (by decide) (by decide) (by decide), rcopy_k (by decide)]; exact hT
end YEARS
