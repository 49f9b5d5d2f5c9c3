/-! undo, see, forget, image, restore, more, feed -/
section VAL
variable {σ σ' : dS}
theorem skS_v {t t' : Nat} (h5 : σ' 5 = σ 5) (h26 : σ' 26 = σ 26) (hR : σ 5 0 ≤ 10) (hO : σ 5 2 ≤ 5) (h : ∀ j, 0 ≤ j → j < 4 → σ' t' j = σ t j) (h2 : ∀ r, 0 ≤ r → r < 10 → σ' (t' + 2) r = σ (t + 2) r) (h4 : ∀ o, 0 ≤ o → o < 5 → σ' (t' + 4) o = σ (t + 4) o) (q : skS σ t) : skS σ' t' := by
  unfold skS skyOK at q ⊢
  obtain ⟨⟨s0, s1, s2, s3, s4, s5⟩, s6⟩ := q
  rw [h5, h26, h 0 (by decide) (by decide), h 1 (by decide) (by decide), h 2 (by decide) (by decide), h 3 (by decide) (by decide)]
  exact ⟨⟨s0, s1, s2, s3, fun r r0 r1 => by rw [h2 r r0 (by omega)]; exact s4 r r0 r1, fun o o0 o1 => by rw [h4 o o0 (by omega)]; exact s5 o o0 o1⟩, fun o o0 o1 => by rw [h4 o o0 (by omega)]; exact s6 o o0 o1⟩
theorem skR_v {t t' mc mc' : Nat} (h5 : σ' 5 = σ 5) (hR : σ 5 0 ≤ 10) (hO : σ 5 2 ≤ 5) (h : ∀ j, 0 ≤ j → j < 4 → σ' t' j = σ t j) (h2 : ∀ r, 0 ≤ r → r < 10 → σ' (t' + 2) r = σ (t + 2) r) (h4 : ∀ o, 0 ≤ o → o < 5 → σ' (t' + 4) o = σ (t + 4) o) (hm : ∀ j, 0 ≤ j → j < 19 → σ' mc' j = σ mc j) (q : skR σ t mc) : skR σ' t' mc' := by
  unfold skR at q ⊢
  obtain ⟨s0, s1, s2, s3, s4, s5⟩ := q
  rw [h5, h 0 (by decide) (by decide), h 1 (by decide) (by decide), h 2 (by decide) (by decide), h 3 (by decide) (by decide), hm 0 (by decide) (by decide), hm 1 (by decide) (by decide), hm 2 (by decide) (by decide), hm 3 (by decide) (by decide)]
  exact ⟨s0, s1, s2, s3, fun r r0 r1 => by rw [h2 r r0 (by omega), hm _ (by omega) (by omega)]; exact s4 r r0 r1, fun o o0 o1 => by rw [h4 o o0 (by omega), hm _ (by omega) (by omega)]; exact s5 o o0 o1⟩
theorem actR_v {lc fc sc tc mc lc' fc' sc' tc' mc' : Nat} {n n' : Int} (h5 : σ' 5 = σ 5) (h26 : σ' 26 = σ 26) (hn : n' = n) (h0 : σ' lc' 0 = σ lc 0) (hf : ∀ k, 0 ≤ k → k < 40 → σ' fc' k = σ fc k) (hs : ∀ k, 0 ≤ k → k < 40 → σ' sc' k = σ sc k) (ht : ∀ k, 0 ≤ k → k < 40 → σ' tc' k = σ tc k) (hm : ∀ k, 0 ≤ k → k < 80 → σ' mc' k = σ mc k) (q : actR σ lc fc sc tc mc n) : actR σ' lc' fc' sc' tc' mc' n' := by
  unfold actR at q ⊢
  obtain ⟨q0, q1, q2, q3⟩ := q
  rw [h0, hn]
  refine ⟨q0, q1, q2, fun k k0 k1 => ?_⟩
  rw [hf k k0 (by omega), hs k k0 (by omega), ht k k0 (by omega), hm _ (by omega) (by omega), hm _ (by omega) (by omega)]
  have := q3 k k0 k1
  exact ⟨aOK_k h5 h26 this.1, this.2⟩
theorem seenR_v {lc fc sc tc mc lc' fc' sc' tc' mc' : Nat} {n n' : Int} (h5 : σ' 5 = σ 5) (hn : n' = n) (h0 : σ' lc' 0 = σ lc 0) (hf : ∀ k, 0 ≤ k → k < 8 → σ' fc' k = σ fc k) (hs : ∀ k, 0 ≤ k → k < 8 → σ' sc' k = σ sc k) (ht : ∀ k, 0 ≤ k → k < 8 → σ' tc' k = σ tc k) (hm : ∀ k, 0 ≤ k → k < 24 → σ' mc' k = σ mc k) (q : seenR σ lc fc sc tc mc n) : seenR σ' lc' fc' sc' tc' mc' n' := by
  unfold seenR at q ⊢
  obtain ⟨q0, q1, q2, q3⟩ := q
  rw [h0, hn, h5]
  refine ⟨q0, q1, q2, fun k k0 k1 => ?_⟩
  rw [hf k k0 (by omega), hs k k0 (by omega), ht k k0 (by omega), hm _ (by omega) (by omega), hm _ (by omega) (by omega), hm _ (by omega) (by omega)]
  exact q3 k k0 k1
end VAL
section IMG
variable {d : Nat} {Q : dR → dS → Prop} {σ S : dS}
/-- all that isn't changed by a call whose cells are ex and ej, as facts of the invariant -/
theorem INV_rest (hI : INV σ) {ex : Nat → Prop} {ej : Int → Prop} {σ' : dS} (F : FRX ex ej σ σ') (x1 : ∀ k, ex k → k = 0 ∨ k = 2 ∨ k = 4 ∨ (69 ≤ k ∧ k ≤ 108) ∨ k = 148 ∨ (161 ≤ k ∧ k ≤ 162) ∨ k = 174 ∨ k = 176 ∨ k = 189 ∨ (192 ≤ k ∧ k ≤ 196)) (x2 : ∀ j, ej j → 15 ≤ j) : (∀ k, cty k → σ' k = σ k) ∧ (∀ k, 154 ≤ k → k ≤ 160 → σ' k = σ k) ∧ σ' 177 = σ 177 ∧ (∀ j, 1 ≤ j → j ≤ 6 → σ' 153 j = σ 153 j) := by
  refine ⟨fun k hk => F.1 k (cty_x hk).2.2.2.2.2.1 (cty_x hk).2.2.2.1 (cty_x hk).2.2.2.2.1 (fun z => ?_), fun k k1 k2 => F.1 k (by omega) (by omega) (by omega) (fun z => by have := x1 k z; omega), F.1 177 (by decide) (by decide) (by decide) (fun z => by have := x1 _ z; omega), fun j j1 j2 => F.2.1 j (by omega) (fun z => by have := x2 j z; omega)⟩
  have := x1 k z
  rcases hk with e | e | e | e | e | e | e | e | e | e | e | e | e | e <;> omega
/-! undo -/
theorem p_undo {K : Int → dS → Prop} (hI : INV σ) (h0 : ∀ v σ1, PRN (d + 20) 198 [.inr (.inr 153)] v σ1 → K v σ1) : wI (d + 20) 119 [.inr (.inr 0)] σ Q K := by
  obtain ⟨a1, a2, a3, a4, a5, a6, a7, a8, a9, a10, a11, a12, a13, a14, a15⟩ := id hI
  have n0 := INV_n hI
  have hR := a1.1.2
  have hO := a1.2.1.2
  refine c119 (b119_0 (c35 (b35_0 ⟨fun z => b35_1 (fun σ1 f1 => ?_), fun z => h0 (-1) σ (fun S hS Qm Km hk => c198 (b198_0 (fun σ1 f1 => ⟨fun y => absurd (show σ1 153 50 = 0 by rw [f1, up_i (by decide), hS 153 (by decide), ← a11.1]; exact Decidable.of_not_not z) y, fun _ => hk σ1 (by rw [f1, up_same]) (INV_F (FRM_tr (OUT_FRM hS) (by rw [f1]; exact FRM_153)) hI)⟩)))⟩)))
  have n1 : 1 ≤ σ 75 0 := by omega
  rw [wr_id (by omega) (by omega)] at f1
  have e75 : σ1 75 0 = σ 75 0 - 1 := by rw [f1, up_same]
  have hE := a11.2.2.2 (σ 75 0 - 1) (by omega) (by rw [← a11.1]; omega)
  have e77 : rat σ1 77 40 (σ 75 0 - 1) = σ 77 (σ 75 0 - 1) := by rw [rat_in (by omega) (by omega), f1, up_k (by decide)]
  have e79 : rat σ1 79 40 (σ 75 0 - 1) = σ 79 (σ 75 0 - 1) := by rw [rat_in (by omega) (by omega), f1, up_k (by decide)]
  have e81 : rat σ1 81 40 (σ 75 0 - 1) = σ 81 (σ 75 0 - 1) := by rw [rat_in (by omega) (by omega), f1, up_k (by decide)]
  rw [e75, e77, e79, e81]
  generalize hf : σ 77 (σ 75 0 - 1) = f at *
  generalize hs : σ 79 (σ 75 0 - 1) = s at *
  generalize ht : σ 81 (σ 75 0 - 1) = t at *
  obtain ⟨hok, hm1, hm2⟩ := hE
  have N := act_now hI hok
  have fin : ∀ (Q' : dR → dS → Prop), (∀ v σ', K v σ' → Q' (.inl (some (.inl v))) σ') → ∀ S2, S2 = up σ1 (tcF f) (tiF f s) t → B35_10 (d + 17) Q' S2 := by
    intro Q' hQ S2 f2
    refine b35_10 ?_
    have tcr := tcF_r f
    have e2 : S2 75 0 = σ 75 0 - 1 := by rw [f2, up_k (by omega)]; exact e75
    rw [e2]
    refine hQ _ _ (h0 _ S2 (fun S hS Qm Km hk => c198 (b198_0 (fun T f3 => ?_))))
    have t50 : T 153 50 = σ 75 0 := by rw [f3, up_i (by decide), hS 153 (by decide), f2, up_k (by omega), f1, up_k (by decide), ← a11.1]
    rw [t50]
    refine ⟨fun _ => b198_1 (fun T1 f4 => ?_), fun y => absurd (show σ 75 0 ≠ 0 by omega) y⟩
    rw [t50, wr_id (by omega) (by omega)] at f4
    have u50 : T1 153 50 = σ 75 0 - 1 := by rw [f4, up_same]
    have T1k : ∀ k, k ≠ 197 → k ≠ 153 → T1 k = S2 k := fun k q1 q2 => by rw [f4, up_k q2, f3, up_k q2]; exact hS k q1
    have S2k : ∀ k, k ≠ 75 → ¬ (k = 70 ∨ k = 72 ∨ k = 74) → S2 k = σ k := fun k q1 q2 => by rw [f2, up_k (by omega), f1, up_k q1]
    have u176 : T1 176 = σ 176 := by rw [T1k 176 (by decide) (by decide)]; exact S2k 176 (by decide) (by omega)
    have u174 : T1 174 = σ 174 := by rw [T1k 174 (by decide) (by decide)]; exact S2k 174 (by decide) (by omega)
    have w2 : wr (2 * (σ 75 0 - 1)) = 2 * (σ 75 0 - 1) := wr_id (by omega) (by omega)
    have w3 : wr (2 * (σ 75 0 - 1) + 1) = 2 * (σ 75 0 - 1) + 1 := wr_id (by omega) (by omega)
    rw [u50, w2, w3, u176, hm1, hm2]
    refine ⟨by omega, by omega, by omega, by omega, N.2.2.1, N.2.2.2, fun T2 f5 => ?_⟩
    have v50 : T2 153 50 = σ 75 0 - 1 := by rw [f5, up_k (by decide)]; exact u50
    rw [v50]
    have FT : FRX (fun k => acx k ∨ k = 174) (fun j => j = 50) σ T2 := by
      refine ⟨fun k q1 q2 q3 q4 => ?_, fun j q1 q2 => ?_, fun q => absurd (Or.inr rfl) q⟩
      · rw [f5, up_k q3, T1k k (fun e => q1 (by rw [e]; decide)) q2]
        exact S2k k (by omega) (by omega)
      · rw [f5, up_k (by decide), f4, up_i q2, f3, up_i q1, hS 153 (by decide), S2k 153 (by decide) (by omega)]
    obtain ⟨gc, gm, g177, g153⟩ := INV_rest hI FT (fun k hk => by omega) (fun j hj => by omega)
    have g : ∀ k, ¬ scr k ∧ k ≠ 153 ∧ k ≠ 174 ∧ ¬ (acx k ∨ k = 174) → T2 k = σ k := fun k q => FT.1 k q.1 q.2.1 q.2.2.1 q.2.2.2
    have gj : ∀ j, j ≠ 0 → j ≠ 50 → T2 153 j = σ 153 j := fun j q1 q2 => FT.2.1 j q1 q2
    have g5 := gc 5 (by decide)
    have g26 := gc 26 (by decide)
    have e7 : ∀ k, k = 70 ∨ k = 72 ∨ k = 74 → T2 k = up σ (tcF f) (tiF f s) t k := by
      intro k hk
      rw [f5, up_k (by omega), T1k k (by omega) (by omega), f2]
      by_cases e : k = tcF f
      · subst e
        exact up_eq (by rw [f1, up_k (by omega)])
      · rw [up_k e, up_k e, f1, up_k (by omega)]
    have cl : ∀ k, k = 77 ∨ k = 79 ∨ k = 81 → T2 k = σ k := fun k hk => by rw [f5, up_k (by omega), T1k k (by omega) (by omega)]; exact S2k k (by omega) (by omega)
    have c75 : ∀ j, T2 75 j = σ1 75 j := fun j => by rw [f5, up_k (by decide), T1k 75 (by decide) (by decide), f2, up_k (by omega)]
    refine hk T2 (by rw [f5, up_k (by decide), f4, up_i (by decide), f3, up_same]) (INV_of hI gc gm g177 g153 (act_skS hI hok g5 g26 e7) (act_skR hI hok g5 e7 (fun j j0 j1 j2 => by rw [f5, up_i j2, u174]) (by rw [f5, up_same])) (tapR_k (by rw [g 0 (by decide)]) (gj 15 (by decide) (by decide)) (g 161 (by decide)) (g 2 (by decide)) a7) (fun k k0 k1 => by rw [g 162 (by decide), g 4 (by decide)]; exact a8 k k0 k1) (by rw [gj 17 (by decide) (by decide), g 0 (by decide)]; exact a9) ⟨by rw [c75, f1, up_i (by decide)]; exact a10.1, by rw [g 82 (by decide)]; exact a10.2⟩ ?_ ?_ (lurR_k g5 (by rw [g 0 (by decide)]) (gj 65 (by decide) (by decide)) (g 189 (by decide)) (g 148 (by decide)) a13) (picR_k g5 g26 (by rw [g 0 (by decide)]) (gj 70 (by decide) (by decide)) (gj 71 (by decide) (by decide)) (gj 72 (by decide) (by decide)) (fun k hk => g k ⟨by omega, by omega, by omega, by omega⟩) hR hO a14))
    · rw [v50]
      refine ⟨by rw [c75]; exact e75, by omega, by omega, fun k k0 k1 => ?_⟩
      have := a11.2.2.2 k k0 (by rw [← a11.1]; omega)
      rw [cl 77 (by omega), cl 79 (by omega), cl 81 (by omega), g 176 (by decide)]
      exact ⟨aOK_k g5 g26 this.1, this.2⟩
    · rw [gj 67 (by decide) (by decide)]
      exact seenR_k g5 (g 82 (by decide)) (g 84 (by decide)) (g 86 (by decide)) (g 88 (by decide)) (g 192 (by decide)) a12
  clear hm1 hm2 N
  rcases hok with ⟨e, _, _⟩ | ⟨e, _, _⟩ | ⟨e, ha⟩ | ⟨e, _, _⟩ | ⟨e, ha, hb, _, _⟩ | ⟨e, ha, hb, _, _⟩
  · subst e
    exact ⟨fun _ => b35_2 (fun S2 f2 => fin _ (fun _ _ q => q) S2 f2), fun q => absurd rfl q⟩
  · subst e
    exact ⟨fun q => absurd q (by decide), fun _ => ⟨fun _ => b35_3 (fun S2 f2 => fin _ (fun _ _ q => q) S2 f2), fun q => absurd rfl q⟩⟩
  · subst e
    refine ⟨fun q => absurd q (by decide), fun _ => ⟨fun q => absurd q (by decide), fun _ => ⟨fun _ => b35_4 ?_, fun q => absurd rfl q⟩⟩⟩
    rcases ha with e | e
    · subst e; exact ⟨fun _ => b35_5 (b35_6 ⟨Or.inl rfl, fun S2 f2 => fin _ (fun _ _ q => q) S2 f2⟩), fun q => absurd (by decide) q⟩
    · subst e; exact ⟨fun q => absurd rfl q, fun _ => b35_6 ⟨Or.inr rfl, fun S2 f2 => fin _ (fun _ _ q => q) S2 f2⟩⟩
  · subst e
    exact ⟨fun q => absurd q (by decide), fun _ => ⟨fun q => absurd q (by decide), fun _ => ⟨fun q => absurd q (by decide), fun _ => ⟨fun _ => b35_7 (fun S2 f2 => fin _ (fun _ _ q => q) S2 f2), fun q => absurd rfl q⟩⟩⟩⟩
  · subst e
    exact ⟨fun q => absurd q (by decide), fun _ => ⟨fun q => absurd q (by decide), fun _ => ⟨fun q => absurd q (by decide), fun _ => ⟨fun q => absurd q (by decide), fun _ => ⟨fun _ => b35_8 (fun S2 f2 => fin _ (fun _ _ q => q) S2 (by rw [f2, rput_in ha (by omega)]; rfl)), fun q => absurd rfl q⟩⟩⟩⟩⟩
  · subst e
    exact ⟨fun q => absurd q (by decide), fun _ => ⟨fun q => absurd q (by decide), fun _ => ⟨fun q => absurd q (by decide), fun _ => ⟨fun q => absurd q (by decide), fun _ => ⟨fun q => absurd q (by decide), fun _ => b35_9 (fun S2 f2 => fin _ (fun _ _ q => q) S2 (by rw [f2, rput_in ha (by omega)]; rfl))⟩⟩⟩⟩⟩
end IMG
