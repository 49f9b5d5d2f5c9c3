/-! see, forget, image, restore, more, feed -/
section IMG2
variable {d : Nat} {Q : dR → dS → Prop} {σ S : dS}
theorem OUT_k {S σ1 : dS} (h : OUT S σ1) {k : Nat} (hk : ¬ scr k) : S k = σ1 k := h k (fun e => hk (by rw [e]; decide))
/-! see -/
theorem w10_82 {K : dS → Prop} {f s t : Int} (h0 : 0 ≤ σ 82 0) (h8 : σ 82 0 < 8) (h1 : σ 82 1 = 8) (h : ∀ σ', (∀ k, k ≠ 82 → k ≠ 84 → k ≠ 86 → k ≠ 88 → σ' k = σ k) → σ' 82 0 = σ 82 0 + 1 → σ' 82 1 = σ 82 1 → (∀ k, k ≠ σ 82 0 → σ' 84 k = σ 84 k ∧ σ' 86 k = σ 86 k ∧ σ' 88 k = σ 88 k) → σ' 84 (σ 82 0) = f → σ' 86 (σ 82 0) = s → σ' 88 (σ 82 0) = t → K σ') : wV (d + 2) 10 [.inr (.inr 82), .inl f, .inl s, .inl t] σ Q K := by
  refine c10_82 (b10_82_0 ⟨fun _ => b10_82_1 (fun σ1 f1 σ2 f2 σ3 f3 σ4 f4 => ?_), fun z => absurd (show σ 82 0 < σ 82 1 by omega) z⟩)
  rw [rput_in h0 (by omega)] at f1
  rw [f1, up_k (k' := 82) (by decide), rput_in h0 (by omega)] at f2
  rw [f2, up_k (k' := 82) (by decide), up_k (k' := 82) (by decide), rput_in h0 (by omega)] at f3
  rw [f3, up_k (k' := 82) (by decide), up_k (k' := 82) (by decide), up_k (k' := 82) (by decide), wr_id (by omega) (by omega)] at f4
  refine h σ4 (fun k q1 q2 q3 q4 => by rw [f4, up_k q1, up_k q4, up_k q3, up_k q2]) (by rw [f4, up_same]) (by rw [f4, up_i (by decide), up_k (by decide), up_k (by decide), up_k (by decide)]) (fun k hk => ⟨?_, ?_, ?_⟩) ?_ ?_ ?_
  · rw [f4, up_k (by decide), up_k (by decide), up_k (by decide), up_i hk]
  · rw [f4, up_k (by decide), up_k (by decide), up_i hk, up_k (by decide)]
  · rw [f4, up_k (by decide), up_i hk, up_k (by decide), up_k (by decide)]
  · rw [f4, up_k (by decide), up_k (by decide), up_k (by decide), up_same]
  · rw [f4, up_k (by decide), up_k (by decide), up_same]
  · rw [f4, up_k (by decide), up_same]
theorem p_see {K : Int → dS → Prop} {o m r : Int} (hI : INV σ) (h0 : ∀ v σ1, PRN (d + 20) 256 [.inr (.inr 153), .inl o, .inl m, .inl r] v σ1 → K v σ1) (h1 : ∀ σ1, PRE (d + 20) 256 [.inr (.inr 153), .inl o, .inl m, .inl r] 1 σ1 → Q (.inr 0) σ1) : wI (d + 20) 137 [.inr (.inr 0), .inl o, .inl m, .inl r] σ Q K := by
  obtain ⟨a1, a2, a3, a4, a5, a6, a7, a8, a9, a10, a11, a12, a13, a14, a15⟩ := id hI
  have hR := a1.1
  have hO := a1.2.1
  have n0 : 0 ≤ σ 82 0 := by rw [a12.1]; exact a12.2.1
  have n8 : σ 82 0 ≤ 8 := by rw [a12.1]; exact a12.2.2.1
  have bad : (0 ≤ o ∧ o < σ 5 2) → ¬ (σ 82 0 < 8 ∧ (-1 ≤ r ∧ r < σ 5 0) ∧ (0 ≤ m ∧ m ≤ 600)) → B137_1 (d + 18) (fun res σ1 => match res with | .inl (some (.inl v)) => K v σ1 | .inl _ => False | .inr e => Q (.inr e) σ1) σ := by
    intro ho z
    refine b137_1 (w112 (by decide) (by decide) (h0 (-1) _ (fun S hS Qm Km hk => c256 (b256_0 (fun σ1 f1 => ?_)))))
    have hT : σ1 153 0 = 0 := by rw [f1, up_same]
    have ej : ∀ j, j ≠ 0 → σ1 153 j = σ 153 j := fun j hj => by rw [f1, up_i hj, hS 153 (by decide), up_k (by decide)]
    have go : B256_2 (d + 18) (fun res σ1 => match res with | .inl (some (.inl v)) => Km v σ1 | .inl _ => False | .inr e => Qm (.inr e) σ1) σ1 := b256_2 (w196 hI (by decide) (by decide) hS (by rw [f1]; exact FRM_153) (fun σ' hI' e0 => hk σ' (by rw [e0]; exact hT) hI'))
    refine w216 hT (fun _ _ => ⟨fun _ => b256_1 ⟨fun _ => go, fun y1 => ⟨fun _ => go, fun y2 => ⟨fun _ => go, fun y3 => w159 (fun b1 b2 => absurd ⟨?_, ⟨by omega, ?_⟩, b1, b2⟩ z) (fun _ => ⟨fun q => absurd rfl q, fun _ => go⟩)⟩⟩⟩, fun q => absurd (by decide) q⟩) (fun q => absurd ⟨ho.1, by rw [ej 3 (by decide), a2.2.1]; exact ho.2⟩ q)
    · rw [ej 67 (by decide), ← a12.1] at y1; omega
    · rw [ej 1 (by decide), a2.1] at y3; omega
  refine c137 (b137_0 (w110 (fun o0 o1 => ⟨fun z => bad ⟨o0, o1⟩ (by omega), fun z1 => ⟨fun z => bad ⟨o0, o1⟩ (by omega), fun z2 => ⟨fun z => bad ⟨o0, o1⟩ (by omega), fun z3 => ⟨fun z => bad ⟨o0, o1⟩ (by omega), fun z4 => ⟨fun z5 => b137_2 (w10_82 n0 (by omega) a10.2 (fun S' g1 g2 g3 g4 g5 g6 g7 => ?_)), fun z => bad ⟨o0, o1⟩ (by omega)⟩⟩⟩⟩⟩) (fun z => h1 σ (fun S hS Qm Km hk => c256 (b256_0 (fun σ1 f1 => ?_))))))
  · rw [g2]
    refine h0 _ S' (fun S hS Qm Km hk => c256 (b256_0 (fun σ1 f1 => ?_)))
    have hT : σ1 153 0 = 0 := by rw [f1, up_same]
    have ej : ∀ j, j ≠ 0 → σ1 153 j = σ 153 j := fun j hj => by rw [f1, up_i hj, hS 153 (by decide), g1 153 (by decide) (by decide) (by decide) (by decide)]
    have T1k : ∀ k, k ≠ 197 → k ≠ 153 → σ1 k = S' k := fun k q1 q2 => by rw [f1, up_k q2]; exact hS k q1
    have e67 : σ1 153 67 = σ 82 0 := by rw [ej 67 (by decide), ← a12.1]
    have e192 : σ1 192 = σ 192 := by rw [T1k 192 (by decide) (by decide)]; exact g1 192 (by decide) (by decide) (by decide) (by decide)
    refine w216 hT (fun _ _ => ⟨fun _ => b256_1 ⟨fun y => absurd (show σ 82 0 = 8 by rw [← e67]; exact y) (by omega), fun y1 => ⟨fun y => absurd y (by omega), fun y2 => ⟨fun y => absurd (show σ 5 0 ≤ r by rw [← a2.1, ← ej 1 (by decide)]; exact y) z3, fun y3 => w159 (fun b1 b2 => ⟨fun _ => b256_3 ?_, fun q => absurd (by decide) q⟩) (fun q => absurd (show 0 ≤ m ∧ m ≤ 600 by omega) q)⟩⟩⟩, fun q => absurd (by decide) q⟩) (fun q => absurd ⟨o0, by rw [ej 3 (by decide), a2.2.1]; exact o1⟩ q)
    have w3 : wr (3 * σ 82 0) = 3 * σ 82 0 := wr_id (by omega) (by omega)
    have w31 : wr (3 * σ 82 0 + 1) = 3 * σ 82 0 + 1 := wr_id (by omega) (by omega)
    have w32 : wr (3 * σ 82 0 + 2) = 3 * σ 82 0 + 2 := wr_id (by omega) (by omega)
    rw [e67, w3]
    refine ⟨by omega, by omega, fun T2 f2 => ?_⟩
    have e672 : T2 153 67 = σ 82 0 := by rw [f2, up_k (by decide)]; exact e67
    rw [e672, w3, w31]
    refine ⟨by omega, by omega, fun T3 f3 => ?_⟩
    have e673 : T3 153 67 = σ 82 0 := by rw [f3, up_k (by decide)]; exact e672
    rw [e673, w3, w32]
    refine ⟨by omega, by omega, fun T4 f4 T5 f5 => ?_⟩
    have e674 : T4 153 67 = σ 82 0 := by rw [f4, up_k (by decide)]; exact e673
    rw [e674, wr_id (by omega) (by omega)] at f5
    have e675 : T5 153 67 = σ 82 0 + 1 := by rw [f5, up_same]
    rw [e675]
    have FT : FRX (fun k => k = 82 ∨ k = 84 ∨ k = 86 ∨ k = 88 ∨ k = 192) (fun j => j = 67) σ T5 := by
      refine ⟨fun k q1 q2 q3 q4 => ?_, fun j q1 q2 => ?_, fun _ j j0 j1 => ?_⟩
      · rw [f5, up_k q2, f4, up_k (by omega), f3, up_k (by omega), f2, up_k (by omega), T1k k (fun e => q1 (by rw [e]; decide)) q2]
        exact g1 k (by omega) (by omega) (by omega) (by omega)
      · rw [f5, up_i q2, f4, up_k (by decide), f3, up_k (by decide), f2, up_k (by decide)]; exact ej j q1
      · rw [f5, up_k (by decide), f4, up_k (by decide), f3, up_k (by decide), f2, up_k (by decide), T1k 174 (by decide) (by decide), g1 174 (by decide) (by decide) (by decide) (by decide)]
    obtain ⟨gc, gm, g177, g153⟩ := INV_rest hI FT (fun k hk => by omega) (fun j hj => by omega)
    have g : ∀ k, ¬ scr k ∧ k ≠ 153 ∧ k ≠ 174 ∧ ¬ (k = 82 ∨ k = 84 ∨ k = 86 ∨ k = 88 ∨ k = 192) → T5 k = σ k := fun k q => FT.1 k q.1 q.2.1 q.2.2.1 q.2.2.2
    have gj : ∀ j, j ≠ 0 → j ≠ 67 → T5 153 j = σ 153 j := fun j q1 q2 => FT.2.1 j q1 q2
    have g5' := gc 5 (by decide)
    have g26 := gc 26 (by decide)
    have cl : ∀ k, k = 82 ∨ k = 84 ∨ k = 86 ∨ k = 88 → T5 k = S' k := fun k hk => by rw [f5, up_k (by omega), f4, up_k (by omega), f3, up_k (by omega), f2, up_k (by omega)]; exact T1k k (by omega) (by omega)
    refine hk T5 (by rw [f5, up_i (by decide), f4, up_k (by decide), f3, up_k (by decide), f2, up_k (by decide)]; exact hT) (INV_of hI gc gm g177 g153 (skS_k g5' g26 (g 70 (by decide)) (g 72 (by decide)) (g 74 (by decide)) a5) (skR_k g5' (FT.2.2 (by decide)) (g 70 (by decide)) (g 72 (by decide)) (g 74 (by decide)) hR.2 hO.2 a6) (tapR_k (by rw [g 0 (by decide)]) (gj 15 (by decide) (by decide)) (g 161 (by decide)) (g 2 (by decide)) a7) (fun k k0 k1 => by rw [g 162 (by decide), g 4 (by decide)]; exact a8 k k0 k1) (by rw [gj 17 (by decide) (by decide), g 0 (by decide)]; exact a9) ⟨by rw [g 75 (by decide)]; exact a10.1, by rw [cl 82 (by omega), g3]; exact a10.2⟩ ?_ ?_ (lurR_k g5' (by rw [g 0 (by decide)]) (gj 65 (by decide) (by decide)) (g 189 (by decide)) (g 148 (by decide)) a13) (picR_k g5' g26 (by rw [g 0 (by decide)]) (gj 70 (by decide) (by decide)) (gj 71 (by decide) (by decide)) (gj 72 (by decide) (by decide)) (fun k hk => g k ⟨by omega, by omega, by omega, by omega⟩) hR.2 hO.2 a14))
    · rw [gj 50 (by decide) (by decide)]
      exact actR_k g5' g26 (g 75 (by decide)) (g 77 (by decide)) (g 79 (by decide)) (g 81 (by decide)) (g 176 (by decide)) a11
    · rw [e675]
      refine ⟨by rw [cl 82 (by omega)]; exact g2, by omega, by omega, fun k k0 k1 => ?_⟩
      rw [cl 84 (by omega), cl 86 (by omega), cl 88 (by omega), g5']
      have m192 : ∀ x, x ≠ 3 * σ 82 0 → x ≠ 3 * σ 82 0 + 1 → x ≠ 3 * σ 82 0 + 2 → T5 192 x = σ 192 x := fun x x1 x2 x3 => by rw [f5, up_k (by decide), f4, up_i x3, f3, up_i x2, f2, up_i x1, e192]
      by_cases e : k = σ 82 0
      · subst e
        rw [g5, g6, g7]
        refine ⟨⟨o0, o1⟩, ⟨by omega, z5⟩, ⟨by omega, by omega⟩, ?_, ?_, ?_⟩
        · rw [f5, up_k (by decide), f4, up_i (by omega), f3, up_i (by omega), f2, up_same]
        · rw [f5, up_k (by decide), f4, up_i (by omega), f3, up_same]
        · rw [f5, up_k (by decide), f4, up_same]
      · have kk : k < σ 82 0 := by omega
        have := a12.2.2.2 k k0 (by rw [← a12.1]; exact kk)
        have q := g4 k e
        rw [q.1, q.2.1, q.2.2, m192 _ (by omega) (by omega) (by omega), m192 _ (by omega) (by omega) (by omega), m192 _ (by omega) (by omega) (by omega)]
        exact this
  · have hT : σ1 153 0 = 0 := by rw [f1, up_same]
    have F1 : FRM σ σ1 := FRM_tr (OUT_FRM hS) (by rw [f1]; exact FRM_153)
    have e3 : σ1 153 3 = σ 5 2 := by rw [F1.2.1 3 (by decide)]; exact a2.2.1
    refine w216 hT (fun a b => absurd ⟨a, by omega⟩ z) (fun _ => ⟨fun q => absurd rfl q, fun _ => hk 0 _ (up_same _ _ _ _) (INV_F (FRM_tr F1 FRM_153) hI)⟩)
/-! forget -/
def PRV (D y : Nat) (am : List dX) (σ1 : dS) : Prop := ∀ S, OUT S σ1 → ∀ (Qm : dR → dS → Prop) (Km : dS → Prop), (∀ σ2, INV σ2 → Km σ2) → wV D y am S Qm Km
theorem p_forget {K : dS → Prop} (hI : INV σ) (h0 : ∀ σ1, PRV (d + 20) 257 [.inr (.inr 153)] σ1 → K σ1) : wV (d + 20) 138 [.inr (.inr 0)] σ Q K := by
  obtain ⟨a1, a2, a3, a4, a5, a6, a7, a8, a9, a10, a11, a12, a13, a14, a15⟩ := id hI
  have hR := a1.1
  have hO := a1.2.1
  refine c138 (b138_0 (fun S1 f1 => h0 S1 (fun S hS Qm Km hk => c257 (b257_0 (fun T f2 T1 f3 => ?_)))))
  have FT : FRX (fun k => k = 82) (fun j => j = 67) σ T1 := by
    refine ⟨fun k q1 q2 q3 q4 => ?_, fun j q1 q2 => ?_, fun _ j j0 j1 => ?_⟩
    · rw [f3, up_k q2, f2, up_k q2, OUT_k hS q1, f1, up_k q4]
    · rw [f3, up_i q2, f2, up_i q1, hS 153 (by decide), f1, up_k (by decide)]
    · rw [f3, up_k (by decide), f2, up_k (by decide), hS 174 (by decide), f1, up_k (by decide)]
  have c82 : ∀ j, T1 82 j = S1 82 j := fun j => by rw [f3, up_k (by decide), f2, up_k (by decide), hS 82 (by decide)]
  obtain ⟨gc, gm, g177, g153⟩ := INV_rest hI FT (fun k hk => by omega) (fun j hj => by omega)
  have g : ∀ k, ¬ scr k ∧ k ≠ 153 ∧ k ≠ 174 ∧ ¬ (k = 82) → T1 k = σ k := fun k q => FT.1 k q.1 q.2.1 q.2.2.1 q.2.2.2
  have gj : ∀ j, j ≠ 0 → j ≠ 67 → T1 153 j = σ 153 j := fun j q1 q2 => FT.2.1 j q1 q2
  have g5' := gc 5 (by decide)
  have g26 := gc 26 (by decide)
  refine hk T1 (INV_of hI gc gm g177 g153 (skS_k g5' g26 (g 70 (by decide)) (g 72 (by decide)) (g 74 (by decide)) a5) (skR_k g5' (FT.2.2 (by decide)) (g 70 (by decide)) (g 72 (by decide)) (g 74 (by decide)) hR.2 hO.2 a6) (tapR_k (by rw [g 0 (by decide)]) (gj 15 (by decide) (by decide)) (g 161 (by decide)) (g 2 (by decide)) a7) (fun k k0 k1 => by rw [g 162 (by decide), g 4 (by decide)]; exact a8 k k0 k1) (by rw [gj 17 (by decide) (by decide), g 0 (by decide)]; exact a9) ⟨by rw [g 75 (by decide)]; exact a10.1, by rw [c82, f1, up_i (by decide)]; exact a10.2⟩ ?_ ?_ (lurR_k g5' (by rw [g 0 (by decide)]) (gj 65 (by decide) (by decide)) (g 189 (by decide)) (g 148 (by decide)) a13) (picR_k g5' g26 (by rw [g 0 (by decide)]) (gj 70 (by decide) (by decide)) (gj 71 (by decide) (by decide)) (gj 72 (by decide) (by decide)) (fun k hk => g k ⟨by omega, by omega, by omega, by omega⟩) hR.2 hO.2 a14))
  · rw [gj 50 (by decide) (by decide)]
    exact actR_k g5' g26 (g 75 (by decide)) (g 77 (by decide)) (g 79 (by decide)) (g 81 (by decide)) (g 176 (by decide)) a11
  · have e67 : T1 153 67 = 0 := by rw [f3, up_same]
    rw [e67]
    exact ⟨by rw [c82, f1, up_same], by decide, by decide, fun k k0 k1 => absurd k1 (by omega)⟩
/-! the image: the class's copies of now and picture -/
theorem w34_89_69 {K : dS → Prop} (hw : σ 70 2 = 0 ∨ σ 70 2 = 1) (h : ∀ σ', (∀ k, k ≠ 90 → k ≠ 92 → k ≠ 94 → k ≠ 95 → k ≠ 97 → k ≠ 99 → k ≠ 101 → k ≠ 102 → k ≠ 104 → k ≠ 106 → k ≠ 108 → σ' k = σ k) → (∀ j, 0 ≤ j → j < 4 → σ' 90 j = σ 70 j) → (∀ r, 0 ≤ r → r < 10 → σ' 92 r = σ 72 r) → (∀ r, 0 ≤ r → r < 5 → σ' 94 r = σ 74 r) → (σ' 95 0 = σ 75 0 ∧ σ' 95 1 = σ 95 1) → (∀ k, 0 ≤ k → k < 40 → σ' 97 k = σ 77 k ∧ σ' 99 k = σ 79 k ∧ σ' 101 k = σ 81 k) → (σ' 102 0 = σ 82 0 ∧ σ' 102 1 = σ 102 1) → (∀ k, 0 ≤ k → k < 8 → σ' 104 k = σ 84 k ∧ σ' 106 k = σ 86 k ∧ σ' 108 k = σ 88 k) → K σ') : wV (d + 6) 34 [.inr (.inr (90 - 1)), .inr (.inr (70 - 1))] σ Q K := by
  refine c34_89_69 (b34_89_69_0 (c22_90_70 (b22_90_70_0 (fun s1 f1 s2 f2 => ⟨?_, fun s3 f3 s4 f4 s5 f5 s6 f6 => c12_95_75 (b12_95_75_0 (fun t1 u1 t2 u2 t3 u3 t4 u4 => c12_102_82 (b12_102_82_0 (fun v1 w1 v2 w2 v3 w3 v4 w4 => ?_))))⟩))))
  · rw [f2, up_k (by decide), f1, up_k (by decide)]; exact hw
  · have q4 : ∀ k, k ≠ 90 → s4 k = σ k := fun k hk => by rw [f4, up_k hk, f3, up_k hk, f2, up_k hk, f1, up_k hk]
    have q6 : ∀ k, k ≠ 90 → k ≠ 92 → k ≠ 94 → s6 k = σ k := fun k h1 h2 h3 => by rw [f6, rcopy_k h3, f5, rcopy_k h2]; exact q4 k h1
    have qt : ∀ k, k ≠ 95 → k ≠ 97 → k ≠ 99 → k ≠ 101 → t4 k = s6 k := fun k h1 h2 h3 h4 => by rw [u4, rcopy_k h4, u3, rcopy_k h3, u2, rcopy_k h2, u1, up_k h1]
    have qv : ∀ k, k ≠ 102 → k ≠ 104 → k ≠ 106 → k ≠ 108 → v4 k = t4 k := fun k h1 h2 h3 h4 => by rw [w4, rcopy_k h4, w3, rcopy_k h3, w2, rcopy_k h2, w1, up_k h1]
    have sky : ∀ k, k = 90 ∨ k = 92 ∨ k = 94 → v4 k = s6 k := fun k hk => by rw [qv k (by omega) (by omega) (by omega) (by omega)]; exact qt k (by omega) (by omega) (by omega) (by omega)
    refine h v4 (fun k h1 h2 h3 h4 h5 h6 h7 h8 h9 h10 h11 => by rw [qv k h8 h9 h10 h11, qt k h4 h5 h6 h7]; exact q6 k h1 h2 h3) (fun j j0 j1 => ?_) (fun r r0 r1 => ?_) (fun r r0 r1 => ?_) ⟨?_, ?_⟩ (fun k k0 k1 => ⟨?_, ?_, ?_⟩) ⟨?_, ?_⟩ (fun k k0 k1 => ⟨?_, ?_, ?_⟩)
    · rw [sky 90 (by omega), f6, rcopy_k (by decide), f5, rcopy_k (by decide), f4]
      by_cases e3 : j = 3
      · subst e3; rw [up_same, f3, up_k (by decide), f2, up_k (by decide), f1, up_k (by decide)]
      rw [up_i e3, f3]
      by_cases e2 : j = 2
      · subst e2; rw [up_same, f2, up_k (by decide), f1, up_k (by decide)]
      rw [up_i e2, f2]
      by_cases e1 : j = 1
      · subst e1; rw [up_same, f1, up_k (by decide)]
      rw [up_i e1, f1]
      have e0 : j = 0 := by omega
      subst e0; rw [up_same]
    · rw [sky 92 (by omega), f6, rcopy_k (by decide), f5, rcopy_in r0 (by omega) (by omega), q4 72 (by decide)]
    · rw [sky 94 (by omega), f6, rcopy_in r0 (by omega) (by omega), f5, rcopy_k (by decide), q4 74 (by decide)]
    · rw [qv 95 (by decide) (by decide) (by decide) (by decide), u4, rcopy_k (by decide), u3, rcopy_k (by decide), u2, rcopy_k (by decide), u1, up_same, q6 75 (by decide) (by decide) (by decide)]
    · rw [qv 95 (by decide) (by decide) (by decide) (by decide), u4, rcopy_k (by decide), u3, rcopy_k (by decide), u2, rcopy_k (by decide), u1, up_i (by decide), q6 95 (by decide) (by decide) (by decide)]
    · rw [qv 97 (by decide) (by decide) (by decide) (by decide), u4, rcopy_k (by decide), u3, rcopy_k (by decide), u2, rcopy_in k0 (by omega) (by omega), u1, up_k (by decide), q6 77 (by decide) (by decide) (by decide)]
    · rw [qv 99 (by decide) (by decide) (by decide) (by decide), u4, rcopy_k (by decide), u3, rcopy_in k0 (by omega) (by omega), u2, rcopy_k (by decide), u1, up_k (by decide), q6 79 (by decide) (by decide) (by decide)]
    · rw [qv 101 (by decide) (by decide) (by decide) (by decide), u4, rcopy_in k0 (by omega) (by omega), u3, rcopy_k (by decide), u2, rcopy_k (by decide), u1, up_k (by decide), q6 81 (by decide) (by decide) (by decide)]
    · rw [w4, rcopy_k (by decide), w3, rcopy_k (by decide), w2, rcopy_k (by decide), w1, up_same, qt 82 (by decide) (by decide) (by decide) (by decide), q6 82 (by decide) (by decide) (by decide)]
    · rw [w4, rcopy_k (by decide), w3, rcopy_k (by decide), w2, rcopy_k (by decide), w1, up_i (by decide), qt 102 (by decide) (by decide) (by decide) (by decide), q6 102 (by decide) (by decide) (by decide)]
    · rw [w4, rcopy_k (by decide), w3, rcopy_k (by decide), w2, rcopy_in k0 (by omega) (by omega), w1, up_k (by decide), qt 84 (by decide) (by decide) (by decide) (by decide), q6 84 (by decide) (by decide) (by decide)]
    · rw [w4, rcopy_k (by decide), w3, rcopy_in k0 (by omega) (by omega), w2, rcopy_k (by decide), w1, up_k (by decide), qt 86 (by decide) (by decide) (by decide) (by decide), q6 86 (by decide) (by decide) (by decide)]
    · rw [w4, rcopy_in k0 (by omega) (by omega), w3, rcopy_k (by decide), w2, rcopy_k (by decide), w1, up_k (by decide), qt 88 (by decide) (by decide) (by decide) (by decide), q6 88 (by decide) (by decide) (by decide)]
theorem w34_69_89 {K : dS → Prop} (hw : σ 90 2 = 0 ∨ σ 90 2 = 1) (h : ∀ σ', (∀ k, k ≠ 70 → k ≠ 72 → k ≠ 74 → k ≠ 75 → k ≠ 77 → k ≠ 79 → k ≠ 81 → k ≠ 82 → k ≠ 84 → k ≠ 86 → k ≠ 88 → σ' k = σ k) → (∀ j, 0 ≤ j → j < 4 → σ' 70 j = σ 90 j) → (∀ r, 0 ≤ r → r < 10 → σ' 72 r = σ 92 r) → (∀ r, 0 ≤ r → r < 5 → σ' 74 r = σ 94 r) → (σ' 75 0 = σ 95 0 ∧ σ' 75 1 = σ 75 1) → (∀ k, 0 ≤ k → k < 40 → σ' 77 k = σ 97 k ∧ σ' 79 k = σ 99 k ∧ σ' 81 k = σ 101 k) → (σ' 82 0 = σ 102 0 ∧ σ' 82 1 = σ 82 1) → (∀ k, 0 ≤ k → k < 8 → σ' 84 k = σ 104 k ∧ σ' 86 k = σ 106 k ∧ σ' 88 k = σ 108 k) → K σ') : wV (d + 6) 34 [.inr (.inr (70 - 1)), .inr (.inr (90 - 1))] σ Q K := by
  refine c34_69_89 (b34_69_89_0 (c22_70_90 (b22_70_90_0 (fun s1 f1 s2 f2 => ⟨?_, fun s3 f3 s4 f4 s5 f5 s6 f6 => c12_75_95 (b12_75_95_0 (fun t1 u1 t2 u2 t3 u3 t4 u4 => c12_82_102 (b12_82_102_0 (fun v1 w1 v2 w2 v3 w3 v4 w4 => ?_))))⟩))))
  · rw [f2, up_k (by decide), f1, up_k (by decide)]; exact hw
  · have q4 : ∀ k, k ≠ 70 → s4 k = σ k := fun k hk => by rw [f4, up_k hk, f3, up_k hk, f2, up_k hk, f1, up_k hk]
    have q6 : ∀ k, k ≠ 70 → k ≠ 72 → k ≠ 74 → s6 k = σ k := fun k h1 h2 h3 => by rw [f6, rcopy_k h3, f5, rcopy_k h2]; exact q4 k h1
    have qt : ∀ k, k ≠ 75 → k ≠ 77 → k ≠ 79 → k ≠ 81 → t4 k = s6 k := fun k h1 h2 h3 h4 => by rw [u4, rcopy_k h4, u3, rcopy_k h3, u2, rcopy_k h2, u1, up_k h1]
    have qv : ∀ k, k ≠ 82 → k ≠ 84 → k ≠ 86 → k ≠ 88 → v4 k = t4 k := fun k h1 h2 h3 h4 => by rw [w4, rcopy_k h4, w3, rcopy_k h3, w2, rcopy_k h2, w1, up_k h1]
    have sky : ∀ k, k = 70 ∨ k = 72 ∨ k = 74 → v4 k = s6 k := fun k hk => by rw [qv k (by omega) (by omega) (by omega) (by omega)]; exact qt k (by omega) (by omega) (by omega) (by omega)
    refine h v4 (fun k h1 h2 h3 h4 h5 h6 h7 h8 h9 h10 h11 => by rw [qv k h8 h9 h10 h11, qt k h4 h5 h6 h7]; exact q6 k h1 h2 h3) (fun j j0 j1 => ?_) (fun r r0 r1 => ?_) (fun r r0 r1 => ?_) ⟨?_, ?_⟩ (fun k k0 k1 => ⟨?_, ?_, ?_⟩) ⟨?_, ?_⟩ (fun k k0 k1 => ⟨?_, ?_, ?_⟩)
    · rw [sky 70 (by omega), f6, rcopy_k (by decide), f5, rcopy_k (by decide), f4]
      by_cases e3 : j = 3
      · subst e3; rw [up_same, f3, up_k (by decide), f2, up_k (by decide), f1, up_k (by decide)]
      rw [up_i e3, f3]
      by_cases e2 : j = 2
      · subst e2; rw [up_same, f2, up_k (by decide), f1, up_k (by decide)]
      rw [up_i e2, f2]
      by_cases e1 : j = 1
      · subst e1; rw [up_same, f1, up_k (by decide)]
      rw [up_i e1, f1]
      have e0 : j = 0 := by omega
      subst e0; rw [up_same]
    · rw [sky 72 (by omega), f6, rcopy_k (by decide), f5, rcopy_in r0 (by omega) (by omega), q4 92 (by decide)]
    · rw [sky 74 (by omega), f6, rcopy_in r0 (by omega) (by omega), f5, rcopy_k (by decide), q4 94 (by decide)]
    · rw [qv 75 (by decide) (by decide) (by decide) (by decide), u4, rcopy_k (by decide), u3, rcopy_k (by decide), u2, rcopy_k (by decide), u1, up_same, q6 95 (by decide) (by decide) (by decide)]
    · rw [qv 75 (by decide) (by decide) (by decide) (by decide), u4, rcopy_k (by decide), u3, rcopy_k (by decide), u2, rcopy_k (by decide), u1, up_i (by decide), q6 75 (by decide) (by decide) (by decide)]
    · rw [qv 77 (by decide) (by decide) (by decide) (by decide), u4, rcopy_k (by decide), u3, rcopy_k (by decide), u2, rcopy_in k0 (by omega) (by omega), u1, up_k (by decide), q6 97 (by decide) (by decide) (by decide)]
    · rw [qv 79 (by decide) (by decide) (by decide) (by decide), u4, rcopy_k (by decide), u3, rcopy_in k0 (by omega) (by omega), u2, rcopy_k (by decide), u1, up_k (by decide), q6 99 (by decide) (by decide) (by decide)]
    · rw [qv 81 (by decide) (by decide) (by decide) (by decide), u4, rcopy_in k0 (by omega) (by omega), u3, rcopy_k (by decide), u2, rcopy_k (by decide), u1, up_k (by decide), q6 101 (by decide) (by decide) (by decide)]
    · rw [w4, rcopy_k (by decide), w3, rcopy_k (by decide), w2, rcopy_k (by decide), w1, up_same, qt 102 (by decide) (by decide) (by decide) (by decide), q6 102 (by decide) (by decide) (by decide)]
    · rw [w4, rcopy_k (by decide), w3, rcopy_k (by decide), w2, rcopy_k (by decide), w1, up_i (by decide), qt 82 (by decide) (by decide) (by decide) (by decide), q6 82 (by decide) (by decide) (by decide)]
    · rw [w4, rcopy_k (by decide), w3, rcopy_k (by decide), w2, rcopy_in k0 (by omega) (by omega), w1, up_k (by decide), qt 104 (by decide) (by decide) (by decide) (by decide), q6 104 (by decide) (by decide) (by decide)]
    · rw [w4, rcopy_k (by decide), w3, rcopy_in k0 (by omega) (by omega), w2, rcopy_k (by decide), w1, up_k (by decide), qt 106 (by decide) (by decide) (by decide) (by decide), q6 106 (by decide) (by decide) (by decide)]
    · rw [w4, rcopy_in k0 (by omega) (by omega), w3, rcopy_k (by decide), w2, rcopy_k (by decide), w1, up_k (by decide), qt 108 (by decide) (by decide) (by decide) (by decide), q6 108 (by decide) (by decide) (by decide)]
abbrev icx (k : Nat) : Prop := k = 90 ∨ k = 92 ∨ k = 94 ∨ k = 95 ∨ k = 97 ∨ k = 99 ∨ k = 101 ∨ k = 102 ∨ k = 104 ∨ k = 106 ∨ k = 108 ∨ k = 194 ∨ k = 195 ∨ k = 196 ∨ k = 0
theorem p_image {K : dS → Prop} (hI : INV σ) (h0 : ∀ σ1, PRV (d + 20) 265 [.inr (.inr 153)] σ1 → K σ1) : wV (d + 20) 154 [.inr (.inr 0)] σ Q K := by
  obtain ⟨a1, a2, a3, a4, a5, a6, a7, a8, a9, a10, a11, a12, a13, a14, a15⟩ := id hI
  have hR := a1.1
  have hO := a1.2.1
  refine c154 (b154_0 (w34_89_69 (INV_s hI).2.2.1 (fun s1 g0 g1 g2 g4 gl1 gl2 gl3 gl4 => ⟨Or.inr rfl, fun S1 f1 => h0 S1 (fun S hS Qm Km hk => c265 (b265_0 (fun t1 u1 => ⟨Or.inr rfl, fun t2 u2 t3 u3 t4 u4 => ?_⟩)))⟩)))
  refine w161 (n := 19) (n2 := 19) (by decide) (by decide) (by decide) (by decide) (w161 (n := 80) (n2 := 80) (by decide) (by decide) (by decide) (by decide) (w161 (n := 24) (n2 := 24) (by decide) (by decide) (by decide) (by decide) ?_))
  generalize hT : rcopy (rcopy (rcopy t4 194 19 174 19 0) 195 80 176 80 0) 196 24 192 24 0 = T
  have t4k : ∀ k, k ≠ 153 → k ≠ 197 → t4 k = S1 k := fun k q1 q2 => by rw [u4, up_k q1, u3, up_k q1, u2, up_k q1, u1, up_k q1]; exact hS k q2
  have Tk : ∀ k, k ≠ 194 → k ≠ 195 → k ≠ 196 → T k = t4 k := fun k q1 q2 q3 => by rw [← hT, rcopy_k q3, rcopy_k q2, rcopy_k q1]
  have S153 : ∀ j, S 153 j = σ 153 j := fun j => by rw [hS 153 (by decide), f1, up_k (by decide)]; rw [g0 153 (by decide) (by decide) (by decide) (by decide) (by decide) (by decide) (by decide) (by decide) (by decide) (by decide) (by decide)]
  have j153 : ∀ j, j ≠ 0 → j ≠ 70 → j ≠ 71 → j ≠ 72 → T 153 j = σ 153 j := fun j q0 q1 q2 q3 => by rw [Tk 153 (by decide) (by decide) (by decide), u4, up_i q3, u3, up_i q2, u2, up_i q1, u1, up_i q0]; exact S153 j
  have s1k : ∀ k, ¬ icx k → S1 k = σ k := fun k q => by rw [f1, up_k (by omega)]; exact g0 k (by omega) (by omega) (by omega) (by omega) (by omega) (by omega) (by omega) (by omega) (by omega) (by omega) (by omega)
  have FT : FRX icx (fun j => j = 70 ∨ j = 71 ∨ j = 72) σ T := by
    refine ⟨fun k q1 q2 q3 q4 => ?_, fun j q1 q2 => j153 j q1 (fun e => q2 (by omega)) (fun e => q2 (by omega)) (fun e => q2 (by omega)), fun _ j j0 j1 => ?_⟩
    · rw [Tk k (by omega) (by omega) (by omega), t4k k q2 (fun e => q1 (by rw [e]; decide))]; exact s1k k q4
    · rw [Tk 174 (by decide) (by decide) (by decide), t4k 174 (by decide) (by decide), s1k 174 (by omega)]
  obtain ⟨gc, gm, g177, g153⟩ := INV_rest hI FT (fun k hk => by omega) (fun j hj => by omega)
  have g : ∀ k, ¬ scr k ∧ k ≠ 153 ∧ k ≠ 174 ∧ ¬ icx k → T k = σ k := fun k q => FT.1 k q.1 q.2.1 q.2.2.1 q.2.2.2
  have g5' := gc 5 (by decide)
  have g26 := gc 26 (by decide)
  have T0 : ∀ j, j ≠ 10 → T 0 j = σ 0 j := fun j hj => by rw [Tk 0 (by decide) (by decide) (by decide), t4k 0 (by decide) (by decide), f1, up_i hj, g0 0 (by decide) (by decide) (by decide) (by decide) (by decide) (by decide) (by decide) (by decide) (by decide) (by decide) (by decide)]
  have T010 : T 0 10 = 1 := by rw [Tk 0 (by decide) (by decide) (by decide), t4k 0 (by decide) (by decide), f1, up_same]
  have T70 : T 153 70 = 1 := by rw [Tk 153 (by decide) (by decide) (by decide), u4, up_i (by decide), u3, up_i (by decide), u2, up_same]
  have T71 : T 153 71 = σ 153 50 := by rw [Tk 153 (by decide) (by decide) (by decide), u4, up_i (by decide), u3, up_same, u2, up_i (by decide), u1, up_i (by decide), S153]
  have T72 : T 153 72 = σ 153 67 := by rw [Tk 153 (by decide) (by decide) (by decide), u4, up_same, u3, up_i (by decide), u2, up_i (by decide), u1, up_i (by decide), S153]
  have cs : ∀ k, k = 90 ∨ k = 92 ∨ k = 94 ∨ k = 95 ∨ k = 97 ∨ k = 99 ∨ k = 101 ∨ k = 102 ∨ k = 104 ∨ k = 106 ∨ k = 108 → T k = s1 k := fun k hk => by rw [Tk k (by omega) (by omega) (by omega), t4k k (by omega) (by omega), f1, up_k (by omega)]
  have m194 : ∀ j, 0 ≤ j → j < 19 → T 194 j = σ 174 j := fun j j0 j1 => by rw [← hT, rcopy_k (by decide), rcopy_k (by decide), rcopy_in j0 (by omega) (by omega), t4k 174 (by decide) (by decide), s1k 174 (by omega)]
  have m195 : ∀ j, 0 ≤ j → j < 80 → T 195 j = σ 176 j := fun j j0 j1 => by rw [← hT, rcopy_k (by decide), rcopy_in j0 (by omega) (by omega), rcopy_k (by decide), t4k 176 (by decide) (by decide), s1k 176 (by omega)]
  have m196 : ∀ j, 0 ≤ j → j < 24 → T 196 j = σ 192 j := fun j j0 j1 => by rw [← hT, rcopy_in j0 (by omega) (by omega), rcopy_k (by decide), rcopy_k (by decide), t4k 192 (by decide) (by decide), s1k 192 (by omega)]
  refine hk T (INV_of hI gc gm g177 g153 (skS_k g5' g26 (g 70 (by decide)) (g 72 (by decide)) (g 74 (by decide)) a5) (skR_k g5' (FT.2.2 (by decide)) (g 70 (by decide)) (g 72 (by decide)) (g 74 (by decide)) hR.2 hO.2 a6) (tapR_k (T0 1 (by decide)) (j153 15 (by decide) (by decide) (by decide) (by decide)) (g 161 (by decide)) (g 2 (by decide)) a7) (fun k k0 k1 => by rw [g 162 (by decide), g 4 (by decide)]; exact a8 k k0 k1) (by rw [j153 17 (by decide) (by decide) (by decide) (by decide), T0 2 (by decide)]; exact a9) (by rw [g 75 (by decide), g 82 (by decide)]; exact a10) ?_ ?_ (lurR_k g5' (T0 17 (by decide)) (j153 65 (by decide) (by decide) (by decide) (by decide)) (g 189 (by decide)) (g 148 (by decide)) a13) ?_)
  · rw [j153 50 (by decide) (by decide) (by decide) (by decide)]
    exact actR_k g5' g26 (g 75 (by decide)) (g 77 (by decide)) (g 79 (by decide)) (g 81 (by decide)) (g 176 (by decide)) a11
  · rw [j153 67 (by decide) (by decide) (by decide) (by decide)]
    exact seenR_k g5' (g 82 (by decide)) (g 84 (by decide)) (g 86 (by decide)) (g 88 (by decide)) (g 192 (by decide)) a12
  · unfold picR
    rw [T010, T70]
    refine ⟨rfl, Or.inr rfl, fun _ => ⟨?_, ?_, ?_, ?_⟩⟩
    · exact skS_v g5' g26 hR.2 hO.2 (fun j j0 j1 => by rw [cs 90 (by omega)]; exact g1 j j0 j1) (fun r r0 r1 => by rw [cs 92 (by omega)]; exact g2 r r0 r1) (fun r r0 r1 => by rw [cs 94 (by omega)]; exact g4 r r0 r1) a5
    · exact skR_v g5' hR.2 hO.2 (fun j j0 j1 => by rw [cs 90 (by omega)]; exact g1 j j0 j1) (fun r r0 r1 => by rw [cs 92 (by omega)]; exact g2 r r0 r1) (fun r r0 r1 => by rw [cs 94 (by omega)]; exact g4 r r0 r1) m194 a6
    · exact actR_v g5' g26 T71 (by rw [cs 95 (by omega)]; exact gl1.1) (fun k k0 k1 => by rw [cs 97 (by omega)]; exact (gl2 k k0 k1).1) (fun k k0 k1 => by rw [cs 99 (by omega)]; exact (gl2 k k0 k1).2.1) (fun k k0 k1 => by rw [cs 101 (by omega)]; exact (gl2 k k0 k1).2.2) m195 a11
    · exact seenR_v g5' T72 (by rw [cs 102 (by omega)]; exact gl3.1) (fun k k0 k1 => by rw [cs 104 (by omega)]; exact (gl4 k k0 k1).1) (fun k k0 k1 => by rw [cs 106 (by omega)]; exact (gl4 k k0 k1).2.1) (fun k k0 k1 => by rw [cs 108 (by omega)]; exact (gl4 k k0 k1).2.2) m196 a12
abbrev rcx (k : Nat) : Prop := k = 70 ∨ k = 72 ∨ k = 74 ∨ k = 75 ∨ k = 77 ∨ k = 79 ∨ k = 81 ∨ k = 82 ∨ k = 84 ∨ k = 86 ∨ k = 88 ∨ k = 174 ∨ k = 176 ∨ k = 192
theorem p_restore {K : Int → dS → Prop} (hI : INV σ) (h0 : ∀ v σ1, PRN (d + 20) 266 [.inr (.inr 153)] v σ1 → K v σ1) : wI (d + 20) 155 [.inr (.inr 0)] σ Q K := by
  obtain ⟨a1, a2, a3, a4, a5, a6, a7, a8, a9, a10, a11, a12, a13, a14, a15⟩ := id hI
  have hR := a1.1
  have hO := a1.2.1
  refine c155 (b155_0 ⟨fun z => b155_1 ⟨Or.inl z, ?_⟩, fun z => ?_⟩)
  · rw [z]
    refine h0 0 σ (fun S hS Qm Km hk => c266 (b266_0 (fun σ1 f1 => ⟨fun y => absurd (show σ1 153 70 = 0 by rw [f1, up_i (by decide), hS 153 (by decide), a14.1]; exact z) y, fun _ => ⟨Or.inl rfl, hk σ1 (by rw [f1, up_same]) (INV_F (FRM_tr (OUT_FRM hS) (by rw [f1]; exact FRM_153)) hI)⟩⟩)))
  have z1 : σ 0 10 = 1 := a14.2.1.resolve_left z
  obtain ⟨p1, p2, p3, p4⟩ := a14.2.2 z1
  refine w34_69_89 p1.1.2.2.1 (fun s1 g0 g1 g2 g4 gl1 gl2 gl3 gl4 => b155_1 ?_)
  have s010 : s1 0 10 = 1 := by rw [g0 0 (by decide) (by decide) (by decide) (by decide) (by decide) (by decide) (by decide) (by decide) (by decide) (by decide) (by decide)]; exact z1
  rw [s010]
  refine ⟨Or.inr rfl, h0 1 s1 (fun S hS Qm Km hk => c266 (b266_0 (fun t1 u1 => ?_)))⟩
  have S153 : ∀ j, S 153 j = σ 153 j := fun j => by rw [hS 153 (by decide), g0 153 (by decide) (by decide) (by decide) (by decide) (by decide) (by decide) (by decide) (by decide) (by decide) (by decide) (by decide)]
  have e70 : t1 153 70 = 1 := by rw [u1, up_i (by decide), S153, a14.1]; exact z1
  refine ⟨fun _ => b266_1 (fun t2 u2 t3 u3 => ?_), fun y => absurd (show t1 153 70 ≠ 0 by rw [e70]; decide) y⟩
  refine w161 (n := 19) (n2 := 19) (by decide) (by decide) (by decide) (by decide) (w161 (n := 80) (n2 := 80) (by decide) (by decide) (by decide) (by decide) (w161 (n := 24) (n2 := 24) (by decide) (by decide) (by decide) (by decide) ⟨Or.inr rfl, ?_⟩))
  generalize hT : rcopy (rcopy (rcopy t3 174 19 194 19 0) 176 80 195 80 0) 192 24 196 24 0 = T
  have t3k : ∀ k, k ≠ 153 → k ≠ 197 → t3 k = s1 k := fun k q1 q2 => by rw [u3, up_k q1, u2, up_k q1, u1, up_k q1]; exact hS k q2
  have Tk : ∀ k, k ≠ 174 → k ≠ 176 → k ≠ 192 → T k = t3 k := fun k q1 q2 q3 => by rw [← hT, rcopy_k q3, rcopy_k q2, rcopy_k q1]
  have j153 : ∀ j, j ≠ 0 → j ≠ 50 → j ≠ 67 → T 153 j = σ 153 j := fun j q0 q1 q2 => by rw [Tk 153 (by decide) (by decide) (by decide), u3, up_i q2, u2, up_i q1, u1, up_i q0]; exact S153 j
  have s1k : ∀ k, ¬ rcx k → s1 k = σ k := fun k q => g0 k (by omega) (by omega) (by omega) (by omega) (by omega) (by omega) (by omega) (by omega) (by omega) (by omega) (by omega)
  have FT : FRX rcx (fun j => j = 50 ∨ j = 67) σ T := by
    refine ⟨fun k q1 q2 q3 q4 => ?_, fun j q1 q2 => j153 j q1 (fun e => q2 (by omega)) (fun e => q2 (by omega)), fun q => absurd (by decide) q⟩
    rw [Tk k (by omega) (by omega) (by omega), t3k k q2 (fun e => q1 (by rw [e]; decide))]; exact s1k k q4
  obtain ⟨gc, gm, g177, g153⟩ := INV_rest hI FT (fun k hk => by omega) (fun j hj => by omega)
  have g : ∀ k, ¬ scr k ∧ k ≠ 153 ∧ k ≠ 174 ∧ ¬ rcx k → T k = σ k := fun k q => FT.1 k q.1 q.2.1 q.2.2.1 q.2.2.2
  have g5' := gc 5 (by decide)
  have g26 := gc 26 (by decide)
  have T50 : T 153 50 = σ 153 71 := by rw [Tk 153 (by decide) (by decide) (by decide), u3, up_i (by decide), u2, up_same, u1, up_i (by decide), S153]
  have T67 : T 153 67 = σ 153 72 := by rw [Tk 153 (by decide) (by decide) (by decide), u3, up_same, u2, up_i (by decide), u1, up_i (by decide), S153]
  have cs : ∀ k, k = 70 ∨ k = 72 ∨ k = 74 ∨ k = 75 ∨ k = 77 ∨ k = 79 ∨ k = 81 ∨ k = 82 ∨ k = 84 ∨ k = 86 ∨ k = 88 → T k = s1 k := fun k hk => by rw [Tk k (by omega) (by omega) (by omega), t3k k (by omega) (by omega)]
  have m174 : ∀ j, 0 ≤ j → j < 19 → T 174 j = σ 194 j := fun j j0 j1 => by rw [← hT, rcopy_k (by decide), rcopy_k (by decide), rcopy_in j0 (by omega) (by omega), t3k 194 (by decide) (by decide), s1k 194 (by omega)]
  have m176 : ∀ j, 0 ≤ j → j < 80 → T 176 j = σ 195 j := fun j j0 j1 => by rw [← hT, rcopy_k (by decide), rcopy_in j0 (by omega) (by omega), rcopy_k (by decide), t3k 195 (by decide) (by decide), s1k 195 (by omega)]
  have m192 : ∀ j, 0 ≤ j → j < 24 → T 192 j = σ 196 j := fun j j0 j1 => by rw [← hT, rcopy_in j0 (by omega) (by omega), rcopy_k (by decide), rcopy_k (by decide), t3k 196 (by decide) (by decide), s1k 196 (by omega)]
  refine hk T (by rw [Tk 153 (by decide) (by decide) (by decide), u3, up_i (by decide), u2, up_i (by decide), u1, up_same]) (INV_of hI gc gm g177 g153 ?_ ?_ (tapR_k (by rw [g 0 (by decide)]) (j153 15 (by decide) (by decide) (by decide)) (g 161 (by decide)) (g 2 (by decide)) a7) (fun k k0 k1 => by rw [g 162 (by decide), g 4 (by decide)]; exact a8 k k0 k1) (by rw [j153 17 (by decide) (by decide) (by decide), g 0 (by decide)]; exact a9) ⟨by rw [cs 75 (by omega), gl1.2]; exact a10.1, by rw [cs 82 (by omega), gl3.2]; exact a10.2⟩ ?_ ?_ (lurR_k g5' (by rw [g 0 (by decide)]) (j153 65 (by decide) (by decide) (by decide)) (g 189 (by decide)) (g 148 (by decide)) a13) (picR_k g5' g26 (by rw [g 0 (by decide)]) (j153 70 (by decide) (by decide) (by decide)) (j153 71 (by decide) (by decide) (by decide)) (j153 72 (by decide) (by decide) (by decide)) (fun k hk => g k ⟨by omega, by omega, by omega, by omega⟩) hR.2 hO.2 a14))
  · exact skS_v g5' g26 hR.2 hO.2 (fun j j0 j1 => by rw [cs 70 (by omega)]; exact g1 j j0 j1) (fun r r0 r1 => by rw [cs 72 (by omega)]; exact g2 r r0 r1) (fun r r0 r1 => by rw [cs 74 (by omega)]; exact g4 r r0 r1) p1
  · exact skR_v g5' hR.2 hO.2 (fun j j0 j1 => by rw [cs 70 (by omega)]; exact g1 j j0 j1) (fun r r0 r1 => by rw [cs 72 (by omega)]; exact g2 r r0 r1) (fun r r0 r1 => by rw [cs 74 (by omega)]; exact g4 r r0 r1) m174 p2
  · exact actR_v g5' g26 T50 (by rw [cs 75 (by omega)]; exact gl1.1) (fun k k0 k1 => by rw [cs 77 (by omega)]; exact (gl2 k k0 k1).1) (fun k k0 k1 => by rw [cs 79 (by omega)]; exact (gl2 k k0 k1).2.1) (fun k k0 k1 => by rw [cs 81 (by omega)]; exact (gl2 k k0 k1).2.2) m176 p3
  · exact seenR_v g5' T67 (by rw [cs 82 (by omega)]; exact gl3.1) (fun k k0 k1 => by rw [cs 84 (by omega)]; exact (gl4 k k0 k1).1) (fun k k0 k1 => by rw [cs 86 (by omega)]; exact (gl4 k k0 k1).2.1) (fun k k0 k1 => by rw [cs 88 (by omega)]; exact (gl4 k k0 k1).2.2) m192 p4
end IMG2
