/-! obey, moon, wet, nest, grain, start -/
/-- behind the class's answer v, the reference's -/
def PRN (D y : Nat) (am : List dX) (v : Int) (σ1 : dS) : Prop := ∀ S, OUT S σ1 → ∀ (Qm : dR → dS → Prop) (Km : Int → dS → Prop), (∀ σ2, σ2 153 0 = 0 → INV σ2 → Km v σ2) → wI D y am S Qm Km
def PRE (D y : Nat) (am : List dX) (c : Int) (σ1 : dS) : Prop := ∀ S, OUT S σ1 → ∀ (Qm : dR → dS → Prop) (Km : Int → dS → Prop), (∀ w σ2, σ2 153 0 = c → INV σ2 → Km w σ2) → wI D y am S Qm Km
theorem p_look {σ : dS} {Q : dR → dS → Prop} {K : Int → dS → Prop} {D x y : Nat} {ax am : List dX} {c val : Int} {e : Nat} {valid : Prop} (hI : INV σ) (X : (valid → ∀ σ', FRM σ σ' → K val σ') → (¬ valid → ∀ σ', FRM σ σ' → Q (.inr e) σ') → wI D x ax σ Q K) (M : ∀ S, FRM σ S → INV S → ∀ (Q : dR → dS → Prop) (K : Int → dS → Prop), (valid → ∀ σ', FRM S σ' → σ' 153 0 = 0 → K val σ') → (¬ valid → ∀ σ', FRM S σ' → σ' 153 0 = c → K 0 σ') → wI D y am S Q K) (h0 : ∀ v σ1, PRN D y am v σ1 → K v σ1) (h1 : ∀ σ1, PRE D y am c σ1 → Q (.inr e) σ1) : wI D x ax σ Q K := by
  refine X (fun hv σ1 g => h0 val σ1 (fun S hS Qm Km hk => ?_)) (fun hv σ1 g => h1 σ1 (fun S hS Qm Km hk => ?_))
  · have F := FRM_tr g (OUT_FRM hS)
    exact M S F (INV_F F hI) Qm Km (fun _ σ' g2 e0 => hk σ' e0 (INV_F (FRM_tr F g2) hI)) (fun z => absurd hv z)
  · have F := FRM_tr g (OUT_FRM hS)
    exact M S F (INV_F F hI) Qm Km (fun z => absurd z hv) (fun _ σ' g2 e0 => hk 0 σ' e0 (INV_F (FRM_tr F g2) hI))
/-- the same where two things may be wrong -/
theorem p_look2 {σ : dS} {Q : dR → dS → Prop} {K : Int → dS → Prop} {D x y : Nat} {ax am : List dX} {val : Int} {va vb : Prop} (hI : INV σ) (X : (va → vb → ∀ σ', FRM σ σ' → K val σ') → (¬ va → ∀ σ', FRM σ σ' → Q (.inr 0) σ') → (va → ¬ vb → ∀ σ', FRM σ σ' → Q (.inr 1) σ') → wI D x ax σ Q K) (M : ∀ S, FRM σ S → INV S → ∀ (Q : dR → dS → Prop) (K : Int → dS → Prop), (va → vb → ∀ σ', FRM S σ' → σ' 153 0 = 0 → K val σ') → (¬ va → ∀ σ', FRM S σ' → σ' 153 0 = 1 → K 0 σ') → (va → ¬ vb → ∀ σ', FRM S σ' → σ' 153 0 = 2 → K 0 σ') → wI D y am S Q K) (h0 : ∀ v σ1, PRN D y am v σ1 → K v σ1) (h1 : ∀ σ1, PRE D y am 1 σ1 → Q (.inr 0) σ1) (h2 : ∀ σ1, PRE D y am 2 σ1 → Q (.inr 1) σ1) : wI D x ax σ Q K := by
  refine X (fun ha hb σ1 g => h0 val σ1 (fun S hS Qm Km hk => ?_)) (fun ha σ1 g => h1 σ1 (fun S hS Qm Km hk => ?_)) (fun ha hb σ1 g => h2 σ1 (fun S hS Qm Km hk => ?_))
  · have F := FRM_tr g (OUT_FRM hS)
    exact M S F (INV_F F hI) Qm Km (fun _ _ σ' g2 e0 => hk σ' e0 (INV_F (FRM_tr F g2) hI)) (fun z => absurd ha z) (fun _ z => absurd hb z)
  · have F := FRM_tr g (OUT_FRM hS)
    exact M S F (INV_F F hI) Qm Km (fun z => absurd z ha) (fun _ σ' g2 e0 => hk 0 σ' e0 (INV_F (FRM_tr F g2) hI)) (fun z => absurd z ha)
  · have F := FRM_tr g (OUT_FRM hS)
    exact M S F (INV_F F hI) Qm Km (fun _ z => absurd z hb) (fun z => absurd ha z) (fun _ _ σ' g2 e0 => hk 0 σ' e0 (INV_F (FRM_tr F g2) hI))
section ACTS
variable {d : Nat} {Q : dR → dS → Prop} {σ S : dS}
theorem l197_1 {a v : Int} (hq : ∀ σ', (∀ k, k ≠ 176 → σ' k = S k) → (∀ k, 0 ≤ k → k < 78 → σ' 176 k = S 176 (k + 2)) → B197_2 d Q a v σ') : ∀ (c : Nat) (x : Int) (σ : dS), 2 ≤ x → x + c = 80 → (∀ k, k ≠ 176 → σ k = S k) → (∀ k, 0 ≤ k → k < 80 → σ 176 k = S 176 (if k < x - 2 then k + 2 else k)) → B197_1 d Q a v x σ
  | 0, x, σ, x2, hx, hF, hB => b197_1 ⟨fun _ => hq σ hF (fun k k0 k1 => by have := hB k k0 (by omega); rw [if_pos (by omega)] at this; exact this), fun z => absurd (by omega) z⟩
  | c + 1, x, σ, x2, hx, hF, hB => by
    have hx2 := hB x (by omega) (by omega)
    rw [if_neg (by omega)] at hx2
    refine b197_1 ⟨fun z => absurd z (by omega), fun _ => ?_⟩
    rw [wr_id (x := x - 2) (by omega) (by omega), wr_id (x := x + 1) (by omega) (by omega), hx2]
    refine ⟨by omega, by omega, by omega, by omega, fun σ1 f1 => ?_⟩
    refine l197_1 hq c (x + 1) σ1 (by omega) (by omega) (fun k hk => by rw [f1, up_k hk]; exact hF k hk) (fun k k0 k1 => ?_)
    rw [f1]
    by_cases e : k = x - 2
    · subst e
      rw [up_same, if_pos (by omega)]; congr 1; omega
    · rw [up_i e, hB k k0 k1]
      by_cases u : k < x - 2
      · rw [if_pos u, if_pos (by omega)]
      · rw [if_neg u, if_neg (by omega)]
/-- S' is S with one act more in the reference's list, and the change itself -/
def addM (S : dS) (a v : Int) (S' : dS) : Prop := (∀ k, k ≠ 176 → k ≠ 153 → k ≠ 174 → S' k = S k) ∧ (∀ j, j ≠ 50 → S' 153 j = S 153 j) ∧ S' 153 50 = nxn (S 153 50) ∧ (∀ k, 0 ≤ k → k < nxn (S 153 50) - 1 → S' 176 (2 * k) = S 176 (2 * shf (S 153 50) k) ∧ S' 176 (2 * k + 1) = S 176 (2 * shf (S 153 50) k + 1)) ∧ S' 176 (2 * (nxn (S 153 50) - 1)) = a ∧ S' 176 (2 * (nxn (S 153 50) - 1) + 1) = S 174 a ∧ (∀ j, j ≠ a → S' 174 j = S 174 j) ∧ S' 174 a = v
theorem l197_3 {K : Int → dS → Prop} {a v n : Int} (a0 : 0 ≤ a) (a1 : a < 19) (n0 : 0 ≤ n) (n40 : n < 40) (e0 : S 153 50 = n) (h : ∀ S', (∀ k, k ≠ 176 → k ≠ 153 → k ≠ 174 → S' k = S k) → (∀ j, j ≠ 50 → S' 153 j = S 153 j) → S' 153 50 = n + 1 → (∀ k, k ≠ 2 * n → k ≠ 2 * n + 1 → S' 176 k = S 176 k) → S' 176 (2 * n) = a → S' 176 (2 * n + 1) = S 174 a → (∀ j, j ≠ a → S' 174 j = S 174 j) → S' 174 a = v → K (S 174 a) S') : B197_3 d (fun res σ1 => match res with | .inl (some (.inl v)) => K v σ1 | .inl _ => False | .inr e => Q (.inr e) σ1) a v S := by
  refine b197_3 ?_
  have e2 : wr (2 * n) = 2 * n := wr_id (by omega) (by omega)
  have e3 : wr (2 * n + 1) = 2 * n + 1 := wr_id (by omega) (by omega)
  rw [e0, e2]
  refine ⟨a0, a1, by omega, by omega, fun σ1 f1 => ?_⟩
  have e1 : σ1 153 50 = n := by rw [f1, up_k (by decide)]; exact e0
  rw [e1, e2, e3]
  refine ⟨by omega, by omega, fun σ2 f2 σ3 f3 => ⟨a0, a1, fun σ4 f4 => ?_⟩⟩
  have e4 : σ2 153 50 = n := by rw [f2, up_k (by decide)]; exact e1
  rw [e4, wr_id (by omega) (by omega)] at f3
  refine h σ4 (fun k q1 q2 q3 => by rw [f4, up_k q3, f3, up_k q2, f2, up_k q1, f1, up_k q1]) (fun j hj => by rw [f4, up_k (by decide), f3, up_i hj, f2, up_k (by decide), f1, up_k (by decide)]) (by rw [f4, up_k (by decide), f3, up_same]) (fun k q1 q2 => by rw [f4, up_k (by decide), f3, up_k (by decide), f2, up_i q2, f1, up_i q1]) ?_ ?_ (fun j hj => by rw [f4, up_i hj, f3, up_k (by decide), f2, up_k (by decide), f1, up_k (by decide)]) (by rw [f4, up_same])
  · rw [f4, up_k (by decide), f3, up_k (by decide), f2, up_i (by omega), f1, up_same]
  · rw [f4, up_k (by decide), f3, up_k (by decide), f2, up_same]
theorem w197 {K : Int → dS → Prop} {a v : Int} (a0 : 0 ≤ a) (a1 : a < 19) (n0 : 0 ≤ S 153 50) (n40 : S 153 50 ≤ 40) (h : ∀ S', addM S a v S' → K (S 174 a) S') : wI (d + 2) 197 [.inr (.inr 153), .inl a, .inl v] S Q K := by
  refine c197 (b197_0 ⟨fun z => ?_, fun z => ?_⟩)
  · have en : nxn (S 153 50) = S 153 50 + 1 := by unfold nxn; rw [if_neg z]
    have es : ∀ k, shf (S 153 50) k = k := fun k => by unfold shf; rw [if_neg z]
    have e1 : S 153 50 + 1 - 1 = S 153 50 := by omega
    refine l197_3 (n := S 153 50) a0 a1 n0 (by omega) rfl (fun S' g1 g2 g3 g4 g5 g6 g7 g8 => h S' ⟨g1, g2, by rw [en]; exact g3, fun k k0 k1 => ?_, by rw [en, e1]; exact g5, by rw [en, e1]; exact g6, g7, g8⟩)
    rw [es]
    exact ⟨g4 _ (by omega) (by omega), g4 _ (by omega) (by omega)⟩
  · have e40 : S 153 50 = 40 := Decidable.of_not_not z
    have en : nxn (S 153 50) = 40 := by unfold nxn; rw [if_pos e40]
    have es : ∀ k, shf (S 153 50) k = k + 1 := fun k => by unfold shf; rw [if_pos e40]
    refine l197_1 (S := S) (fun σ1 q1 q2 => b197_2 (fun σ2 f2 => ?_)) 78 2 S (by decide) (by decide) (fun _ _ => rfl) (fun k k0 k1 => by rw [if_neg (by omega)])
    rw [q1 153 (by decide), e40, wr_id (by decide) (by decide)] at f2
    have e50 : σ2 153 50 = 39 := by rw [f2, up_same]; rfl
    have e174 : σ2 174 = S 174 := by rw [f2, up_k (by decide)]; exact q1 174 (by decide)
    have e176 : ∀ k, 0 ≤ k → k < 78 → σ2 176 k = S 176 (k + 2) := fun k k0 k1 => by rw [f2, up_k (by decide)]; exact q2 k k0 k1
    refine l197_3 (S := σ2) (K := fun v' => K v') (n := 39) a0 a1 (by decide) (by decide) e50 (fun S' g1 g2 g3 g4 g5 g6 g7 g8 => ?_)
    rw [e174]
    refine h S' ⟨fun k w1 w2 w3 => by rw [g1 k w1 w2 w3, f2, up_k w2]; exact q1 k w1, fun j hj => by rw [g2 j hj, f2, up_i hj, q1 153 (by decide)], by rw [en]; exact g3, fun k k0 k1 => ?_, by rw [en]; exact g5, by rw [en, ← e174]; exact g6, fun j hj => by rw [g7 j hj, e174], g8⟩
    rw [en] at k1
    rw [es]
    refine ⟨?_, ?_⟩
    · rw [g4 _ (by omega) (by omega), e176 _ (by omega) (by omega)]; congr 1; omega
    · rw [g4 _ (by omega) (by omega), e176 _ (by omega) (by omega)]; congr 1; omega
abbrev acx (k : Nat) : Prop := k = 70 ∨ k = 72 ∨ k = 74 ∨ k = 75 ∨ k = 77 ∨ k = 79 ∨ k = 81
theorem aOK_k {σ' : dS} (h5 : σ' 5 = σ 5) (h26 : σ' 26 = σ 26) {f s t : Int} (h : aOK σ f s t) : aOK σ' f s t := by
  unfold aOK
  rw [h5, h26]; exact h
theorem m_act {K : Int → dS → Prop} {f s t v a : Int} (hI : INV σ) (F : FRX acx (fun _ => False) σ S) (hA : addC σ f s t S) (hok : aOK σ f s t) (ha : a = aAt f s) (a0 : 0 ≤ a) (a1 : a < 19) (ht : σ 174 a = t) (hs : skS S 70) (hr : ∀ σ', (∀ k, k = 5 ∨ k = 70 ∨ k = 72 ∨ k = 74 → σ' k = S k) → (∀ j, 0 ≤ j → j < 19 → j ≠ a → σ' 174 j = σ 174 j) → σ' 174 a = v → skR σ' 70 174) (h : ∀ σ', σ' 153 0 = S 153 0 → INV σ' → K t σ') : wI (d + 2) 197 [.inr (.inr 153), .inl a, .inl v] S Q K := by
  obtain ⟨a1', a2, a3, a4, a5, a6, a7, a8, a9, a10, a11, a12, a13, a14, a15⟩ := id hI
  have gj : ∀ j, j ≠ 0 → S 153 j = σ 153 j := fun j q => F.2.1 j q (fun z => z)
  have gs := F.2.2 (by decide)
  have hR := a1'.1.2
  have hO := a1'.2.1.2
  have e50 : S 153 50 = σ 75 0 := by rw [gj 50 (by decide), a11.1]
  have n0 : 0 ≤ σ 75 0 := by rw [a11.1]; exact a11.2.1
  have n40 : σ 75 0 ≤ 40 := by rw [a11.1]; exact a11.2.2.1
  refine w197 a0 a1 (by rw [e50]; exact n0) (by rw [e50]; exact n40) (fun S' hM => ?_)
  obtain ⟨m1, m2, m3, m4, m5, m6, m7, m8⟩ := hM
  obtain ⟨c1, c2, c3, c4, c5, c6⟩ := hA
  rw [e50] at m3 m4 m5 m6
  rw [gs a a0 a1, ht] at m6 ⊢
  have g : ∀ k, ¬ scr k ∧ k ≠ 153 ∧ k ≠ 174 ∧ k ≠ 176 ∧ ¬ acx k → S' k = σ k := fun k q => by rw [m1 k q.2.2.2.1 q.2.1 q.2.2.1]; exact F.1 k q.1 q.2.1 q.2.2.1 q.2.2.2.2
  have gj' : ∀ j, j ≠ 0 → j ≠ 50 → S' 153 j = σ 153 j := fun j q1 q2 => by rw [m2 j q2]; exact gj j q1
  have gc : ∀ k, cty k → S' k = σ k := fun k hk => g k ⟨(cty_x hk).2.2.2.2.2.1, (cty_x hk).2.2.2.1, (cty_x hk).2.2.2.2.1, by rcases hk with e | e | e | e | e | e | e | e | e | e | e | e | e | e <;> rw [e] <;> decide, by rcases hk with e | e | e | e | e | e | e | e | e | e | e | e | e | e <;> rw [e] <;> decide⟩
  have cS : ∀ k, k = 70 ∨ k = 72 ∨ k = 74 ∨ k = 75 ∨ k = 77 ∨ k = 79 ∨ k = 81 → S' k = S k := fun k hk => m1 k (by omega) (by omega) (by omega)
  have g5 := gc 5 (by decide)
  have g26 := gc 26 (by decide)
  have S5 : S 5 = σ 5 := F.1 5 (by decide) (by decide) (by decide) (by decide)
  have S26 : S 26 = σ 26 := F.1 26 (by decide) (by decide) (by decide) (by decide)
  refine h S' (m2 0 (by decide)) (INV_of hI gc (fun k k1 k2 => g k ⟨by omega, by omega, by omega, by omega, by omega⟩) (g 177 (by decide)) (fun j j1 j2 => gj' j (by omega) (by omega)) (skS_k (g5.trans S5.symm) (g26.trans S26.symm) (cS 70 (by omega)) (cS 72 (by omega)) (cS 74 (by omega)) hs) (hr S' (fun k hk => m1 k (by omega) (by omega) (by omega)) (fun j j0 j1 j2 => by rw [m7 j j2]; exact gs j j0 j1) m8) (tapR_k (by rw [g 0 (by decide)]) (gj' 15 (by decide) (by decide)) (g 161 (by decide)) (g 2 (by decide)) a7) (fun k k0 k1 => by rw [g 162 (by decide), g 4 (by decide)]; exact a8 k k0 k1) (by rw [gj' 17 (by decide) (by decide), g 0 (by decide)]; exact a9) ⟨by rw [cS 75 (by omega), c2]; exact a10.1, by rw [g 82 (by decide)]; exact a10.2⟩ ?_ ?_ (lurR_k g5 (by rw [g 0 (by decide)]) (gj' 65 (by decide) (by decide)) (g 189 (by decide)) (g 148 (by decide)) a13) (picR_k g5 g26 (by rw [g 0 (by decide)]) (gj' 70 (by decide) (by decide)) (gj' 71 (by decide) (by decide)) (gj' 72 (by decide) (by decide)) (fun k hk => g k ⟨by omega, by omega, by omega, by omega, by omega⟩) hR hO a14))
  · have hn : 0 ≤ nxn (σ 75 0) ∧ nxn (σ 75 0) ≤ 40 ∧ nxn (σ 75 0) - 1 ≤ σ 75 0 := by
      unfold nxn
      by_cases z : σ 75 0 = 40
      · rw [if_pos z]; omega
      · rw [if_neg z]; omega
    refine ⟨by rw [cS 75 (by omega), c1, m3], by rw [m3]; exact hn.1, by rw [m3]; exact hn.2.1, fun k k0 k1 => ?_⟩
    rw [m3] at k1
    rw [cS 77 (by omega), cS 79 (by omega), cS 81 (by omega)]
    by_cases z : k = nxn (σ 75 0) - 1
    · rw [z, c4, c5, c6, m5, m6]
      exact ⟨aOK_k g5 g26 hok, ha, rfl⟩
    · have kk : k < nxn (σ 75 0) - 1 := by omega
      have sh : 0 ≤ shf (σ 75 0) k ∧ shf (σ 75 0) k < σ 75 0 := by
        unfold nxn at kk
        unfold shf
        by_cases w : σ 75 0 = 40
        · rw [if_pos w] at kk ⊢; omega
        · rw [if_neg w] at kk ⊢; omega
      have hc := c3 k k0 kk
      have hm := m4 k k0 kk
      have ho := a11.2.2.2 (shf (σ 75 0) k) sh.1 (by rw [← a11.1]; exact sh.2)
      have S176 : S 176 = σ 176 := F.1 176 (by decide) (by decide) (by decide) (by decide)
      rw [hc.1, hc.2.1, hc.2.2, hm.1, hm.2, S176]
      exact ⟨aOK_k g5 g26 ho.1, ho.2.1, ho.2.2⟩
  · rw [gj' 67 (by decide) (by decide)]
    exact seenR_k g5 (g 82 (by decide)) (g 84 (by decide)) (g 86 (by decide)) (g 88 (by decide)) (g 192 (by decide)) a12
/-! the class's part: a list with one act more, and the sky cell tc at ti is v -/
theorem FRX_add {S' S2 : dS} (hF : ∀ k, k ≠ 75 → k ≠ 77 → k ≠ 79 → k ≠ 81 → S' k = σ k) {tc : Nat} {ti v : Int} (htc : tc = 70 ∨ tc = 72 ∨ tc = 74) (f2 : S2 = up S' tc ti v) {T : dS} (hO : OUT T S2) {T1 : dS} (f1 : T1 = up T 153 0 0) : FRX acx (fun _ => False) σ T1 ∧ (∀ k, k = 70 ∨ k = 72 ∨ k = 74 ∨ k = 75 ∨ k = 77 ∨ k = 79 ∨ k = 81 → T1 k = S2 k) ∧ T1 153 0 = 0 := by
  have hcs : ∀ k, k ≠ 197 → k ≠ 153 → T1 k = S2 k := fun k q1 q2 => by rw [f1, up_k q2]; exact hO k q1
  refine ⟨⟨fun k q1 q2 q3 q4 => ?_, fun j q1 _ => ?_, fun _ j j0 j1 => ?_⟩, fun k hk => hcs k (by omega) (by omega), by rw [f1, up_same]⟩
  · rw [hcs k (fun e => q1 (by rw [e]; decide)) q2, f2, up_k (by omega)]
    exact hF k (by omega) (by omega) (by omega) (by omega)
  · rw [f1, up_i q1, hO 153 (by decide), f2, up_k (by omega)]
    rw [hF 153 (by decide) (by decide) (by decide) (by decide)]
  · rw [hcs 174 (by decide) (by decide), f2, up_k (by omega)]
    rw [hF 174 (by decide) (by decide) (by decide) (by decide)]
theorem addC_up {f s t : Int} {S' S2 T1 : dS} {tc : Nat} {ti v : Int} (htc : tc = 70 ∨ tc = 72 ∨ tc = 74) (f2 : S2 = up S' tc ti v) (h : ∀ k, k = 70 ∨ k = 72 ∨ k = 74 ∨ k = 75 ∨ k = 77 ∨ k = 79 ∨ k = 81 → T1 k = S2 k) (hA : addC σ f s t S') : addC σ f s t T1 := by
  unfold addC at hA ⊢
  rw [h 75 (by omega), h 77 (by omega), h 79 (by omega), h 81 (by omega), f2, up_k (by omega), up_k (by omega), up_k (by omega), up_k (by omega)]
  exact hA
/-- behind the class's refusal st: the reference's -/
theorem ref_S {st : Int} {S0 T1 : dS} (hO : OUT S (up σ 4 st (wr (σ 4 st + 1)))) (f1 : T1 = up S 153 0 0) : FRM S T1 := by rw [f1]; exact FRM_153
/-- where an act of kind f changes the class's sky -/
def tcF (f : Int) : Nat := if f = 4 then 72 else if f = 5 then 74 else 70
def tiF (f s : Int) : Int := if f = 4 then s else if f = 5 then s else f
theorem tcF_r (f : Int) : tcF f = 70 ∨ tcF f = 72 ∨ tcF f = 74 := by
  unfold tcF
  by_cases h : f = 4
  · rw [if_pos h]; omega
  · rw [if_neg h]
    by_cases h5 : f = 5
    · rw [if_pos h5]; omega
    · rw [if_neg h5]; omega
theorem up_eq {k : Nat} {i v : Int} {T : dS} (h : T k = σ k) : up T k i v k = up σ k i v k := by
  funext j
  by_cases e : j = i
  · rw [e, up_same, up_same]
  · rw [up_i e, up_i e, h]
/-- what stands there is such a value -/
theorem act_now (hI : INV σ) {f s v : Int} (hok : aOK σ f s v) : aOK σ f s (σ (tcF f) (tiF f s)) ∧ σ 174 (aAt f s) = σ (tcF f) (tiF f s) ∧ 0 ≤ aAt f s ∧ aAt f s < 19 := by
  have sk := hI.2.2.2.2.1
  have skr := hI.2.2.2.2.2.1
  have hR := hI.1.1
  have hO := hI.1.2.1
  unfold skS skyOK at sk
  rw [show (70 + 2 : Nat) = 72 from rfl, show (70 + 4 : Nat) = 74 from rfl] at sk
  obtain ⟨r0, r1, r2, r3, r4, r5⟩ := skr
  rw [show (70 + 2 : Nat) = 72 from rfl] at r4
  rw [show (70 + 4 : Nat) = 74 from rfl] at r5
  obtain ⟨⟨s0, s1, s2, s3, s4, s5⟩, s6⟩ := sk
  rcases hok with ⟨e, _, _⟩ | ⟨e, _, _⟩ | ⟨e, _⟩ | ⟨e, _, _⟩ | ⟨e, a, b, _, _⟩ | ⟨e, a, b, _, _⟩
  · subst e; exact ⟨Or.inl ⟨rfl, s0.1, s0.2⟩, r0, show (0 : Int) ≤ 0 by decide, show (0 : Int) < 19 by decide⟩
  · subst e; exact ⟨Or.inr (Or.inl ⟨rfl, s1.1, s1.2⟩), r1, show (0 : Int) ≤ 1 by decide, show (1 : Int) < 19 by decide⟩
  · subst e; exact ⟨Or.inr (Or.inr (Or.inl ⟨rfl, s2⟩)), r2, show (0 : Int) ≤ 2 by decide, show (2 : Int) < 19 by decide⟩
  · subst e; exact ⟨Or.inr (Or.inr (Or.inr (Or.inl ⟨rfl, s3.1, s3.2⟩))), r3, show (0 : Int) ≤ 3 by decide, show (3 : Int) < 19 by decide⟩
  · subst e
    have := s4 s a b
    exact ⟨Or.inr (Or.inr (Or.inr (Or.inr (Or.inl ⟨rfl, a, b, this.1, this.2⟩)))), r4 s a b, by show 0 ≤ 4 + s; omega, by show 4 + s < 19; omega⟩
  · subst e
    have h0 := s5 s a b
    have h6 := s6 s a b
    exact ⟨Or.inr (Or.inr (Or.inr (Or.inr (Or.inr ⟨rfl, a, b, h0.1, h6⟩)))), r5 s a b, by show 0 ≤ 14 + s; omega, by show 14 + s < 19; omega⟩
theorem act_skS (hI : INV σ) {f s v : Int} (hok : aOK σ f s v) (S5 : S 5 = σ 5) (S26 : S 26 = σ 26) (h : ∀ k, k = 70 ∨ k = 72 ∨ k = 74 → S k = up σ (tcF f) (tiF f s) v k) : skS S 70 := by
  have sk := hI.2.2.2.2.1
  unfold skS skyOK at sk ⊢
  rw [show (70 + 2 : Nat) = 72 from rfl, show (70 + 4 : Nat) = 74 from rfl] at sk ⊢
  obtain ⟨⟨s0, s1, s2, s3, s4, s5⟩, s6⟩ := sk
  rw [S5, S26, h 70 (by omega), h 72 (by omega), h 74 (by omega)]
  rcases hok with ⟨e, a, b⟩ | ⟨e, a, b⟩ | ⟨e, a⟩ | ⟨e, a, b⟩ | ⟨e, a, b, c, g⟩ | ⟨e, a, b, c, g⟩
  · subst e
    have t : up σ (tcF 0) (tiF 0 s) v = up σ 70 0 v := rfl
    rw [t, up_k (k' := 72) (by decide), up_k (k' := 74) (by decide), up_same, up_i (by decide), up_i (by decide), up_i (by decide)]
    exact ⟨⟨⟨a, b⟩, s1, s2, s3, s4, s5⟩, s6⟩
  · subst e
    have t : up σ (tcF 1) (tiF 1 s) v = up σ 70 1 v := rfl
    rw [t, up_k (k' := 72) (by decide), up_k (k' := 74) (by decide), up_same, up_i (by decide), up_i (by decide), up_i (by decide)]
    exact ⟨⟨s0, ⟨a, b⟩, s2, s3, s4, s5⟩, s6⟩
  · subst e
    have t : up σ (tcF 2) (tiF 2 s) v = up σ 70 2 v := rfl
    rw [t, up_k (k' := 72) (by decide), up_k (k' := 74) (by decide), up_same, up_i (by decide), up_i (by decide), up_i (by decide)]
    exact ⟨⟨s0, s1, a, s3, s4, s5⟩, s6⟩
  · subst e
    have t : up σ (tcF 3) (tiF 3 s) v = up σ 70 3 v := rfl
    rw [t, up_k (k' := 72) (by decide), up_k (k' := 74) (by decide), up_same, up_i (by decide), up_i (by decide), up_i (by decide)]
    exact ⟨⟨s0, s1, s2, ⟨a, b⟩, s4, s5⟩, s6⟩
  · subst e
    have t : up σ (tcF 4) (tiF 4 s) v = up σ 72 s v := rfl
    rw [t, up_k (k' := 70) (by decide), up_k (k' := 74) (by decide)]
    refine ⟨⟨s0, s1, s2, s3, fun r r0 r1 => ?_, s5⟩, s6⟩
    by_cases w : r = s
    · rw [w, up_same]; exact ⟨c, g⟩
    · rw [up_i w]; exact s4 r r0 r1
  · subst e
    have t : up σ (tcF 5) (tiF 5 s) v = up σ 74 s v := rfl
    rw [t, up_k (k' := 70) (by decide), up_k (k' := 72) (by decide)]
    refine ⟨⟨s0, s1, s2, s3, s4, fun o o0 o1 => ?_⟩, fun o o0 o1 => ?_⟩
    · by_cases w : o = s
      · rw [w, up_same]; exact ⟨c, by omega⟩
      · rw [up_i w]; exact s5 o o0 o1
    · by_cases w : o = s
      · rw [w, up_same]; exact g
      · rw [up_i w]; exact s6 o o0 o1
theorem act_skR (hI : INV σ) {f s v : Int} (hok : aOK σ f s v) {σ' : dS} (S5 : σ' 5 = σ 5) (h : ∀ k, k = 70 ∨ k = 72 ∨ k = 74 → σ' k = up σ (tcF f) (tiF f s) v k) (hm : ∀ j, 0 ≤ j → j < 19 → j ≠ aAt f s → σ' 174 j = σ 174 j) (hv : σ' 174 (aAt f s) = v) : skR σ' 70 174 := by
  have hR := hI.1.1
  have hO := hI.1.2.1
  have skr := hI.2.2.2.2.2.1
  unfold skR at skr ⊢
  rw [show (70 + 2 : Nat) = 72 from rfl, show (70 + 4 : Nat) = 74 from rfl] at skr ⊢
  obtain ⟨r0, r1, r2, r3, r4, r5⟩ := skr
  rw [S5, h 70 (by omega), h 72 (by omega), h 74 (by omega)]
  rcases hok with ⟨e, a, b⟩ | ⟨e, a, b⟩ | ⟨e, a⟩ | ⟨e, a, b⟩ | ⟨e, a, b, c, g⟩ | ⟨e, a, b, c, g⟩
  · subst e
    have t : up σ (tcF 0) (tiF 0 s) v = up σ 70 0 v := rfl
    have t2 : aAt 0 s = 0 := rfl
    rw [t2] at hm hv
    rw [t, up_k (k' := 72) (by decide), up_k (k' := 74) (by decide), up_same, up_i (by decide), up_i (by decide), up_i (by decide)]
    exact ⟨hv, by rw [hm 1 (by decide) (by decide) (by decide)]; exact r1, by rw [hm 2 (by decide) (by decide) (by decide)]; exact r2, by rw [hm 3 (by decide) (by decide) (by decide)]; exact r3, fun r q0 q1 => by rw [hm _ (by omega) (by omega) (by omega)]; exact r4 r q0 q1, fun o q0 q1 => by rw [hm _ (by omega) (by omega) (by omega)]; exact r5 o q0 q1⟩
  · subst e
    have t : up σ (tcF 1) (tiF 1 s) v = up σ 70 1 v := rfl
    have t2 : aAt 1 s = 1 := rfl
    rw [t2] at hm hv
    rw [t, up_k (k' := 72) (by decide), up_k (k' := 74) (by decide), up_same, up_i (by decide), up_i (by decide), up_i (by decide)]
    exact ⟨by rw [hm 0 (by decide) (by decide) (by decide)]; exact r0, hv, by rw [hm 2 (by decide) (by decide) (by decide)]; exact r2, by rw [hm 3 (by decide) (by decide) (by decide)]; exact r3, fun r q0 q1 => by rw [hm _ (by omega) (by omega) (by omega)]; exact r4 r q0 q1, fun o q0 q1 => by rw [hm _ (by omega) (by omega) (by omega)]; exact r5 o q0 q1⟩
  · subst e
    have t : up σ (tcF 2) (tiF 2 s) v = up σ 70 2 v := rfl
    have t2 : aAt 2 s = 2 := rfl
    rw [t2] at hm hv
    rw [t, up_k (k' := 72) (by decide), up_k (k' := 74) (by decide), up_same, up_i (by decide), up_i (by decide), up_i (by decide)]
    exact ⟨by rw [hm 0 (by decide) (by decide) (by decide)]; exact r0, by rw [hm 1 (by decide) (by decide) (by decide)]; exact r1, hv, by rw [hm 3 (by decide) (by decide) (by decide)]; exact r3, fun r q0 q1 => by rw [hm _ (by omega) (by omega) (by omega)]; exact r4 r q0 q1, fun o q0 q1 => by rw [hm _ (by omega) (by omega) (by omega)]; exact r5 o q0 q1⟩
  · subst e
    have t : up σ (tcF 3) (tiF 3 s) v = up σ 70 3 v := rfl
    have t2 : aAt 3 s = 3 := rfl
    rw [t2] at hm hv
    rw [t, up_k (k' := 72) (by decide), up_k (k' := 74) (by decide), up_same, up_i (by decide), up_i (by decide), up_i (by decide)]
    exact ⟨by rw [hm 0 (by decide) (by decide) (by decide)]; exact r0, by rw [hm 1 (by decide) (by decide) (by decide)]; exact r1, by rw [hm 2 (by decide) (by decide) (by decide)]; exact r2, hv, fun r q0 q1 => by rw [hm _ (by omega) (by omega) (by omega)]; exact r4 r q0 q1, fun o q0 q1 => by rw [hm _ (by omega) (by omega) (by omega)]; exact r5 o q0 q1⟩
  · subst e
    have t : up σ (tcF 4) (tiF 4 s) v = up σ 72 s v := rfl
    have t2 : aAt 4 s = 4 + s := rfl
    rw [t2] at hm hv
    rw [t, up_k (k' := 70) (by decide), up_k (k' := 74) (by decide)]
    refine ⟨by rw [hm 0 (by decide) (by decide) (by omega)]; exact r0, by rw [hm 1 (by decide) (by decide) (by omega)]; exact r1, by rw [hm 2 (by decide) (by decide) (by omega)]; exact r2, by rw [hm 3 (by decide) (by decide) (by omega)]; exact r3, fun r q0 q1 => ?_, fun o q0 q1 => by rw [hm _ (by omega) (by omega) (by omega)]; exact r5 o q0 q1⟩
    by_cases w : r = s
    · rw [w, up_same]; exact hv
    · rw [up_i w, hm _ (by omega) (by omega) (by omega)]; exact r4 r q0 q1
  · subst e
    have t : up σ (tcF 5) (tiF 5 s) v = up σ 74 s v := rfl
    have t2 : aAt 5 s = 14 + s := rfl
    rw [t2] at hm hv
    rw [t, up_k (k' := 70) (by decide), up_k (k' := 72) (by decide)]
    refine ⟨by rw [hm 0 (by decide) (by decide) (by omega)]; exact r0, by rw [hm 1 (by decide) (by decide) (by omega)]; exact r1, by rw [hm 2 (by decide) (by decide) (by omega)]; exact r2, by rw [hm 3 (by decide) (by decide) (by omega)]; exact r3, fun r q0 q1 => by rw [hm _ (by omega) (by omega) (by omega)]; exact r4 r q0 q1, fun o q0 q1 => ?_⟩
    by_cases w : o = s
    · rw [w, up_same]; exact hv
    · rw [up_i w, hm _ (by omega) (by omega) (by omega)]; exact r5 o q0 q1
/-- an act of both: the class's list and sky, then the reference's -/
theorem act_p {f s v : Int} (hI : INV σ) (hok : aOK σ f s v) {S' S2 T T1 : dS} (hF : ∀ k, k ≠ 75 → k ≠ 77 → k ≠ 79 → k ≠ 81 → S' k = σ k) (hA : addC σ f s (σ (tcF f) (tiF f s)) S') (f2 : S2 = up S' (tcF f) (tiF f s) v) (hO : OUT T S2) (f1 : T1 = up T 153 0 0) : T1 153 0 = 0 ∧ (∀ k, ¬ scr k → k ≠ 153 → k ≠ 174 → ¬ acx k → T1 k = σ k) ∧ (∀ j, j ≠ 0 → T1 153 j = σ 153 j) ∧ (∀ j, 0 ≤ j → j < 19 → T1 174 j = σ 174 j) ∧ ∀ (d : Nat) (Q : dR → dS → Prop) (K : Int → dS → Prop) (T2 : dS), FRM T1 T2 → (∀ σ', σ' 153 0 = T2 153 0 → INV σ' → K (σ (tcF f) (tiF f s)) σ') → wI (d + 2) 197 [.inr (.inr 153), .inl (aAt f s), .inl v] T2 Q K := by
  have G := FRX_add hF (tcF_r f) f2 hO f1
  obtain ⟨G1, G2, G3⟩ := G
  have N := act_now hI hok
  refine ⟨G3, G1.1, fun j hj => G1.2.1 j hj (fun z => z), G1.2.2 (by decide), fun d Q K T2 hT h => ?_⟩
  have eT : ∀ k, k = 70 ∨ k = 72 ∨ k = 74 ∨ k = 75 ∨ k = 77 ∨ k = 79 ∨ k = 81 → T2 k = T1 k := fun k hk => hT.1 k (by omega) (by omega) (by omega)
  have e7 : ∀ k, k = 70 ∨ k = 72 ∨ k = 74 → T2 k = up σ (tcF f) (tiF f s) v k := by
    intro k hk
    rw [eT k (by omega), G2 k (by omega), f2]
    by_cases e : k = tcF f
    · subst e
      exact up_eq (hF _ (by omega) (by omega) (by omega) (by omega))
    · rw [up_k e, up_k e]
      exact hF k (by omega) (by omega) (by omega) (by omega)
  have GX : FRX acx (fun _ => False) σ T2 := FRX_F G1 hT
  have S5 : T2 5 = σ 5 := GX.1 5 (by decide) (by decide) (by decide) (by decide)
  have S26 : T2 26 = σ 26 := GX.1 26 (by decide) (by decide) (by decide) (by decide)
  have hA2 : addC σ f s (σ (tcF f) (tiF f s)) T2 := by
    have := addC_up (tcF_r f) f2 G2 hA
    unfold addC at this ⊢
    rw [eT 75 (by omega), eT 77 (by omega), eT 79 (by omega), eT 81 (by omega)]
    exact this
  refine m_act (σ := σ) hI GX hA2 N.1 rfl N.2.2.1 N.2.2.2 N.2.1 (act_skS hI hok S5 S26 e7) (fun σ' g1 g2 g3 => act_skR hI hok (by rw [g1 5 (by omega)]; exact S5) (fun k hk => by rw [g1 k (by omega)]; exact e7 k hk) g2 g3) h
theorem INV_n (hI : INV σ) : (0 ≤ σ 75 0 ∧ σ 75 0 ≤ 40) ∧ σ 75 1 = 40 := by
  have a := hI.2.2.2.2.2.2.2.2.2.2.1
  exact ⟨by rw [a.1]; exact ⟨a.2.1, a.2.2.1⟩, hI.2.2.2.2.2.2.2.2.2.1.1⟩
theorem p_obey {K : Int → dS → Prop} {r : Int} (hI : INV σ) (h0 : ∀ v σ1, PRN (d + 20) 226 [.inr (.inr 153), .inl r] v σ1 → K v σ1) : wI (d + 20) 113 [.inr (.inr 0), .inl r] σ Q K := by
  have n0 := INV_n hI
  have mcI := hI.2.1
  have bad : ¬ (-1 ≤ r ∧ r < σ 26 0) → B113_1 (d + 18) (fun res σ1 => match res with | .inl (some (.inl v)) => K v σ1 | .inl _ => False | .inr e => Q (.inr e) σ1) σ := by
    intro z
    refine b113_1 (w112 (by decide) (by decide) ⟨Or.inl rfl, h0 0 _ (fun S hS Qm Km hk => c226 (b226_0 (fun σ1 f1 => ?_)))⟩)
    have e5 : σ1 153 5 = σ 26 0 := by rw [f1, up_i (by decide), hS 153 (by decide), up_k (by decide)]; exact mcI.2.2.2.1
    have go : B226_1 (d + 18) (fun res σ1 => match res with | .inl (some (.inl v)) => Km v σ1 | .inl _ => False | .inr e => Qm (.inr e) σ1) σ1 := by
      refine b226_1 (w196 hI (by decide) (by decide) hS (by rw [f1]; exact FRM_153) (fun σ' hI' e0 => ⟨fun _ => b226_2 (b226_3 ⟨Or.inl rfl, hk σ' (by rw [e0, f1, up_same]) hI'⟩), fun y => absurd (by decide) y⟩))
    refine ⟨fun _ => go, fun y => ⟨fun w => absurd w (by rw [e5]; omega), fun _ => go⟩⟩
  refine c113 (b113_0 ⟨fun z => bad (by omega), fun y => ⟨fun z => b113_2 (w10 n0.1.1 n0.1.2 n0.2 (fun S' hF hA σ2 f2 => ⟨Or.inr rfl, h0 1 σ2 (fun S hS Qm Km hk => c226 (b226_0 (fun σ1 f1 => ?_)))⟩)), fun z => bad (by omega)⟩⟩)
  obtain ⟨G3, G1, Gj, Gs, GA⟩ := act_p (f := 0) (s := 0) (v := r) hI (Or.inl ⟨rfl, by omega, z⟩) hF hA f2 hS f1
  have e5 : σ1 153 5 = σ 26 0 := by rw [Gj 5 (by decide)]; exact mcI.2.2.2.1
  exact ⟨fun z => absurd z y, fun _ => ⟨fun _ => b226_4 (GA _ _ _ σ1 (FRM_refl _) (fun σ' e0 hI' => ⟨Or.inr rfl, hk σ' (by rw [e0]; exact G3) hI'⟩)), fun w => absurd (by rw [e5]; exact z) w⟩⟩
theorem p_moon {K : Int → dS → Prop} {m : Int} (hI : INV σ) (h0 : ∀ v σ1, PRN (d + 20) 227 [.inr (.inr 153), .inl m] v σ1 → K v σ1) : wI (d + 20) 114 [.inr (.inr 0), .inl m] σ Q K := by
  have n0 := INV_n hI
  have bad : ¬ (0 ≤ m ∧ m ≤ 7) → B114_1 (d + 18) (fun res σ1 => match res with | .inl (some (.inl v)) => K v σ1 | .inl _ => False | .inr e => Q (.inr e) σ1) σ := by
    intro z
    refine b114_1 (w112 (by decide) (by decide) (h0 (-1) _ (fun S hS Qm Km hk => c227 (b227_0 (fun σ1 f1 => w159 (fun a b => absurd ⟨a, b⟩ z) (fun _ => ⟨fun _ => b227_1 ?_, fun y => absurd rfl y⟩))))))
    exact w196 hI (by decide) (by decide) hS (by rw [f1]; exact FRM_153) (fun σ' hI' e0 => b227_2 (hk σ' (by rw [e0, f1, up_same]) hI'))
  refine c114 (b114_0 ⟨fun z => bad (by omega), fun y => ⟨fun z => b114_2 (w10 n0.1.1 n0.1.2 n0.2 (fun S' hF hA σ2 f2 => h0 _ σ2 (fun S hS Qm Km hk => c227 (b227_0 (fun σ1 f1 => ?_))))), fun z => bad (by omega)⟩⟩)
  obtain ⟨G3, G1, Gj, Gs, GA⟩ := act_p (f := 1) (s := 0) (v := m) hI (Or.inr (Or.inl ⟨rfl, by omega, by omega⟩)) hF hA f2 hS f1
  exact w159 (fun a b => ⟨fun q => absurd q (by decide), fun _ => GA _ _ _ σ1 (FRM_refl _) (fun σ' e0 hI' => b227_2 (hk σ' (by rw [e0]; exact G3) hI'))⟩) (fun q => absurd (show 0 ≤ m ∧ m ≤ 7 by omega) q)
theorem p_wet {K : Int → dS → Prop} {w : Int} (hw : w = 0 ∨ w = 1) (hI : INV σ) (h0 : ∀ v σ1, PRN (d + 20) 228 [.inr (.inr 153), .inl w] v σ1 → K v σ1) : wI (d + 20) 115 [.inr (.inr 0), .inl w] σ Q K := by
  have n0 := INV_n hI
  have s2 := (INV_s hI).2.2.1
  have fin : B115_2 (d + 18) (fun res σ1 => match res with | .inl (some (.inl v)) => K v σ1 | .inl _ => False | .inr e => Q (.inr e) σ1) w (σ 70 2) (σ 70 2) 0 2 σ := by
    refine b115_2 (w10 n0.1.1 n0.1.2 n0.2 (fun S' hF hA => ⟨hw, fun σ2 f2 => ⟨s2, h0 _ σ2 (fun S hS Qm Km hk => c228 (b228_0 (fun σ1 f1 => ?_)))⟩⟩))
    obtain ⟨G3, G1, Gj, Gs, GA⟩ := act_p (f := 2) (s := 0) (v := w) hI (Or.inr (Or.inr (Or.inl ⟨rfl, hw⟩))) hF hA f2 hS f1
    have go : B228_2 (d + 18) (fun res σ1 => match res with | .inl (some (.inl v)) => Km v σ1 | .inl _ => False | .inr e => Qm (.inr e) σ1) w 2 σ1 := by
      refine b228_2 (GA _ _ _ σ1 (FRM_refl _) (fun σ' e0 hI' => ?_))
      have hh := hk σ' (by rw [e0]; exact G3) hI'
      show (σ 70 2 ≠ 1 → _) ∧ (¬ σ 70 2 ≠ 1 → _)
      rcases s2 with e | e
      · rw [e] at hh ⊢
        exact ⟨fun _ => b228_3 (b228_4 ⟨Or.inl rfl, hh⟩), fun q => absurd (by decide) q⟩
      · rw [e] at hh ⊢
        exact ⟨fun q => absurd rfl q, fun _ => b228_4 ⟨Or.inr rfl, hh⟩⟩
    rcases hw with e | e
    · subst e; exact ⟨fun _ => b228_1 go, fun q => absurd rfl q⟩
    · subst e; exact ⟨fun q => absurd q (by decide), fun _ => go⟩
  refine c115 (b115_0 ?_)
  rcases s2 with e | e
  · rw [e] at fin ⊢
    exact ⟨fun _ => b115_1 fin, fun q => absurd rfl q⟩
  · rw [e] at fin ⊢
    exact ⟨fun q => absurd q (by decide), fun _ => fin⟩
theorem nx_dec : ∀ n : Fin 32, ∀ o : Fin 5, 0 ≤ ixr ((n.val : Nat) : Int) (shl 1 ((o.val : Nat) : Int)) ∧ ixr ((n.val : Nat) : Int) (shl 1 ((o.val : Nat) : Int)) ≤ 31 := by decide
theorem nx {n o : Int} (n0 : 0 ≤ n) (n1 : n ≤ 31) (o0 : 0 ≤ o) (o1 : o < 5) : 0 ≤ ixr n (shl 1 o) ∧ ixr n (shl 1 o) ≤ 31 := by
  have h := nx_dec ⟨n.toNat, by omega⟩ ⟨o.toNat, by omega⟩
  have e1 : ((n.toNat : Nat) : Int) = n := by omega
  have e2 : ((o.toNat : Nat) : Int) = o := by omega
  simp only [e1, e2] at h
  exact h
theorem p_nest {K : Int → dS → Prop} {o w : Int} (hI : INV σ) (h0 : ∀ v σ1, PRN (d + 20) 229 [.inr (.inr 153), .inl o, .inl w] v σ1 → K v σ1) (h1 : ∀ σ1, PRE (d + 20) 229 [.inr (.inr 153), .inl o, .inl w] 1 σ1 → Q (.inr 0) σ1) : wI (d + 20) 116 [.inr (.inr 0), .inl o, .inl w] σ Q K := by
  have n0 := INV_n hI
  have mcI := hI.2.1
  have hO := hI.1.2.1
  have s3 := (INV_s hI).2.2.2.1
  have r3 := hI.2.2.2.2.2.1.2.2.2.1
  refine c116 (b116_0 (w110 (fun o0 o1 => w23_70 ?_) (fun z => h1 σ (fun S hS Qm Km hk => c229 (b229_0 (fun σ1 f1 => ?_))))))
  · refine ⟨fun y => b116_1 (w10 n0.1.1 n0.1.2 n0.2 (fun S' hF hA σ2 f2 => ⟨Or.inr rfl, h0 1 σ2 (fun S hS Qm Km hk => c229 (b229_0 (fun σ1 f1 => ?_)))⟩)), fun y => w112 (by decide) (by decide) ⟨Or.inl rfl, h0 0 _ (fun S hS Qm Km hk => c229 (b229_0 (fun σ1 f1 => ?_)))⟩⟩
    · have e703 : S' 70 3 = σ 70 3 := by rw [hF 70 (by decide) (by decide) (by decide) (by decide)]
      rw [e703] at f2
      have hx := nx s3.1 s3.2 o0 (by omega)
      obtain ⟨G3, G1, Gj, Gs, GA⟩ := act_p (f := 3) (s := 0) (v := ixr (σ 70 3) (shl 1 o)) hI (Or.inr (Or.inr (Or.inr (Or.inl ⟨rfl, hx.1, hx.2⟩)))) hF hA f2 hS f1
      have e3 : σ1 153 3 = σ 5 2 := by rw [Gj 3 (by decide)]; exact mcI.2.1
      have e174 : σ1 174 3 = σ 70 3 := by rw [Gs 3 (by decide) (by decide)]; exact r3
      refine w216 G3 (fun _ _ => ⟨fun _ => b229_1 (w202 (V := fun _ => σ 70) e174 ?_), fun q => absurd (by decide) q⟩) (fun z => absurd (show 0 ≤ o ∧ o < σ1 153 3 by omega) z)
      refine ⟨fun _ => b229_4 ⟨by decide, by decide, ?_⟩, fun q => absurd y q⟩
      rw [e174]
      exact GA _ _ _ σ1 (FRM_refl _) (fun σ' e0 hI' => ⟨Or.inr rfl, hk σ' (by rw [e0]; exact G3) hI'⟩)
    · have hT : σ1 153 0 = 0 := by rw [f1, up_same]
      have e3 : σ1 153 3 = σ 5 2 := by rw [f1, up_i (by decide), hS 153 (by decide), up_k (by decide)]; exact mcI.2.1
      have e174 : σ1 174 3 = σ 70 3 := by rw [f1, up_k (by decide), hS 174 (by decide), up_k (by decide)]; exact r3
      refine w216 hT (fun _ _ => ⟨fun _ => b229_1 (w202 (V := fun _ => σ 70) e174 ?_), fun q => absurd (by decide) q⟩) (fun z => absurd (show 0 ≤ o ∧ o < σ1 153 3 by omega) z)
      refine ⟨fun q => absurd q y, fun _ => w196 hI (by decide) (by decide) hS (by rw [f1]; exact FRM_153) (fun σ' hI' e0 => ⟨fun _ => b229_2 (b229_3 ⟨Or.inl rfl, hk σ' (by rw [e0]; exact hT) hI'⟩), fun q => absurd (by decide) q⟩)⟩
  · have hT : σ1 153 0 = 0 := by rw [f1, up_same]
    have F1 : FRM σ σ1 := FRM_tr (OUT_FRM hS) (by rw [f1]; exact FRM_153)
    have e3 : σ1 153 3 = σ 5 2 := by rw [F1.2.1 3 (by decide)]; exact mcI.2.1
    refine w216 hT (fun a b => absurd ⟨a, by omega⟩ z) (fun _ => ⟨fun q => absurd rfl q, fun _ => ⟨Or.inl rfl, hk 0 _ (up_same _ _ _ _) (INV_F (FRM_tr F1 FRM_153) hI)⟩⟩)
theorem p_grain {K : Int → dS → Prop} {r g : Int} (hI : INV σ) (h0 : ∀ v σ1, PRN (d + 20) 230 [.inr (.inr 153), .inl r, .inl g] v σ1 → K v σ1) (h1 : ∀ σ1, PRE (d + 20) 230 [.inr (.inr 153), .inl r, .inl g] 1 σ1 → Q (.inr 0) σ1) : wI (d + 20) 117 [.inr (.inr 0), .inl r, .inl g] σ Q K := by
  have n0 := INV_n hI
  have mcI := hI.2.1
  have hR := hI.1.1
  have bad : (0 ≤ r ∧ r < σ 5 0) → ¬ (0 ≤ g ∧ g ≤ 9) → B117_1 (d + 18) (fun res σ1 => match res with | .inl (some (.inl v)) => K v σ1 | .inl _ => False | .inr e => Q (.inr e) σ1) σ := by
    intro hr z
    refine b117_1 (w112 (by decide) (by decide) (h0 (-1) _ (fun S hS Qm Km hk => c230 (b230_0 (fun σ1 f1 => ?_)))))
    have hT : σ1 153 0 = 0 := by rw [f1, up_same]
    have e1 : σ1 153 1 = σ 5 0 := by rw [f1, up_i (by decide), hS 153 (by decide), up_k (by decide)]; exact mcI.1
    refine w215 hT (fun _ _ => ⟨fun _ => b230_1 (w159 (fun a b => absurd ⟨a, b⟩ z) (fun _ => ⟨fun _ => b230_2 ?_, fun q => absurd rfl q⟩)), fun q => absurd (by decide) q⟩) (fun q => absurd (show 0 ≤ r ∧ r < σ1 153 1 by omega) q)
    exact w196 hI (by decide) (by decide) hS (by rw [f1]; exact FRM_153) (fun σ' hI' e0 => b230_3 (hk σ' (by rw [e0]; exact hT) hI'))
  refine c117 (b117_0 (w109 (fun r0 r1 => ⟨fun z => bad ⟨r0, r1⟩ (by omega), fun g0 => ⟨fun g9 => b117_2 (w10 n0.1.1 n0.1.2 n0.2 (fun S' hF hA σ2 f2 => h0 _ σ2 (fun S hS Qm Km hk => c230 (b230_0 (fun σ1 f1 => ?_))))), fun z => bad ⟨r0, r1⟩ (by omega)⟩⟩) (fun z => h1 σ (fun S hS Qm Km hk => c230 (b230_0 (fun σ1 f1 => ?_))))))
  · rw [rput_in r0 (by omega)] at f2
    rw [rat_in r0 (by omega)] at hA hk
    obtain ⟨G3, G1, Gj, Gs, GA⟩ := act_p (f := 4) (s := r) (v := g) hI (Or.inr (Or.inr (Or.inr (Or.inr (Or.inl ⟨rfl, r0, r1, by omega, g9⟩))))) hF hA f2 hS f1
    have e1 : σ1 153 1 = σ 5 0 := by rw [Gj 1 (by decide)]; exact mcI.1
    refine w215 G3 (fun _ _ => ⟨fun _ => b230_1 (w159 (fun a b => ⟨fun q => absurd q (by decide), fun _ => ?_⟩) (fun q => absurd (show 0 ≤ g ∧ g ≤ 9 by omega) q)), fun q => absurd (by decide) q⟩) (fun q => absurd (show 0 ≤ r ∧ r < σ1 153 1 by omega) q)
    rw [wr_id (by omega) (by omega)]
    exact GA _ _ _ σ1 (FRM_refl _) (fun σ' e0 hI' => b230_3 (hk σ' (by rw [e0]; exact G3) hI'))
  · have hT : σ1 153 0 = 0 := by rw [f1, up_same]
    have F1 : FRM σ σ1 := FRM_tr (OUT_FRM hS) (by rw [f1]; exact FRM_153)
    have e3 : σ1 153 1 = σ 5 0 := by rw [F1.2.1 1 (by decide)]; exact mcI.1
    refine w215 hT (fun a b => absurd ⟨a, by omega⟩ z) (fun _ => ⟨fun q => absurd rfl q, fun _ => hk 0 _ (up_same _ _ _ _) (INV_F (FRM_tr F1 FRM_153) hI)⟩)
theorem p_start {K : Int → dS → Prop} {o m : Int} (hI : INV σ) (h0 : ∀ v σ1, PRN (d + 20) 231 [.inr (.inr 153), .inl o, .inl m] v σ1 → K v σ1) (h1 : ∀ σ1, PRE (d + 20) 231 [.inr (.inr 153), .inl o, .inl m] 1 σ1 → Q (.inr 0) σ1) : wI (d + 20) 118 [.inr (.inr 0), .inl o, .inl m] σ Q K := by
  have n0 := INV_n hI
  have mcI := hI.2.1
  have hO := hI.1.2.1
  have bad : (0 ≤ o ∧ o < σ 5 2) → ¬ (0 ≤ m ∧ m ≤ 300) → B118_1 (d + 18) (fun res σ1 => match res with | .inl (some (.inl v)) => K v σ1 | .inl _ => False | .inr e => Q (.inr e) σ1) σ := by
    intro hr z
    refine b118_1 (w112 (by decide) (by decide) (h0 (-1) _ (fun S hS Qm Km hk => c231 (b231_0 (fun σ1 f1 => ?_)))))
    have hT : σ1 153 0 = 0 := by rw [f1, up_same]
    have e1 : σ1 153 3 = σ 5 2 := by rw [f1, up_i (by decide), hS 153 (by decide), up_k (by decide)]; exact mcI.2.1
    refine w216 hT (fun _ _ => ⟨fun _ => b231_1 (w159 (fun a b => absurd ⟨a, b⟩ z) (fun _ => ⟨fun _ => b231_2 ?_, fun q => absurd rfl q⟩)), fun q => absurd (by decide) q⟩) (fun q => absurd (show 0 ≤ o ∧ o < σ1 153 3 by omega) q)
    exact w196 hI (by decide) (by decide) hS (by rw [f1]; exact FRM_153) (fun σ' hI' e0 => b231_3 (hk σ' (by rw [e0]; exact hT) hI'))
  refine c118 (b118_0 (w110 (fun o0 o1 => ⟨fun z => bad ⟨o0, o1⟩ (by omega), fun m0 => ⟨fun m3 => b118_2 (w10 n0.1.1 n0.1.2 n0.2 (fun S' hF hA σ2 f2 => h0 _ σ2 (fun S hS Qm Km hk => c231 (b231_0 (fun σ1 f1 => ?_))))), fun z => bad ⟨o0, o1⟩ (by omega)⟩⟩) (fun z => h1 σ (fun S hS Qm Km hk => c231 (b231_0 (fun σ1 f1 => ?_))))))
  · rw [rput_in o0 (by omega)] at f2
    rw [rat_in o0 (by omega)] at hA hk
    obtain ⟨G3, G1, Gj, Gs, GA⟩ := act_p (f := 5) (s := o) (v := m) hI (Or.inr (Or.inr (Or.inr (Or.inr (Or.inr ⟨rfl, o0, o1, by omega, m3⟩))))) hF hA f2 hS f1
    have e1 : σ1 153 3 = σ 5 2 := by rw [Gj 3 (by decide)]; exact mcI.2.1
    refine w216 G3 (fun _ _ => ⟨fun _ => b231_1 (w159 (fun a b => ⟨fun q => absurd q (by decide), fun _ => ?_⟩) (fun q => absurd (show 0 ≤ m ∧ m ≤ 300 by omega) q)), fun q => absurd (by decide) q⟩) (fun q => absurd (show 0 ≤ o ∧ o < σ1 153 3 by omega) q)
    rw [wr_id (by omega) (by omega)]
    exact GA _ _ _ σ1 (FRM_refl _) (fun σ' e0 hI' => b231_3 (hk σ' (by rw [e0]; exact G3) hI'))
  · have hT : σ1 153 0 = 0 := by rw [f1, up_same]
    have F1 : FRM σ σ1 := FRM_tr (OUT_FRM hS) (by rw [f1]; exact FRM_153)
    have e3 : σ1 153 3 = σ 5 2 := by rw [F1.2.1 3 (by decide)]; exact mcI.2.1
    refine w216 hT (fun a b => absurd ⟨a, by omega⟩ z) (fun _ => ⟨fun q => absurd rfl q, fun _ => hk 0 _ (up_same _ _ _ _) (INV_F (FRM_tr F1 FRM_153) hI)⟩)
end ACTS
