/-! CALLS THAT CHANGE: what both leave -/
def OUT (S σ1 : dS) : Prop := ∀ k, k ≠ 197 → S k = σ1 k
theorem OUT_FRM {S σ1 : dS} (h : OUT S σ1) : FRM σ1 S :=
  ⟨fun k q _ _ => h k (fun e => q (by rw [e]; decide)), fun j _ => by rw [h 153 (by decide)], fun j _ _ => by rw [h 174 (by decide)]⟩
section UPD
variable {d : Nat} {Q : dR → dS → Prop} {σ σ' S : dS}
theorem tapR_k (h1 : σ' 0 1 = σ 0 1) (h15 : σ' 153 15 = σ 153 15) (h161 : σ' 161 = σ 161) (h2 : σ' 2 = σ 2) (h : tapR σ) : tapR σ' := by
  unfold tapR
  rw [h1, h15, h161, h2]; exact h
theorem lurR_k (h5 : σ' 5 = σ 5) (h17 : σ' 0 17 = σ 0 17) (h65 : σ' 153 65 = σ 153 65) (h189 : σ' 189 = σ 189) (h148 : σ' 148 = σ 148) (h : lurR σ) : lurR σ' := by
  unfold lurR
  rw [h5, h17, h65, h189, h148]; exact h
theorem picR_k (h5 : σ' 5 = σ 5) (h26 : σ' 26 = σ 26) (h10 : σ' 0 10 = σ 0 10) (h70 : σ' 153 70 = σ 153 70) (h71 : σ' 153 71 = σ 153 71) (h72 : σ' 153 72 = σ 153 72) (hk : ∀ k, (90 ≤ k ∧ k ≤ 108) ∨ (194 ≤ k ∧ k ≤ 196) → σ' k = σ k) (hR : σ 5 0 ≤ 10) (hO : σ 5 2 ≤ 5) (h : picR σ) : picR σ' := by
  unfold picR
  rw [h10, h70, h71, h72]
  refine ⟨h.1, h.2.1, fun z => ?_⟩
  obtain ⟨b1, b2, b3, b4⟩ := h.2.2 z
  have k := fun n q => hk n q
  exact ⟨skS_k h5 h26 (k 90 (by omega)) (k 92 (by omega)) (k 94 (by omega)) b1, skR_k h5 (fun j _ _ => by rw [k 194 (by omega)]) (k 90 (by omega)) (k 92 (by omega)) (k 94 (by omega)) hR hO b2, actR_k h5 h26 (k 95 (by omega)) (k 97 (by omega)) (k 99 (by omega)) (k 101 (by omega)) (k 195 (by omega)) b3, seenR_k h5 (k 102 (by omega)) (k 104 (by omega)) (k 106 (by omega)) (k 108 (by omega)) (k 196 (by omega)) b4⟩
theorem INV_of (hI : INV σ) (gc : ∀ k, cty k → σ' k = σ k) (gm : ∀ k, 154 ≤ k → k ≤ 160 → σ' k = σ k) (g177 : σ' 177 = σ 177) (g153 : ∀ j, 1 ≤ j → j ≤ 6 → σ' 153 j = σ 153 j) (b5 : skS σ' 70) (b6 : skR σ' 70 174) (b7 : tapR σ') (b8 : ∀ k, 0 ≤ k → k < 3 → σ' 162 k = σ' 4 k) (b9 : σ' 153 17 = σ' 0 2) (b10 : σ' 75 1 = 40 ∧ σ' 82 1 = 8) (b11 : actR σ' 75 77 79 81 176 (σ' 153 50)) (b12 : seenR σ' 82 84 86 88 192 (σ' 153 67)) (b13 : lurR σ') (b14 : picR σ') : INV σ' := by
  obtain ⟨a1, a2, a3, a4, a5, a6, a7, a8, a9, a10, a11, a12, a13, a14, a15⟩ := hI
  refine ⟨cityOK_congr gc a1, ?_, ?_, ?_, b5, b6, b7, b8, b9, b10, b11, b12, b13, b14, farR_k (gc 5 (by decide)) (gc 9 (by decide)) g177 a15⟩
  · refine MVc_V gc ?_
    unfold MVc at a2 ⊢
    rw [g153 1 (by decide) (by decide), g153 3 (by decide) (by decide), g153 4 (by decide) (by decide), g153 5 (by decide) (by decide), g153 6 (by decide) (by decide), gm 154 (by decide) (by decide), gm 155 (by decide) (by decide), gm 156 (by decide) (by decide), gm 157 (by decide) (by decide), gm 158 (by decide) (by decide), gm 159 (by decide) (by decide), gm 160 (by decide) (by decide)]
    exact a2
  · rw [g153 2 (by decide) (by decide), gc 5 (by decide)]; exact a3
  · unfold flOK
    rw [gc 5 (by decide), gc 9 (by decide)]; exact a4
/-- a frame: all but scratch, the cells ex of both, and the places ej of the reference's fields -/
def FRX (ex : Nat → Prop) (ej : Int → Prop) (σ σ' : dS) : Prop := (∀ k, ¬ scr k → k ≠ 153 → k ≠ 174 → ¬ ex k → σ' k = σ k) ∧ (∀ j, j ≠ 0 → ¬ ej j → σ' 153 j = σ 153 j) ∧ (¬ ex 174 → ∀ j, 0 ≤ j → j < 19 → σ' 174 j = σ 174 j)
theorem FRX_F {ex : Nat → Prop} {ej : Int → Prop} {a b c : dS} (h : FRX ex ej a b) (g : FRM b c) : FRX ex ej a c :=
  ⟨fun k q1 q2 q3 q4 => (g.1 k q1 q2 q3).trans (h.1 k q1 q2 q3 q4), fun j q1 q2 => (g.2.1 j q1).trans (h.2.1 j q1 q2), fun z j q1 q2 => (g.2.2 j q1 q2).trans (h.2.2 z j q1 q2)⟩
/-! refusals -/
theorem INV_ref (hI : INV σ) (F : FRX (fun k => k = 4 ∨ k = 162) (fun _ => False) σ σ') (h : ∀ k, 0 ≤ k → k < 3 → σ' 162 k = σ' 4 k) : INV σ' := by
  have g : ∀ k, ¬ scr k ∧ k ≠ 153 ∧ k ≠ 174 ∧ ¬ (k = 4 ∨ k = 162) → σ' k = σ k := fun k q => F.1 k q.1 q.2.1 q.2.2.1 q.2.2.2
  have gj : ∀ j, j ≠ 0 → σ' 153 j = σ 153 j := fun j q => F.2.1 j q (fun z => z)
  have gs := F.2.2 (by decide)
  have gc : ∀ k, cty k → σ' k = σ k := fun k hk => g k ⟨(cty_x hk).2.2.2.2.2.1, (cty_x hk).2.2.2.1, (cty_x hk).2.2.2.2.1, by rcases hk with e | e | e | e | e | e | e | e | e | e | e | e | e | e <;> rw [e] <;> decide⟩
  have hR := hI.1.1.2
  have hO := hI.1.2.1.2
  have g5 := gc 5 (by decide)
  have g26 := gc 26 (by decide)
  obtain ⟨a1, a2, a3, a4, a5, a6, a7, a8, a9, a10, a11, a12, a13, a14, a15⟩ := id hI
  refine INV_of hI gc (fun k k1 k2 => g k ⟨by omega, by omega, by omega, by omega⟩) (g 177 (by decide)) (fun j j1 j2 => gj j (by omega)) (skS_k g5 g26 (g 70 (by decide)) (g 72 (by decide)) (g 74 (by decide)) a5) (skR_k g5 gs (g 70 (by decide)) (g 72 (by decide)) (g 74 (by decide)) hR hO a6) (tapR_k (by rw [g 0 (by decide)]) (gj 15 (by decide)) (g 161 (by decide)) (g 2 (by decide)) a7) h (by rw [gj 17 (by decide), g 0 (by decide)]; exact a9) (by rw [g 75 (by decide), g 82 (by decide)]; exact a10) ?_ ?_ (lurR_k g5 (by rw [g 0 (by decide)]) (gj 65 (by decide)) (g 189 (by decide)) (g 148 (by decide)) a13) (picR_k g5 g26 (by rw [g 0 (by decide)]) (gj 70 (by decide)) (gj 71 (by decide)) (gj 72 (by decide)) (fun k hk => g k ⟨by omega, by omega, by omega, by omega⟩) hR hO a14)
  · rw [gj 50 (by decide)]
    exact actR_k g5 g26 (g 75 (by decide)) (g 77 (by decide)) (g 79 (by decide)) (g 81 (by decide)) (g 176 (by decide)) a11
  · rw [gj 67 (by decide)]
    exact seenR_k g5 (g 82 (by decide)) (g 84 (by decide)) (g 86 (by decide)) (g 88 (by decide)) (g 192 (by decide)) a12
/-- the reference's refusal behind the class's -/
theorem w196 {K : Int → dS → Prop} {st : Int} {S0 : dS} (hI : INV σ) (s0 : 0 ≤ st) (s3 : st < 3) (hO : OUT S0 (up σ 4 st (wr (σ 4 st + 1)))) (hF : FRM S0 S) (h : ∀ σ', INV σ' → σ' 153 = S 153 → K (-1) σ') : wI (d + 2) 196 [.inr (.inr 153), .inl st] S Q K := by
  refine c196 (b196_0 ⟨s0, s3, s0, s3, fun σ1 f1 => ?_⟩)
  have e4 : S 4 = (up σ 4 st (wr (σ 4 st + 1))) 4 := by rw [hF.1 4 (by decide) (by decide) (by decide), hO 4 (by decide)]
  have e162 : S 162 = σ 162 := by rw [hF.1 162 (by decide) (by decide) (by decide), hO 162 (by decide), up_k (by decide)]
  have old : ∀ k, ¬ scr k → k ≠ 153 → k ≠ 174 → k ≠ 4 → S k = σ k := fun k q1 q2 q3 q4 => by rw [hF.1 k q1 q2 q3, hO k (fun e => q1 (by rw [e]; decide)), up_k q4]
  refine h σ1 (INV_ref hI ⟨fun k q1 q2 q3 q4 => ?_, fun j q1 _ => ?_, fun _ j j0 j1 => ?_⟩ (fun k k0 k3 => ?_)) ?_
  · rw [f1, up_k (by omega)]; exact old k q1 q2 q3 (by omega)
  · rw [f1, up_k (by decide), hF.2.1 j q1, hO 153 (by decide), up_k (by decide)]
  · rw [f1, up_k (by decide), hF.2.2 j j0 j1, hO 174 (by decide), up_k (by decide)]
  · have a8 := hI.2.2.2.2.2.2.2.1
    rw [f1, up_k (k := 162) (k' := 4) (by decide), e4]
    by_cases e : k = st
    · subst e
      rw [up_same, up_same, e162, a8 k k0 k3]
    · rw [up_i e, up_i e, e162]; exact a8 k k0 k3
  · rw [f1, up_k (by decide)]
/-! the list of acts -/
def shf (n k : Int) : Int := if n = 40 then k + 1 else k
def nxn (n : Int) : Int := if n = 40 then 40 else n + 1
/-- S is σ with one act more in the class's list -/
def addC (σ : dS) (f s t : Int) (S : dS) : Prop := S 75 0 = nxn (σ 75 0) ∧ S 75 1 = σ 75 1 ∧ (∀ k, 0 ≤ k → k < nxn (σ 75 0) - 1 → S 77 k = σ 77 (shf (σ 75 0) k) ∧ S 79 k = σ 79 (shf (σ 75 0) k) ∧ S 81 k = σ 81 (shf (σ 75 0) k)) ∧ S 77 (nxn (σ 75 0) - 1) = f ∧ S 79 (nxn (σ 75 0) - 1) = s ∧ S 81 (nxn (σ 75 0) - 1) = t
theorem l11 (h40 : σ 75 0 = 40) (hq : ∀ σ', (∀ k, k ≠ 75 → k ≠ 77 → k ≠ 79 → k ≠ 81 → σ' k = σ k) → σ' 75 0 = 39 → σ' 75 1 = σ 75 1 → (∀ k, 0 ≤ k → k < 39 → σ' 77 k = σ 77 (k + 1) ∧ σ' 79 k = σ 79 (k + 1) ∧ σ' 81 k = σ 81 (k + 1)) → Q (.inl none) σ') : ∀ (c : Nat) (x : Int) (S : dS), 1 ≤ x → x + c = 40 → (∀ k, k ≠ 77 → k ≠ 79 → k ≠ 81 → S k = σ k) → (∀ k, 0 ≤ k → k < 40 → S 77 k = σ 77 (if k < x - 1 then k + 1 else k) ∧ S 79 k = σ 79 (if k < x - 1 then k + 1 else k) ∧ S 81 k = σ 81 (if k < x - 1 then k + 1 else k)) → B11_1 d Q x S
  | 0, x, S, x1, hx, hF, hB => by
    have e75 : S 75 = σ 75 := hF 75 (by decide) (by decide) (by decide)
    refine b11_1 ⟨fun _ => b11_2 (fun σ1 f1 => ?_), fun z => absurd (by rw [e75]; omega) z⟩
    rw [e75, h40, wr_id (by decide) (by decide)] at f1
    refine hq σ1 (fun k q1 q2 q3 q4 => by rw [f1, up_k q1]; exact hF k q2 q3 q4) (by rw [f1, up_same]; rfl) (by rw [f1, up_i (by decide), e75]) (fun k k0 k1 => ?_)
    have := hB k k0 (by omega)
    rw [if_pos (by omega)] at this
    rw [f1, up_k (by decide), up_k (by decide), up_k (by decide)]; exact this
  | c + 1, x, S, x1, hx, hF, hB => by
    have e75 : S 75 = σ 75 := hF 75 (by decide) (by decide) (by decide)
    have hx2 := hB x (by omega) (by omega)
    rw [if_neg (by omega)] at hx2
    refine b11_1 ⟨fun z => absurd z (by rw [e75]; omega), fun _ σ1 f1 σ2 f2 σ3 f3 => ?_⟩
    rw [wr_id (x := x - 1) (by omega) (by omega), rput_in (by omega) (by omega), rat_in (by omega) (by omega), hx2.1] at f1
    rw [wr_id (x := x - 1) (by omega) (by omega), rput_in (by omega) (by omega), rat_in (by omega) (by omega), f1, up_k (k' := 79) (by decide), hx2.2.1] at f2
    rw [wr_id (x := x - 1) (by omega) (by omega), rput_in (by omega) (by omega), rat_in (by omega) (by omega), f2, up_k (k' := 81) (by decide), up_k (k' := 81) (by decide), hx2.2.2] at f3
    rw [wr_id (by omega) (by omega)]
    refine l11 h40 hq c (x + 1) σ3 (by omega) (by omega) (fun k q2 q3 q4 => by rw [f3, up_k q4, up_k q3, up_k q2]; exact hF k q2 q3 q4) (fun k k0 k1 => ?_)
    have hk := hB k k0 k1
    rw [f3]
    by_cases e : k = x - 1
    · subst e
      rw [if_pos (by omega)]
      refine ⟨?_, ?_, ?_⟩
      · rw [up_k (by decide), up_k (by decide), up_same]; congr 1; omega
      · rw [up_k (by decide), up_same]; congr 1; omega
      · rw [up_same]; congr 1; omega
    · have ec : (if k < x + 1 - 1 then k + 1 else k) = (if k < x - 1 then k + 1 else k) := by
        by_cases u : k < x - 1
        · rw [if_pos u, if_pos (by omega)]
        · rw [if_neg u, if_neg (by omega)]
      rw [ec]
      refine ⟨?_, ?_, ?_⟩
      · rw [up_k (by decide), up_k (by decide), up_i e]; exact hk.1
      · rw [up_k (by decide), up_i e, up_k (by decide)]; exact hk.2.1
      · rw [up_i e, up_k (by decide), up_k (by decide)]; exact hk.2.2
theorem l10_1 {K : dS → Prop} {f s t n : Int} (n0 : 0 ≤ n) (n40 : n < 40) (e0 : S 75 0 = n) (h : ∀ σ', (∀ k, k ≠ 75 → k ≠ 77 → k ≠ 79 → k ≠ 81 → σ' k = S k) → σ' 75 0 = n + 1 → σ' 75 1 = S 75 1 → (∀ k, k ≠ n → σ' 77 k = S 77 k ∧ σ' 79 k = S 79 k ∧ σ' 81 k = S 81 k) → σ' 77 n = f → σ' 79 n = s → σ' 81 n = t → K σ') : B10_75_1 d (fun res σ1 => match res with | .inl none => K σ1 | .inl (some _) => False | .inr e => Q (.inr e) σ1) f s t S := by
  refine b10_75_1 (fun σ1 f1 σ2 f2 σ3 f3 σ4 f4 => ?_)
  rw [e0, rput_in n0 (by omega)] at f1
  rw [f1, up_k (k' := 75) (by decide), e0, rput_in n0 (by omega)] at f2
  rw [f2, up_k (k' := 75) (by decide), up_k (k' := 75) (by decide), e0, rput_in n0 (by omega)] at f3
  rw [f3, up_k (k' := 75) (by decide), up_k (k' := 75) (by decide), up_k (k' := 75) (by decide), e0, wr_id (by omega) (by omega)] at f4
  refine h σ4 (fun k q1 q2 q3 q4 => by rw [f4, up_k q1, up_k q4, up_k q3, up_k q2]) (by rw [f4, up_same]) (by rw [f4, up_i (by decide), up_k (by decide), up_k (by decide), up_k (by decide)]) (fun k hk => ⟨?_, ?_, ?_⟩) ?_ ?_ ?_
  · rw [f4, up_k (by decide), up_k (by decide), up_k (by decide), up_i hk]
  · rw [f4, up_k (by decide), up_k (by decide), up_i hk, up_k (by decide)]
  · rw [f4, up_k (by decide), up_i hk, up_k (by decide), up_k (by decide)]
  · rw [f4, up_k (by decide), up_k (by decide), up_k (by decide), up_same]
  · rw [f4, up_k (by decide), up_k (by decide), up_same]
  · rw [f4, up_k (by decide), up_same]
theorem w10 {K : dS → Prop} {f s t : Int} (h0 : 0 ≤ σ 75 0) (h40 : σ 75 0 ≤ 40) (h1 : σ 75 1 = 40) (h : ∀ σ', (∀ k, k ≠ 75 → k ≠ 77 → k ≠ 79 → k ≠ 81 → σ' k = σ k) → addC σ f s t σ' → K σ') : wV (d + 4) 10 [.inr (.inr 75), .inl f, .inl s, .inl t] σ Q K := by
  refine c10_75 (b10_75_0 ⟨fun z => ?_, fun z => ?_⟩)
  · have en : nxn (σ 75 0) = σ 75 0 + 1 := by unfold nxn; rw [if_neg (by omega)]
    have es : ∀ k, shf (σ 75 0) k = k := fun k => by unfold shf; rw [if_neg (by omega)]
    refine l10_1 (n := σ 75 0) h0 (by omega) rfl (fun σ' g1 g2 g3 g4 g5 g6 g7 => h σ' g1 ⟨by rw [en]; exact g2, g3, fun k k0 k1 => ?_, ?_, ?_, ?_⟩)
    · rw [es]; exact g4 k (by omega)
    · rw [en, show σ 75 0 + 1 - 1 = σ 75 0 by omega]; exact g5
    · rw [en, show σ 75 0 + 1 - 1 = σ 75 0 by omega]; exact g6
    · rw [en, show σ 75 0 + 1 - 1 = σ 75 0 by omega]; exact g7
  · have e40 : σ 75 0 = 40 := by omega
    have en : nxn (σ 75 0) = 40 := by unfold nxn; rw [if_pos e40]
    have es : ∀ k, shf (σ 75 0) k = k + 1 := fun k => by unfold shf; rw [if_pos e40]
    refine c11 (b11_0 (l11 e40 (fun σ1 q1 q2 q3 q4 => ?_) 39 1 σ (by decide) (by decide) (fun _ _ _ _ => rfl) (fun k k0 k1 => ?_)))
    · refine l10_1 (n := 39) (by decide) (by decide) q2 (fun σ' g1 g2 g3 g4 g5 g6 g7 => h σ' (fun k w1 w2 w3 w4 => by rw [g1 k w1 w2 w3 w4]; exact q1 k w1 w2 w3 w4) ⟨by rw [en]; exact g2, by rw [g3]; exact q3, fun k k0 k1 => ?_, by rw [en]; exact g5, by rw [en]; exact g6, by rw [en]; exact g7⟩)
      rw [en] at k1
      rw [es]
      have a := g4 k (by omega)
      have b := q4 k k0 (by omega)
      exact ⟨a.1.trans b.1, a.2.1.trans b.2.1, a.2.2.trans b.2.2⟩
    · rw [if_neg (by omega)]; exact ⟨rfl, rfl, rfl⟩
end UPD
