/-! WHAT HOLDS BETWEEN TWO CALLS -/
abbrev csc (k : Nat) : Prop := k = 32 ∨ (109 ≤ k ∧ k ≤ 146) ∨ (149 ≤ k ∧ k ≤ 152)
abbrev msc (k : Nat) : Prop := k = 175 ∨ (178 ≤ k ∧ k ≤ 188) ∨ k = 190 ∨ k = 191 ∨ k = 193 ∨ k = 197
abbrev scr (k : Nat) : Prop := csc k ∨ msc k
/-- what calls that only look leave as it is -/
def FRM (σ σ' : dS) : Prop := (∀ k, ¬ scr k → k ≠ 153 → k ≠ 174 → σ' k = σ k) ∧ (∀ j, j ≠ 0 → σ' 153 j = σ 153 j) ∧ (∀ j, 0 ≤ j → j < 19 → σ' 174 j = σ 174 j)
theorem FRM_refl (σ : dS) : FRM σ σ := ⟨fun _ _ _ _ => rfl, fun _ _ => rfl, fun _ _ _ => rfl⟩
theorem FRM_tr {a b c : dS} (h : FRM a b) (g : FRM b c) : FRM a c :=
  ⟨fun k q1 q2 q3 => (g.1 k q1 q2 q3).trans (h.1 k q1 q2 q3), fun j q => (g.2.1 j q).trans (h.2.1 j q), fun j q1 q2 => (g.2.2 j q1 q2).trans (h.2.2 j q1 q2)⟩
theorem FRM_c {σ σ' : dS} (h : ∀ k, ¬ csc k → σ' k = σ k) : FRM σ σ' :=
  ⟨fun k q _ _ => h k (fun z => q (Or.inl z)), fun j _ => by rw [h 153 (by decide)], fun j _ _ => by rw [h 174 (by decide)]⟩
theorem FRM_m {σ σ' : dS} (h : ∀ k, ¬ msc k → k ≠ 153 → σ' k = σ k) (h1 : ∀ j, j ≠ 0 → σ' 153 j = σ 153 j) : FRM σ σ' :=
  ⟨fun k q q2 _ => h k (fun z => q (Or.inr z)) q2, h1, fun j _ _ => by rw [h 174 (by decide) (by decide)]⟩
def aAt (f s : Int) : Int := if f = 4 then 4 + s else if f = 5 then 14 + s else f
def aOK (σ : dS) (f s t : Int) : Prop := (f = 0 ∧ -1 ≤ t ∧ t < σ 26 0) ∨ (f = 1 ∧ 0 ≤ t ∧ t ≤ 7) ∨ (f = 2 ∧ (t = 0 ∨ t = 1)) ∨ (f = 3 ∧ 0 ≤ t ∧ t ≤ 31) ∨ (f = 4 ∧ 0 ≤ s ∧ s < σ 5 0 ∧ 0 ≤ t ∧ t ≤ 9) ∨ (f = 5 ∧ 0 ≤ s ∧ s < σ 5 2 ∧ 0 ≤ t ∧ t ≤ 300)
def actR (σ : dS) (lc fc sc tc mc : Nat) (n : Int) : Prop := σ lc 0 = n ∧ 0 ≤ n ∧ n ≤ 40 ∧ ∀ k, 0 ≤ k → k < n → aOK σ (σ fc k) (σ sc k) (σ tc k) ∧ σ mc (2 * k) = aAt (σ fc k) (σ sc k) ∧ σ mc (2 * k + 1) = σ tc k
def seenR (σ : dS) (lc fc sc tc mc : Nat) (n : Int) : Prop := σ lc 0 = n ∧ 0 ≤ n ∧ n ≤ 8 ∧ ∀ k, 0 ≤ k → k < n → (0 ≤ σ fc k ∧ σ fc k < σ 5 2) ∧ (0 ≤ σ sc k ∧ σ sc k ≤ 600) ∧ (-1 ≤ σ tc k ∧ σ tc k < σ 5 0) ∧ σ mc (3 * k) = σ fc k ∧ σ mc (3 * k + 1) = σ sc k ∧ σ mc (3 * k + 2) = σ tc k
def skR (σ : dS) (t mc : Nat) : Prop := σ mc 0 = σ t 0 ∧ σ mc 1 = σ t 1 ∧ σ mc 2 = σ t 2 ∧ σ mc 3 = σ t 3 ∧ (∀ r, 0 ≤ r → r < σ 5 0 → σ mc (4 + r) = σ (t + 2) r) ∧ (∀ o, 0 ≤ o → o < σ 5 2 → σ mc (14 + o) = σ (t + 4) o)
/-- a sky as acts make it -/
def skS (σ : dS) (t : Nat) : Prop := skyOK σ t ∧ ∀ o, 0 ≤ o → o < σ 5 2 → σ (t + 4) o ≤ 300
def flOK (σ : dS) : Prop := (0 ≤ σ 5 1 ∧ σ 5 1 ≤ 18) ∧ ∀ a b, 0 ≤ a → a < 10 → 0 ≤ b → b < 10 → (0 ≤ σ 9 (10 * a + b) ∧ σ 9 (10 * a + b) ≤ 60) ∧ σ 9 (10 * a + b) = σ 9 (10 * b + a)
/-- shortest ways, laid in place -/
def fstep (D : Int → Int) (k a b : Int) : Int → Int := fun i => if i = 10 * a + b ∧ D (10 * a + k) + D (10 * k + b) < D (10 * a + b) then D (10 * a + k) + D (10 * k + b) else D i
def fl1 (D : Int → Int) (k a : Int) : Nat → Int → Int
  | 0 => D
  | b + 1 => fstep (fl1 D k a b) k a (b : Int)
def fl2 (D : Int → Int) (R : Nat) (k : Int) : Nat → Int → Int
  | 0 => D
  | a + 1 => fl1 (fl2 D R k a) k (a : Int) R
def fl3 (D : Int → Int) (R : Nat) : Nat → Int → Int
  | 0 => D
  | k + 1 => fl2 (fl3 D R k) R (k : Int) R
def fl0 (σ : dS) (i : Int) : Int := if i % 11 = 0 then 0 else if 0 < σ 9 i then σ 9 i else 1000000
def farR (σ : dS) : Prop := ∀ a b, 0 ≤ a → a < σ 5 0 → 0 ≤ b → b < σ 5 0 → σ 177 (10 * a + b) = fl3 (fl0 σ) (σ 5 0).toNat (σ 5 0).toNat (10 * a + b)
def tapR (σ : dS) : Prop := σ 153 15 = σ 0 1 ∧ 0 ≤ σ 0 1 ∧ σ 0 1 ≤ 700 ∧ ∀ k, 0 ≤ k → k < σ 0 1 → σ 161 k = σ 2 k ∧ 0 ≤ σ 2 k ∧ σ 2 k ≤ 255
def lurR (σ : dS) : Prop := σ 153 65 = σ 0 17 ∧ (σ 0 17 = 0 ∨ σ 0 17 = 1) ∧ (σ 0 17 = 1 → ∀ r, 0 ≤ r → r < σ 5 0 → σ 189 r = σ 148 r)
def picR (σ : dS) : Prop := σ 153 70 = σ 0 10 ∧ (σ 0 10 = 0 ∨ σ 0 10 = 1) ∧ (σ 0 10 = 1 → skS σ 90 ∧ skR σ 90 194 ∧ actR σ 95 97 99 101 195 (σ 153 71) ∧ seenR σ 102 104 106 108 196 (σ 153 72))
def INV (σ : dS) : Prop := cityOK σ ∧ MVc σ σ ∧ σ 153 2 = σ 5 1 ∧ flOK σ ∧ skS σ 70 ∧ skR σ 70 174 ∧ tapR σ ∧ (∀ k, 0 ≤ k → k < 3 → σ 162 k = σ 4 k) ∧ σ 153 17 = σ 0 2 ∧ (σ 75 1 = 40 ∧ σ 82 1 = 8) ∧ actR σ 75 77 79 81 176 (σ 153 50) ∧ seenR σ 82 84 86 88 192 (σ 153 67) ∧ lurR σ ∧ picR σ ∧ farR σ
theorem MVc_153 {σ σ' V : dS} (h0 : ∀ j, j ≠ 0 → σ' 153 j = σ 153 j) (h : ∀ k, 154 ≤ k → k ≤ 160 → σ' k = σ k) (q : MVc σ V) : MVc σ' V := by
  unfold MVc
  rw [h0 1 (by decide), h0 3 (by decide), h0 4 (by decide), h0 5 (by decide), h0 6 (by decide), h 154 (by decide) (by decide), h 155 (by decide) (by decide), h 156 (by decide) (by decide), h 157 (by decide) (by decide), h 158 (by decide) (by decide), h 159 (by decide) (by decide), h 160 (by decide) (by decide)]
  exact q
theorem MVc_V {σ V V' : dS} (h : ∀ k, cty k → V' k = V k) (q : MVc σ V) : MVc σ V' := by
  unfold MVc
  rw [h 5 (by decide), h 26 (by decide), h 9 (by decide), h 11 (by decide), h 15 (by decide), h 17 (by decide), h 19 (by decide), h 21 (by decide), h 23 (by decide), h 25 (by decide), h 159 (by decide), h 160 (by decide)]
  exact q
theorem skyOK_k {σ σ' : dS} {t : Nat} (h5 : σ' 5 = σ 5) (h26 : σ' 26 = σ 26) (ht : σ' t = σ t) (ht2 : σ' (t + 2) = σ (t + 2)) (ht4 : σ' (t + 4) = σ (t + 4)) (h : skyOK σ t) : skyOK σ' t := by
  unfold skyOK
  rw [h5, h26, ht, ht2, ht4]
  exact h
theorem skS_k {σ σ' : dS} {t : Nat} (h5 : σ' 5 = σ 5) (h26 : σ' 26 = σ 26) (ht : σ' t = σ t) (ht2 : σ' (t + 2) = σ (t + 2)) (ht4 : σ' (t + 4) = σ (t + 4)) (h : skS σ t) : skS σ' t := by
  refine ⟨skyOK_k h5 h26 ht ht2 ht4 h.1, ?_⟩
  rw [h5, ht4]
  exact h.2
theorem skR_k {σ σ' : dS} {t mc : Nat} (h5 : σ' 5 = σ 5) (hm : ∀ j, 0 ≤ j → j < 19 → σ' mc j = σ mc j) (ht : σ' t = σ t) (ht2 : σ' (t + 2) = σ (t + 2)) (ht4 : σ' (t + 4) = σ (t + 4)) (hR : σ 5 0 ≤ 10) (hO : σ 5 2 ≤ 5) (h : skR σ t mc) : skR σ' t mc := by
  obtain ⟨a1, a2, a3, a4, a5, a6⟩ := h
  refine ⟨by rw [hm 0 (by omega) (by omega), ht]; exact a1, by rw [hm 1 (by omega) (by omega), ht]; exact a2, by rw [hm 2 (by omega) (by omega), ht]; exact a3, by rw [hm 3 (by omega) (by omega), ht]; exact a4, fun r r0 r1 => ?_, fun o o0 o1 => ?_⟩
  · rw [h5] at r1
    rw [hm _ (by omega) (by omega), ht2]; exact a5 r r0 r1
  · rw [h5] at o1
    rw [hm _ (by omega) (by omega), ht4]; exact a6 o o0 o1
theorem actR_k {σ σ' : dS} {lc fc sc tc mc : Nat} {n : Int} (h5 : σ' 5 = σ 5) (h26 : σ' 26 = σ 26) (h1 : σ' lc = σ lc) (h2 : σ' fc = σ fc) (h3 : σ' sc = σ sc) (h4 : σ' tc = σ tc) (hm : σ' mc = σ mc) (h : actR σ lc fc sc tc mc n) : actR σ' lc fc sc tc mc n := by
  unfold actR aOK
  rw [h5, h26, h1, h2, h3, h4, hm]
  exact h
theorem seenR_k {σ σ' : dS} {lc fc sc tc mc : Nat} {n : Int} (h5 : σ' 5 = σ 5) (h1 : σ' lc = σ lc) (h2 : σ' fc = σ fc) (h3 : σ' sc = σ sc) (h4 : σ' tc = σ tc) (hm : σ' mc = σ mc) (h : seenR σ lc fc sc tc mc n) : seenR σ' lc fc sc tc mc n := by
  unfold seenR
  rw [h5, h1, h2, h3, h4, hm]
  exact h
theorem farR_k {σ σ' : dS} (h5 : σ' 5 = σ 5) (h9 : σ' 9 = σ 9) (h177 : σ' 177 = σ 177) (h : farR σ) : farR σ' := by
  have e : fl0 σ' = fl0 σ := by funext i; unfold fl0; rw [h9]
  unfold farR
  rw [h5, h177, e]
  exact h
/-- calls that only look keep all of it -/
theorem INV_F {σ σ' : dS} (hF : FRM σ σ') (h : INV σ) : INV σ' := by
  obtain ⟨f1, f2, f3⟩ := hF
  have g : ∀ k, ¬ scr k ∧ k ≠ 153 ∧ k ≠ 174 → σ' k = σ k := fun k q => f1 k q.1 q.2.1 q.2.2
  have gc : ∀ k, cty k → σ' k = σ k := by
    intro k hk
    refine g k ⟨?_, ?_, ?_⟩
    · rcases hk with e | e | e | e | e | e | e | e | e | e | e | e | e | e <;> rw [e] <;> decide
    · rcases hk with e | e | e | e | e | e | e | e | e | e | e | e | e | e <;> rw [e] <;> decide
    · rcases hk with e | e | e | e | e | e | e | e | e | e | e | e | e | e <;> rw [e] <;> decide
  have g5 := gc 5 (by decide)
  have g26 := gc 26 (by decide)
  obtain ⟨a1, a2, a3, a4, a5, a6, a7, a8, a9, a10, a11, a12, a13, a14, a15⟩ := h
  have hR := a1.1
  have hO := a1.2.1
  refine ⟨cityOK_congr gc a1, ?_, ?_, ?_, ?_, ?_, ?_, ?_, ?_, ?_, ?_, ?_, ?_, ?_, ?_⟩
  · refine MVc_V gc (MVc_153 f2 (fun k q1 q2 => ?_) a2)
    exact g k ⟨by omega, by omega, by omega⟩
  · rw [f2 2 (by decide), g5]; exact a3
  · unfold flOK
    rw [g5, gc 9 (by decide)]; exact a4
  · exact skS_k g5 g26 (g 70 (by decide)) (g 72 (by decide)) (g 74 (by decide)) a5
  · exact skR_k g5 f3 (g 70 (by decide)) (g 72 (by decide)) (g 74 (by decide)) hR.2 hO.2 a6
  · unfold tapR
    rw [f2 15 (by decide), g 0 (by decide), g 161 (by decide), g 2 (by decide)]; exact a7
  · rw [g 162 (by decide), g 4 (by decide)]; exact a8
  · rw [f2 17 (by decide), g 0 (by decide)]; exact a9
  · rw [g 75 (by decide), g 82 (by decide)]; exact a10
  · rw [f2 50 (by decide)]
    exact actR_k g5 g26 (g 75 (by decide)) (g 77 (by decide)) (g 79 (by decide)) (g 81 (by decide)) (g 176 (by decide)) a11
  · rw [f2 67 (by decide)]
    exact seenR_k g5 (g 82 (by decide)) (g 84 (by decide)) (g 86 (by decide)) (g 88 (by decide)) (g 192 (by decide)) a12
  · unfold lurR
    rw [f2 65 (by decide), g 0 (by decide), g5, g 189 (by decide), g 148 (by decide)]; exact a13
  · unfold picR
    rw [f2 70 (by decide), g 0 (by decide), f2 71 (by decide), f2 72 (by decide)]
    refine ⟨a14.1, a14.2.1, fun z => ?_⟩
    obtain ⟨b1, b2, b3, b4⟩ := a14.2.2 z
    exact ⟨skS_k g5 g26 (g 90 (by decide)) (g 92 (by decide)) (g 94 (by decide)) b1, skR_k g5 (fun j _ _ => by rw [g 194 (by decide)]) (g 90 (by decide)) (g 92 (by decide)) (g 94 (by decide)) hR.2 hO.2 b2, actR_k g5 g26 (g 95 (by decide)) (g 97 (by decide)) (g 99 (by decide)) (g 101 (by decide)) (g 195 (by decide)) b3, seenR_k g5 (g 102 (by decide)) (g 104 (by decide)) (g 106 (by decide)) (g 108 (by decide)) (g 196 (by decide)) b4⟩
  · exact farR_k g5 (gc 9 (by decide)) (g 177 (by decide)) a15
/-- the view of now stays where calls only look -/
theorem nrm_F {σ σ' : dS} (hF : FRM σ σ') : nrm σ' 70 = nrm σ 70 := by
  obtain ⟨f1, f2, f3⟩ := hF
  funext k j
  unfold nrm
  rw [f1 70 (by decide) (by decide) (by decide), f1 5 (by decide) (by decide) (by decide), show (70 + 2 : Nat) = 72 from rfl, show (70 + 4 : Nat) = 74 from rfl, f1 72 (by decide) (by decide) (by decide), f1 74 (by decide) (by decide) (by decide)]
  by_cases h : cty k
  · have : σ' k = σ k := by
      refine f1 k ?_ ?_ ?_
      · rcases h with e | e | e | e | e | e | e | e | e | e | e | e | e | e <;> rw [e] <;> decide
      · rcases h with e | e | e | e | e | e | e | e | e | e | e | e | e | e <;> rw [e] <;> decide
      · rcases h with e | e | e | e | e | e | e | e | e | e | e | e | e | e <;> rw [e] <;> decide
    rw [this]
  · rw [if_neg h, if_neg h]
theorem MVs_of {σ : dS} (h : skR σ 70 174) : MVs σ (nrm σ 70) := by
  obtain ⟨a1, a2, a3, a4, a5, a6⟩ := h
  unfold MVs
  rw [nrm_s (by omega) (by omega), nrm_s (by omega) (by omega), nrm_s (by omega) (by omega), nrm_s (by omega) (by omega), nrm_c (k := 5) (by decide)]
  refine ⟨a1, a2, a3, a4, fun r r0 r1 => ?_, fun o o0 o1 => ?_⟩
  · rw [nrm_g r0 r1]; exact a5 r r0 r1
  · rw [nrm_b o0 o1]; exact a6 o o0 o1
theorem MVc_of {σ : dS} {t : Nat} (h : MVc σ σ) : MVc σ (nrm σ t) := MVc_V (fun k hk => nrm_c hk) h
