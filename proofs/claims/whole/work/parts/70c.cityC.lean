/-! THE CLASS READS a text -/
def D00 (S : dS) : dS := rfill (up (up (up (up (up S 33 0 0) 33 1 0) 33 2 0) 33 3 0) 33 4 360) 37 100 0 0
theorem rfill_k {σ : dS} {k n k' : Nat} {w i : Int} (h : k' ≠ k) : rfill σ k n w i k' = σ k' := by
  funext j
  unfold rfill
  rw [if_neg (fun z => h z.1)]
theorem rfill_in {σ : dS} {k n : Nat} {w i j : Int} (h0 : i ≤ j) (h1 : j < (n : Int)) : rfill σ k n w i k j = w := by
  unfold rfill
  rw [if_pos ⟨rfl, h0, h1⟩]
theorem PV_00 {S : dS} : PV (D00 S) false [] := by
  have g : ∀ j, D00 S 33 j = (up (up (up (up (up S 33 0 0) 33 1 0) 33 2 0) 33 3 0) 33 4 360) 33 j := fun j => by unfold D00; rw [rfill_k (by decide)]
  have g0 : D00 S 33 0 = 0 := by rw [g, up_i (by decide), up_i (by decide), up_i (by decide), up_i (by decide), up_same]
  have g1 : D00 S 33 1 = 0 := by rw [g, up_i (by decide), up_i (by decide), up_i (by decide), up_same]
  have g2 : D00 S 33 2 = 0 := by rw [g, up_i (by decide), up_i (by decide), up_same]
  have g3 : D00 S 33 3 = 0 := by rw [g, up_i (by decide), up_same]
  have g4 : D00 S 33 4 = 360 := by rw [g, up_same]
  have gf : ∀ i, 0 ≤ i → i < 100 → D00 S 37 i = 0 := fun i i0 i1 => by unfold D00; exact rfill_in i0 (by omega)
  unfold PV
  rw [g0, g1, g2, g3, g4]
  refine ⟨⟨by decide, by decide, by decide, by decide, by decide⟩, fun r r0 r1 => by omega, fun a b a0 a1 b0 b1 => ?_, fun o o0 o1 => by omega, fun p p0 p1 => by omega, fun _ => rfl, by decide, fun l hl => absurd hl (by simp)⟩
  rw [gf _ (by omega) (by omega), gf _ (by omega) (by omega)]
  decide
theorem PV_all {c v : Nat → Int} {N : Nat} (c0 : c N = 0) (hN : N ≤ 700) (v0 : ∀ k, 0 ≤ v k) : ∀ (n k : Nat) (D : dS) (dt : Bool) (rs : List (List Int)), k ≤ N → PV D dt rs → rs.flatten.length ≤ k → (lnAll c v n k D dt rs).1 = 0 → (lnAll c v n k D dt rs).2.1 ≤ N ∧ PV (lnAll c v n k D dt rs).2.2.1 (lnAll c v n k D dt rs).2.2.2.1 (lnAll c v n k D dt rs).2.2.2.2 ∧ (lnAll c v n k D dt rs).2.2.2.2.flatten.length ≤ (lnAll c v n k D dt rs).2.1
  | 0, k, D, dt, rs, hk, hV, hl, hz => ⟨hk, hV, hl⟩
  | n + 1, k, D, dt, rs, hk, hV, hl, hz => by
    unfold lnAll at hz ⊢
    by_cases h1 : c k = 0
    · rw [if_pos h1]; exact ⟨hk, hV, hl⟩
    rw [if_neg h1] at hz ⊢
    by_cases h2 : (lnOne c v k D dt rs).1 ≠ 0
    · rw [if_pos h2] at hz; exact absurd hz h2
    rw [if_neg h2] at hz ⊢
    have hlt := one_lt c0 hk h1
    obtain ⟨p1, p2, p3, p4⟩ := PV_one c0 hN v0 hlt hV (Decidable.not_not.mp h2)
    by_cases h3 : c (lnOne c v k D dt rs).2.1 ≠ 59
    · rw [if_pos h3] at hz; exact absurd hz ne_1
    rw [if_neg h3] at hz ⊢
    have hlt2 := one_lt c0 p1 (by omega)
    exact PV_all c0 hN v0 n _ _ _ _ hlt2 p3 (by omega) hz
theorem x46 {c q v : Nat → Int} {N : Nat} {d : Nat} {Q : dR → dS → Prop} {K : Int → dS → Prop} {σ : dS} (hT : TK c q v N σ)
    (h0 : (lnAll c v 700 0 (D00 σ) false []).1 = 0 → ∀ σ', CR σ (lnAll c v 700 0 (D00 σ) false []).2.1 (lnAll c v 700 0 (D00 σ) false []).2.2.1 (lnAll c v 700 0 (D00 σ) false []).2.2.2.1 (lnAll c v 700 0 (D00 σ) false []).2.2.2.2 σ' → K 0 σ')
    (h1 : (lnAll c v 700 0 (D00 σ) false []).1 ≠ 0 → ∀ σ', CF σ (lnAll c v 700 0 (D00 σ) false []).1 (q (lnAll c v 700 0 (D00 σ) false []).2.1) σ' → K (lnAll c v 700 0 (D00 σ) false []).1 σ') : wI (d + 48) 46 [.inr (.inr 68)] σ Q K := by
  refine c46 (b46_0 (c25 (b25_0 (fun s0 f0 s1 f1 s2 f2 s3 f3 s4 f4 s5 f5 => c14 (b14_0 (fun t0 g0 t1 g1 u1 e1 u2 e2 u3 e3 => ⟨Or.inl rfl, fun u4 e4 => ?_⟩))))))
  have ed : s5 = D00 σ := by rw [f5, f4, f3, f2, f1, f0]; rfl
  have hD : ∀ x, dcl x → u4 x = D00 σ x := fun x hx => by rw [e4, up_k (by omega), e3, up_k (by omega), e2, up_k (by omega), e1, up_k (by omega), g1, up_k (by omega), g0, up_k (by omega), ed]
  have hF : ∀ x, ¬ (33 ≤ x ∧ x ≤ 60) → x ≠ 68 → u4 x = σ x := by
    intro x h1 h2
    rw [e4, up_k h2, e3, up_k h2, e2, up_k h2, e1, up_k h2, g1, up_k (by omega), g0, up_k (by omega), ed]
    unfold D00
    rw [rfill_k (by omega), up_k (by omega), up_k (by omega), up_k (by omega), up_k (by omega), up_k (by omega)]
  have h68 : ∀ j, j < 2 ∨ 5 < j → u4 68 j = σ 68 j := by
    intro j hj
    rw [e4, up_i (by omega), e3, up_i (by omega), e2, up_i (by omega), e1, up_i (by omega), g1, up_k (by decide), g0, up_k (by decide), ed]
    unfold D00
    rw [rfill_k (by decide), up_k (by decide), up_k (by decide), up_k (by decide), up_k (by decide), up_k (by decide)]
  have hC : CR σ 0 (D00 σ) false [] u4 := by
    refine ⟨hF, h68, ?_, ?_, ?_, ?_, hD, ?_, ?_, trivial, fun i hi => absurd hi (by simp)⟩
    · rw [e4, up_i (by decide), e3, up_i (by decide), e2, up_i (by decide), e1, up_same]; rfl
    · rw [e4, up_i (by decide), e3, up_i (by decide), e2, up_same]
    · rw [e4, up_i (by decide), e3, up_same]
    · rw [e4, up_same]; rfl
    · rw [e4, up_k (by decide), e3, up_k (by decide), e2, up_k (by decide), e1, up_k (by decide), g1, up_i (by decide), g0, up_same]; rfl
    · rw [e4, up_k (by decide), e3, up_k (by decide), e2, up_k (by decide), e1, up_k (by decide), g1, up_same]; rfl
  exact l46 hT 700 0 0 (D00 σ) false [] u4 (by decide) (by decide) (Nat.zero_le N) PV_00 (Nat.le_refl 0) hC h0 h1
