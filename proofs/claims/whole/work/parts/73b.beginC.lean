/-! THE CLASS BEGINS anew -/
section CB
variable {d : Nat} {Q : dR → dS → Prop} {σ : dS}
theorem w33 {K : dS → Prop} (hq : ∀ σ', (∀ x, x ≠ 70 → x ≠ 72 → x ≠ 74 → x ≠ 75 → x ≠ 82 → σ' x = σ x) → σ' 70 0 = (if 0 < σ 26 0 then 0 else -1) → (σ' 70 1 = 0 ∧ σ' 70 2 = 0 ∧ σ' 70 3 = 0) → (∀ r, 0 ≤ r → r < 10 → σ' 72 r = σ 7 r) → (∀ o, 0 ≤ o → o < 5 → σ' 74 o = σ 13 o) → (σ' 75 0 = 0 ∧ ∀ j, j ≠ 0 → σ' 75 j = σ 75 j) → (σ' 82 0 = 0 ∧ ∀ j, j ≠ 0 → σ' 82 j = σ 82 j) → K σ') : wV (d + 3) 33 [.inr (.inr 69), .inr (.inr 5)] σ Q K := by
  have fin : ∀ s0 : Int, s0 = (if 0 < σ 26 0 then 0 else -1) → ∀ Q' : dR → dS → Prop, (∀ s, (∀ t, t = up s 75 0 0 → ∀ u, u = up t 82 0 0 → K u) → Q' (.inl none) s) → B21_2 d Q' s0 σ := by
    intro s0 e0 Q' hq'
    refine b21_2 (fun s1 f1 s2 f2 => ⟨Or.inl rfl, fun s3 f3 s4 f4 s5 f5 s6 f6 => hq' s6 (fun t ft u fu => hq u ?_ ?_ ?_ ?_ ?_ ?_ ?_)⟩)
    · intro x h1 h2 h3 h4 h5
      rw [fu, up_k h5, ft, up_k h4, f6, rcopy_k h3, f5, rcopy_k h2, f4, up_k h1, f3, up_k h1, f2, up_k h1, f1, up_k h1]
    · rw [fu, up_k (by decide), ft, up_k (by decide), f6, rcopy_k (by decide), f5, rcopy_k (by decide), f4, up_i (by decide), f3, up_i (by decide), f2, up_i (by decide), f1, up_same]; exact e0
    · refine ⟨?_, ?_, ?_⟩
      · rw [fu, up_k (by decide), ft, up_k (by decide), f6, rcopy_k (by decide), f5, rcopy_k (by decide), f4, up_i (by decide), f3, up_i (by decide), f2, up_same]
      · rw [fu, up_k (by decide), ft, up_k (by decide), f6, rcopy_k (by decide), f5, rcopy_k (by decide), f4, up_i (by decide), f3, up_same]
      · rw [fu, up_k (by decide), ft, up_k (by decide), f6, rcopy_k (by decide), f5, rcopy_k (by decide), f4, up_same]
    · intro r r0 r1
      rw [fu, up_k (by decide), ft, up_k (by decide), f6, rcopy_k (by decide), f5, rcopy_in r0 (by omega) (by omega), f4, up_k (by decide), f3, up_k (by decide), f2, up_k (by decide), f1, up_k (by decide)]
    · intro o o0 o1
      rw [fu, up_k (by decide), ft, up_k (by decide), f6, rcopy_in o0 (by omega) (by omega), f5, rcopy_k (by decide), f4, up_k (by decide), f3, up_k (by decide), f2, up_k (by decide), f1, up_k (by decide)]
    · refine ⟨by rw [fu, up_k (by decide), ft, up_same], fun j hj => ?_⟩
      rw [fu, up_k (by decide), ft, up_i hj, f6, rcopy_k (by decide), f5, rcopy_k (by decide), f4, up_k (by decide), f3, up_k (by decide), f2, up_k (by decide), f1, up_k (by decide)]
    · refine ⟨by rw [fu, up_same], fun j hj => ?_⟩
      rw [fu, up_i hj, ft, up_k (by decide), f6, rcopy_k (by decide), f5, rcopy_k (by decide), f4, up_k (by decide), f3, up_k (by decide), f2, up_k (by decide), f1, up_k (by decide)]
  refine c33 (b33_0 (c21 (b21_0 ⟨fun z => b21_1 (fin (-1) (by rw [if_neg (by omega)]) _ ?_), fun z => fin 0 (by rw [if_pos (by omega)]) _ ?_⟩)))
  · intro s h t ft u fu
    exact h t ft u fu
  · intro s h t ft u fu
    exact h t ft u fu
end CB
