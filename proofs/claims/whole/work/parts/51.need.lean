/-! SMALL HELPERS OF BOTH -/
section NEED
variable {d : Nat} {Q : dR → dS → Prop} {σ : dS}
theorem w109 {K : dS → Prop} {x : Int} (h1 : 0 ≤ x → x < σ 5 0 → K σ) (h2 : ¬ (0 ≤ x ∧ x < σ 5 0) → Q (.inr 0) σ) : wV (d + 2) 109 [.inr (.inr 0), .inl x] σ Q K :=
  c109 (b109_0 ⟨fun z => b109_1 (h2 (by omega)), fun z => ⟨fun y => b109_2 (h1 (by omega) y), fun y => b109_1 (h2 (by omega))⟩⟩)
theorem w110 {K : dS → Prop} {x : Int} (h1 : 0 ≤ x → x < σ 5 2 → K σ) (h2 : ¬ (0 ≤ x ∧ x < σ 5 2) → Q (.inr 0) σ) : wV (d + 2) 110 [.inr (.inr 0), .inl x] σ Q K :=
  c110 (b110_0 ⟨fun z => b110_1 (h2 (by omega)), fun z => ⟨fun y => b110_2 (h1 (by omega) y), fun y => b110_1 (h2 (by omega))⟩⟩)
theorem w111 {K : dS → Prop} {x : Int} (h1 : 0 ≤ x → x < σ 5 3 → K σ) (h2 : ¬ (0 ≤ x ∧ x < σ 5 3) → Q (.inr 0) σ) : wV (d + 2) 111 [.inr (.inr 0), .inl x] σ Q K :=
  c111 (b111_0 ⟨fun z => b111_1 (h2 (by omega)), fun z => ⟨fun y => b111_2 (h1 (by omega) y), fun y => b111_1 (h2 (by omega))⟩⟩)
theorem w112 {K : Int → dS → Prop} {k : Int} (k0 : 0 ≤ k) (k1 : k < 3) (h : K (-1) (up σ 4 k (wr (σ 4 k + 1)))) : wI (d + 2) 112 [.inr (.inr 0), .inl k] σ Q K := by
  refine c112 (b112_0 ?_)
  intro σ1 f1
  rw [rput_in (by omega) (by omega), rat_in (by omega) (by omega)] at f1
  rw [f1]
  exact h
theorem w158 {K : Int → dS → Prop} {x c : Int} (hT : σ 153 0 = 0) (hc : c ≠ 0) (h1 : x ≠ 0 → K 1 σ) (h2 : x = 0 → K 0 (up σ 153 0 c)) : wI (d + 2) 158 [.inr (.inr 153), .inl x, .inl c] σ Q K := by
  refine c158 (b158_0 ⟨fun z => absurd hT z, fun _ => ⟨fun z => b158_1 ⟨fun y => absurd hT y, fun _ => b158_3 ⟨Or.inr rfl, h1 z⟩⟩, fun z => ?_⟩⟩)
  intro σ1 f1
  rw [f1]
  refine b158_1 ⟨fun _ => b158_2 (b158_3 ⟨Or.inl rfl, h2 (Decidable.of_not_not z)⟩), fun y => absurd (by rw [up_same]; exact hc) y⟩
theorem w159 {K : Int → dS → Prop} {x a b : Int} (h1 : a ≤ x → x ≤ b → K 1 σ) (h2 : ¬ (a ≤ x ∧ x ≤ b) → K 0 σ) : wI (d + 2) 159 [.inl x, .inl a, .inl b] σ Q K :=
  c159 (b159_0 ⟨fun z => b159_1 (b159_2 ⟨Or.inl rfl, h2 (by omega)⟩), fun z => ⟨fun y => b159_1 (b159_2 ⟨Or.inl rfl, h2 (by omega)⟩), fun y => b159_2 ⟨Or.inr rfl, h1 (by omega) (by omega)⟩⟩⟩)
theorem w215 {K : Int → dS → Prop} {x : Int} (hT : σ 153 0 = 0) (h1 : 0 ≤ x → x < σ 153 1 → K 1 σ) (h2 : ¬ (0 ≤ x ∧ x < σ 153 1) → K 0 (up σ 153 0 1)) : wI (d + 4) 215 [.inr (.inr 153), .inl x] σ Q K := by
  have no : ¬ (0 ≤ x ∧ x < σ 153 1) → B215_1 (d + 2) (fun res σ1 => match res with | .inl (some (.inl v)) => K v σ1 | .inl _ => False | .inr e => Q (.inr e) σ1) σ := fun z => b215_1 (b215_2 (w158 hT (by decide) (fun w => absurd rfl w) (fun _ => ⟨Or.inl rfl, h2 z⟩)))
  exact c215 (b215_0 ⟨fun z => no (by omega), fun z => ⟨fun y => no (by omega), fun y => b215_2 (w158 hT (by decide) (fun _ => ⟨Or.inr rfl, h1 (by omega) (by omega)⟩) (fun w => absurd w (by decide)))⟩⟩)
theorem w216 {K : Int → dS → Prop} {x : Int} (hT : σ 153 0 = 0) (h1 : 0 ≤ x → x < σ 153 3 → K 1 σ) (h2 : ¬ (0 ≤ x ∧ x < σ 153 3) → K 0 (up σ 153 0 1)) : wI (d + 4) 216 [.inr (.inr 153), .inl x] σ Q K := by
  have no : ¬ (0 ≤ x ∧ x < σ 153 3) → B216_1 (d + 2) (fun res σ1 => match res with | .inl (some (.inl v)) => K v σ1 | .inl _ => False | .inr e => Q (.inr e) σ1) σ := fun z => b216_1 (b216_2 (w158 hT (by decide) (fun w => absurd rfl w) (fun _ => ⟨Or.inl rfl, h2 z⟩)))
  exact c216 (b216_0 ⟨fun z => no (by omega), fun z => ⟨fun y => no (by omega), fun y => b216_2 (w158 hT (by decide) (fun _ => ⟨Or.inr rfl, h1 (by omega) (by omega)⟩) (fun w => absurd w (by decide)))⟩⟩)
theorem w217 {K : Int → dS → Prop} {x : Int} (hT : σ 153 0 = 0) (h1 : 0 ≤ x → x < σ 153 4 → K 1 σ) (h2 : ¬ (0 ≤ x ∧ x < σ 153 4) → K 0 (up σ 153 0 1)) : wI (d + 4) 217 [.inr (.inr 153), .inl x] σ Q K := by
  have no : ¬ (0 ≤ x ∧ x < σ 153 4) → B217_1 (d + 2) (fun res σ1 => match res with | .inl (some (.inl v)) => K v σ1 | .inl _ => False | .inr e => Q (.inr e) σ1) σ := fun z => b217_1 (b217_2 (w158 hT (by decide) (fun w => absurd rfl w) (fun _ => ⟨Or.inl rfl, h2 z⟩)))
  exact c217 (b217_0 ⟨fun z => no (by omega), fun z => ⟨fun y => no (by omega), fun y => b217_2 (w158 hT (by decide) (fun _ => ⟨Or.inr rfl, h1 (by omega) (by omega)⟩) (fun w => absurd w (by decide)))⟩⟩)
theorem w218 {K : Int → dS → Prop} {x b : Int} (hT : σ 153 0 = 0) (h1 : 0 ≤ x → x ≤ b → K 1 σ) (h2 : ¬ (0 ≤ x ∧ x ≤ b) → K 0 (up σ 153 0 1)) : wI (d + 4) 218 [.inr (.inr 153), .inl x, .inl b] σ Q K :=
  c218 (b218_0 (w159 (fun z y => w158 hT (by decide) (fun _ => ⟨Or.inr rfl, h1 z y⟩) (fun w => absurd w (by decide))) (fun z => w158 hT (by decide) (fun w => absurd rfl w) (fun _ => ⟨Or.inl rfl, h2 z⟩))))
end NEED
theorem FRM_153 {σ : dS} {v : Int} : FRM σ (up σ 153 0 v) :=
  ⟨fun k _ h _ => up_k h, fun j h => up_i h, fun j _ _ => by rw [up_k (by decide)]⟩
/-- what a night of the class, and what follows it, leaves -/
theorem FRM_n {σ σ' : dS} (h : ∀ k, ¬ ncl k → ¬ rcl k → σ' k = σ k) : FRM σ σ' := FRM_c (fun k hk => h k (by omega) (by omega))
theorem FRM_nm {σ σ' : dS} (h : ∀ k, ¬ nml k → k ≠ 186 → σ' k = σ k) : FRM σ σ' := FRM_m (fun k hk _ => h k (by omega) (by omega)) (fun j _ => by rw [h 153 (by decide) (by decide)])
section INVF
variable {σ : dS}
theorem INV_c (h : INV σ) : cityOK σ := h.1
theorem INV_s (h : INV σ) : skyOK σ 70 := h.2.2.2.2.1.1
theorem INV_mc (h : INV σ) : MVc σ (nrm σ 70) := MVc_of h.2.1
theorem INV_ms (h : INV σ) : MVs σ (nrm σ 70) := MVs_of h.2.2.2.2.2.1
theorem INV_vc (h : INV σ) : cityOK (nrm σ 70) := cityOK_nrm h.1
theorem INV_vs (h : INV σ) : skyOK (nrm σ 70) 109 := skyOK_nrm (INV_s h)
end INVF
