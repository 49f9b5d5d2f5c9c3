/-! LURE -/
def Rn (V : dS) : Nat := (V 5 0).toNat
def VL (V : dS) (x : Nat) : dS := fun k j => if k = 111 ∧ 0 ≤ j ∧ j < V 5 0 then V 111 j + ((dgt (Rn V) x j.toNat : Nat) : Int) else V k j
def fitx (V : dS) (x : Nat) : Prop := ∀ r : Int, 0 ≤ r → r < V 5 0 → V 111 r + ((dgt (Rn V) x r.toNat : Nat) : Int) ≤ 9
def ahm (V : dS) (set e : Int) : Prop := ∀ p, 0 ≤ p → p < V 5 3 → ian (shr set p) 1 = 1 → hmv V p ≠ -1 ∧ hmv V p ≤ e
def lP (V : dS) (set e : Int) (x : Nat) : Prop := fitx V x ∧ ahm (VL V x) set e
def LV (V : dS) (set e v : Int) (x : Nat) : Prop := (v = -1 ∧ x = 0 ∧ ∀ n y, n ≤ 3 → y < 4 ^ Rn V → dsf (Rn V) y = n → ¬ lP V set e y) ∨ ∃ n : Nat, v = (n : Int) ∧ n ≤ 3 ∧ x < 4 ^ Rn V ∧ dsf (Rn V) x = n ∧ lP V set e x ∧ ∀ m y, y < 4 ^ Rn V → dsf (Rn V) y = m → (m < n ∨ (m = n ∧ y < x)) → ¬ lP V set e y
noncomputable def lrV (V : dS) (set e : Int) : Int × Nat := Classical.epsilon (fun q : Int × Nat => LV V set e q.1 q.2)
theorem LV_u {V : dS} {set e v : Int} {x : Nat} (h : LV V set e v x) : (lrV V set e).1 = v ∧ (lrV V set e).2 = x := by
  have h2 : LV V set e (lrV V set e).1 (lrV V set e).2 := Classical.epsilon_spec (p := fun q : Int × Nat => LV V set e q.1 q.2) ⟨(v, x), h⟩
  generalize (lrV V set e).1 = w at h2
  generalize (lrV V set e).2 = y at h2
  rcases h with ⟨a, b, c⟩ | ⟨n, a, b, c, g, k, l⟩
  · rcases h2 with ⟨a2, b2, c2⟩ | ⟨n2, a2, b2, c2, g2, k2, l2⟩
    · exact ⟨by omega, by omega⟩
    · exact absurd k2 (c n2 y b2 c2 g2)
  · rcases h2 with ⟨a2, b2, c2⟩ | ⟨n2, a2, b2, c2, g2, k2, l2⟩
    · exact absurd k (c2 n x b c g)
    · have e1 : n2 = n := by
        by_cases z : n2 < n
        · exact absurd k2 (l n2 y c2 g2 (Or.inl z))
        · by_cases z2 : n < n2
          · exact absurd k (l2 n x c g (Or.inl z2))
          · omega
      subst e1
      have e2 : y = x := by
        by_cases z : y < x
        · exact absurd k2 (l n2 y c2 g2 (Or.inr ⟨rfl, z⟩))
        · by_cases z2 : x < y
          · exact absurd k (l2 n2 x c g (Or.inr ⟨rfl, z2⟩))
          · omega
      exact ⟨by omega, e2⟩
section LURE
variable {d : Nat} {Q : dR → dS → Prop} {σ V S : dS}
theorem VL_k {x : Nat} {k : Nat} (h : k ≠ 111) : VL V x k = V k := by
  funext j
  unfold VL
  rw [if_neg (fun q => h q.1)]
theorem VL_g {x : Nat} {j : Int} (j0 : 0 ≤ j) (j1 : j < V 5 0) : VL V x 111 j = V 111 j + ((dgt (Rn V) x j.toNat : Nat) : Int) := by
  unfold VL
  rw [if_pos ⟨rfl, j0, j1⟩]
theorem VL_W (hW : VWK V) {x : Nat} (hf : fitx V x) : VWK (VL V x) := by
  have e5 : VL V x 5 = V 5 := VL_k (by decide)
  refine ⟨cityOK_congr (fun _ hk => VL_k (cty_x hk).2.1) hW.1, ?_, ?_⟩
  · have hs := hW.2.1
    unfold skyOK at hs ⊢
    obtain ⟨a0, a1, a2, a3, a4, a5⟩ := hs
    rw [show (109 + 2 : Nat) = 111 from rfl, show (109 + 4 : Nat) = 113 from rfl] at *
    rw [VL_k (k := 26) (by decide), VL_k (k := 109) (by decide), VL_k (k := 113) (by decide), e5]
    refine ⟨a0, a1, a2, a3, fun r r0 r1 => ?_, a5⟩
    rw [VL_g r0 r1]
    have := a4 r r0 r1
    have := hf r r0 r1
    omega
  · funext k j
    by_cases k1 : k = 111
    · subst k1
      rw [nrm_111, e5]
      by_cases z : 0 ≤ j ∧ j < V 5 0
      · rw [if_pos z]
      · rw [if_neg z]
        unfold VL
        rw [if_neg (fun q => z q.2)]
        have := congrFun (congrFun hW.2.2 111) j
        rw [nrm_111, if_neg z] at this
        exact this
    · have : nrm (VL V x) 109 k j = nrm V 109 k j := by
        unfold nrm
        rw [e5, if_neg k1, if_neg k1, show (109 + 4 : Nat) = 113 from rfl, VL_k (k := 113) (by decide), VL_k (k := 109) (by decide), VL_k (k := k) k1]
      rw [this, hW.2.2, VL_k k1]
/-! the class -/
theorem l81 {S0 : dS} {set e : Int} (hc : cityOK V) (hs : skyOK V 109) (hV : ∀ k, cty k → S0 k = V k) (hR : RC S0 V (NF V 109)) (h1 : ahm V set e → ∀ σ', (∀ k, ¬ rcl k → σ' k = S0 k) → Q (.inl (some (.inl 1))) σ') (h0 : ¬ ahm V set e → ∀ σ', (∀ k, ¬ rcl k → σ' k = S0 k) → Q (.inl (some (.inl 0))) σ') : ∀ (c : Nat) (p : Int) (S : dS), 0 ≤ p → p + c = V 5 3 → (∀ k, ¬ rcl k → S k = S0 k) → (∀ q, 0 ≤ q → q < p → ian (shr set q) 1 = 1 → hmv V q ≠ -1 ∧ hmv V q ≤ e) → B81_1 (d + 3) Q set e p S
  | 0, p, S, p0, hp, hF, hk => by
    have e5 : S 5 = V 5 := by rw [hF 5 (by decide), hV 5 (by decide)]
    exact b81_1 ⟨fun _ => b81_4 ⟨Or.inr rfl, h1 (fun q q0 q1 => hk q q0 (by omega)) S hF⟩, fun z => absurd (by rw [e5]; omega) z⟩
  | c + 1, p, S, p0, hp, hF, hk => by
    have hP := hc.2.2.1
    have e5 : S 5 = V 5 := by rw [hF 5 (by decide), hV 5 (by decide)]
    have hV' : ∀ k, cty k → S k = V k := fun k hk => by rw [hF k (cty_x hk).2.2.2.2.2.2.2]; exact hV k hk
    have next : ∀ S', (∀ k, ¬ rcl k → S' k = S0 k) → (ian (shr set p) 1 = 1 → hmv V p ≠ -1 ∧ hmv V p ≤ e) → B81_3 (d + 3) Q set e p S' := by
      intro S' g h
      refine b81_3 ?_
      rw [wr_id (by omega) (by omega)]
      refine l81 hc hs hV hR h1 h0 c (p + 1) S' (by omega) (by omega) g (fun q q0 q1 => ?_)
      by_cases e : q = p
      · subst e; exact h
      · exact hk q q0 (by omega)
    refine b81_1 ⟨fun z => absurd z (by rw [e5]; omega), fun _ => ⟨fun z => next S hF (fun q => absurd q z), fun z => w79 hc hs hV' (RC_f hF hR) p0 (by omega) (fun σ1 g1 _ _ => ?_)⟩⟩
    have F1 : ∀ k, ¬ rcl k → σ1 k = S0 k := fun k hk => by rw [g1 k hk]; exact hF k hk
    have z1 := Decidable.of_not_not z
    refine ⟨fun y => b81_2 ⟨Or.inl rfl, h0 (fun q => (q p p0 (by omega) z1).1 y) σ1 F1⟩, fun y => ⟨fun x => next σ1 F1 (fun _ => ⟨y, x⟩), fun x => b81_2 ⟨Or.inl rfl, h0 (fun q => x (q p p0 (by omega) z1).2) σ1 F1⟩⟩⟩
theorem w81 {K : Int → dS → Prop} {set e : Int} (hc : cityOK V) (hs : skyOK V 109) (hV : ∀ k, cty k → S k = V k) (hR : RC S V (NF V 109)) (h1 : ahm V set e → ∀ σ', (∀ k, ¬ rcl k → σ' k = S k) → K 1 σ') (h0 : ¬ ahm V set e → ∀ σ', (∀ k, ¬ rcl k → σ' k = S k) → K 0 σ') : wI (d + 5) 81 [.inr (.inr 133), .inl set, .inl e] S Q K := by
  have hP := hc.2.2.1
  exact c81 (b81_0 (l81 (S0 := S) hc hs hV hR h1 h0 (V 5 3).toNat 0 S (by omega) (by omega) (fun _ _ => rfl) (fun q q0 q1 => absurd q1 (by omega))))
theorem l131_1 {S0 : dS} {set e : Int} {x : Nat} (hW : VWK V) (hV : ∀ k, cty k → S0 k = V k) (h9 : ∀ j, 0 ≤ j → j < 4 → S0 109 j = V 109 j) (h13 : ∀ o, 0 ≤ o → o < V 5 2 → S0 113 o = V 113 o) (h150 : ∀ r, 0 ≤ r → r < V 5 0 → S0 150 r = ((dgt (Rn V) x r.toNat : Nat) : Int)) (h1 : lP V set e x → ∀ σ', (∀ k, ¬ tcl k → ¬ ncl k → ¬ rcl k → σ' k = S0 k) → Q (.inl (some (.inl 1))) σ') (h0 : ¬ lP V set e x → ∀ σ', (∀ k, ¬ tcl k → ¬ ncl k → ¬ rcl k → σ' k = S0 k) → Q (.inl (some (.inl 0))) σ') : ∀ (c : Nat) (r : Int) (S : dS), 0 ≤ r → r + c = V 5 0 → (∀ k, k ≠ 111 → S k = S0 k) → (∀ j, 0 ≤ j → j < V 5 0 → S 111 j = V 111 j + (if j < r then ((dgt (Rn V) x j.toNat : Nat) : Int) else 0)) → (∀ j, 0 ≤ j → j < r → V 111 j + ((dgt (Rn V) x j.toNat : Nat) : Int) ≤ 9) → B131_1 (d + 8) Q set e r S
  | 0, r, S, r0, hr, hF, h111, hk => by
    have e5 : S 5 = V 5 := by rw [hF 5 (by decide), hV 5 (by decide)]
    have hf : fitx V x := fun j j0 j1 => hk j j0 (by omega)
    have hS : SK S (VL V x) := by
      refine ⟨fun k hk => ?_, fun j j0 j1 => ?_, fun j j0 j1 => ?_, fun o o0 o1 => ?_⟩
      · rw [VL_k (cty_x hk).2.1, hF k (cty_x hk).2.1]; exact hV k hk
      · rw [VL_k (by decide), hF 109 (by decide)]; exact h9 j j0 j1
      · rw [VL_k (k := 5) (by decide)] at j1
        rw [VL_g j0 j1, h111 j j0 j1, if_pos (by omega)]
      · rw [VL_k (k := 5) (by decide)] at o1
        rw [VL_k (by decide), hF 113 (by decide)]; exact h13 o o0 o1
    have W2 := VL_W hW hf
    refine b131_1 ⟨fun _ => b131_3 (t68 W2 hS (fun σ1 g1 g2 => ?_)), fun z => absurd (by rw [e5]; omega) z⟩
    refine w81 W2.1 W2.2.1 (fun k hk => by rw [g1 k (cty_x hk).2.2.2.2.2.2.1]; exact hS.1 k hk) g2 (fun q σ' g => ⟨Or.inr rfl, h1 ⟨hf, q⟩ σ' (fun k q1 q2 q3 => by rw [g k q3, g1 k q2]; exact hF k (by omega))⟩) (fun q σ' g => ⟨Or.inl rfl, h0 (fun u => q u.2) σ' (fun k q1 q2 q3 => by rw [g k q3, g1 k q2]; exact hF k (by omega))⟩)
  | c + 1, r, S, r0, hr, hF, h111, hk => by
    have hR := hW.1.1
    have e5 : S 5 = V 5 := by rw [hF 5 (by decide), hV 5 (by decide)]
    have g9 := hW.2.1.2.2.2.2.1 r r0 (by omega)
    rw [show (109 + 2 : Nat) = 111 from rfl] at g9
    have d4 := dgt_lt (Rn V) x r.toNat
    have e111 := h111 r r0 (by omega)
    rw [if_neg (by omega), Int.add_zero] at e111
    have next : V 111 r + ((dgt (Rn V) x r.toNat : Nat) : Int) ≤ 9 → B131_2 (d + 8) Q set e r (V 111 r + ((dgt (Rn V) x r.toNat : Nat) : Int)) S := by
      intro q
      refine b131_2 (fun σ1 f1 => ?_)
      rw [rput_in r0 (by omega)] at f1
      rw [wr_id (by omega) (by omega)]
      refine l131_1 hW hV h9 h13 h150 h1 h0 c (r + 1) σ1 (by omega) (by omega) (fun k hk => by rw [f1, up_k hk]; exact hF k hk) (fun j j0 j1 => ?_) (fun j j0 j1 => ?_)
      · rw [f1]
        by_cases w : j = r
        · subst w; rw [up_same, if_pos (by omega)]
        · rw [up_i w, h111 j j0 j1]
          by_cases u : j < r
          · rw [if_pos u, if_pos (by omega)]
          · rw [if_neg u, if_neg (by omega)]
      · by_cases w : j = r
        · subst w; exact q
        · exact hk j j0 (by omega)
    refine b131_1 ⟨fun z => absurd z (by rw [e5]; omega), fun _ => ?_⟩
    rw [rat_in r0 (by omega), rat_in r0 (by omega), e111, hF 150 (by decide), h150 r r0 (by omega), wr_id (by omega) (by omega)]
    refine ⟨fun z => next (by omega), fun z => ⟨fun y => next y, fun y => ⟨Or.inl rfl, h0 (fun q => y (q.1 r r0 (by omega))) S (fun k q1 _ _ => hF k (by omega))⟩⟩⟩
end LURE
