/-! lure, the reference -/
section LUREM
variable {d : Nat} {Q : dR → dS → Prop} {σ V S : dS}
theorem MVs_j {σ' : dS} (hR : V 5 0 ≤ 10) (hO : V 5 2 ≤ 5) (h : ∀ j, 0 ≤ j → j < 19 → σ' 174 j = S 174 j) (q : MVs S V) : MVs σ' V := by
  obtain ⟨a0, a1, a2, a3, a4, a5⟩ := q
  exact ⟨by rw [h 0 (by decide) (by decide)]; exact a0, by rw [h 1 (by decide) (by decide)]; exact a1, by rw [h 2 (by decide) (by decide)]; exact a2, by rw [h 3 (by decide) (by decide)]; exact a3, fun r r0 r1 => by rw [h _ (by omega) (by omega)]; exact a4 r r0 r1, fun o o0 o1 => by rw [h _ (by omega) (by omega)]; exact a5 o o0 o1⟩
theorem l239 {S0 : dS} {set e : Int} (e0 : e ≤ 600) (hc : cityOK V) (hs : skyOK V 109) (hM : MN S0 V) (h1 : ahm V set e → ∀ σ', (∀ k, k ≠ 186 → σ' k = S0 k) → Q (.inl (some (.inl 1))) σ') (h0 : ¬ ahm V set e → ∀ σ', (∀ k, k ≠ 186 → σ' k = S0 k) → Q (.inl (some (.inl 0))) σ') : ∀ (c : Nat) (p : Int) (S : dS), 0 ≤ p → p + c = V 5 3 → (∀ k, k ≠ 186 → S k = S0 k) → (∀ q, 0 ≤ q → q < p → ian (shr set q) 1 = 1 → hmv V q ≠ -1 ∧ hmv V q ≤ e) → B239_1 (d + 5) Q set e p S
  | 0, p, S, p0, hp, hF, hk => by
    have hM' := MN_6 hF hM
    have e4 := hM'.1.2.2.1
    exact b239_1 ⟨fun _ => b239_3 ⟨Or.inr rfl, h1 (fun q q0 q1 => hk q q0 (by omega)) S hF⟩, fun z => absurd (by omega) z⟩
  | c + 1, p, S, p0, hp, hF, hk => by
    have hP := hc.2.2.1
    have hM' := MN_6 hF hM
    have e4 := hM'.1.2.2.1
    have next : ∀ S', (∀ k, k ≠ 186 → S' k = S0 k) → (ian (shr set p) 1 = 1 → hmv V p ≠ -1 ∧ hmv V p ≤ e) → B239_2 (d + 5) Q set e p S' := by
      intro S' g h
      refine b239_2 ?_
      rw [wr_id (by omega) (by omega)]
      refine l239 e0 hc hs hM h1 h0 c (p + 1) S' (by omega) (by omega) g (fun q q0 q1 => ?_)
      by_cases e : q = p
      · subst e; exact h
      · exact hk q q0 (by omega)
    refine b239_1 ⟨fun z => absurd z (by omega), fun _ => ⟨fun z => next S hF (fun q => absurd q z), fun z => w211 hc hs hM' p0 (by omega) (fun σ1 g1 _ _ g4 => ?_)⟩⟩
    have F1 : ∀ k, k ≠ 186 → σ1 k = S0 k := fun k hk => by rw [g1 k hk]; exact hF k hk
    have z1 := Decidable.of_not_not z
    unfold hmm
    by_cases w : hmv V p = -1
    · rw [if_pos w]
      exact ⟨fun y => absurd y (by omega), fun _ => ⟨Or.inl rfl, h0 (fun q => (q p p0 (by omega) z1).1 w) σ1 F1⟩⟩
    · rw [if_neg w]
      exact ⟨fun y => next σ1 F1 (fun _ => ⟨w, y⟩), fun y => ⟨Or.inl rfl, h0 (fun q => y (q p p0 (by omega) z1).2) σ1 F1⟩⟩
theorem w239 {K : Int → dS → Prop} {set e : Int} (e0 : e ≤ 600) (hW : VWK V) (m1 : MVc S V) (m2 : MVs S V) (h1 : ahm V set e → ∀ σ', (∀ k, ¬ nml k → k ≠ 186 → σ' k = S k) → K 1 σ') (h0 : ¬ ahm V set e → ∀ σ', (∀ k, ¬ nml k → k ≠ 186 → σ' k = S k) → K 0 σ') : wI (d + 9) 239 [.inr (.inr 153), .inl set, .inl e] S Q K := by
  have hP := hW.1.2.2.1
  refine c239 (b239_0 (w205 hW.1 hW.2.1 m1 m2 (fun σ1 g1 g2 => ?_)))
  have hM : MN σ1 V := ⟨MVc_f g1 m1, MVs_f g1 m2, g2⟩
  exact l239 (d := d + 2) (S0 := σ1) e0 hW.1 hW.2.1 hM (fun q σ' g => h1 q σ' (fun k q1 q2 => by rw [g k q2]; exact g1 k q1)) (fun q σ' g => h0 q σ' (fun k q1 q2 => by rw [g k q2]; exact g1 k q1)) (V 5 3).toNat 0 σ1 (by omega) (by omega) (fun _ _ => rfl) (fun q q0 q1 => absurd q1 (by omega))
theorem dig_eq {R x : Nat} {r : Int} (R10 : R ≤ 10) (xR : x < 4 ^ R) (r0 : 0 ≤ r) (r1 : r < (R : Int)) : ian (shr (x : Int) (wr (2 * wr (wr ((R : Int) - 1) - r)))) 3 = ((dgt R x r.toNat : Nat) : Int) := by
  have p10 : 4 ^ R ≤ 4 ^ 10 := Nat.pow_le_pow_right (by decide) R10
  have p10' : (4 : Nat) ^ 10 = 1048576 := by decide
  have e1 : wr (2 * wr (wr ((R : Int) - 1) - r)) = 2 * ((R : Int) - 1 - r) := by
    rw [wr_id (x := (R : Int) - 1) (by omega) (by omega), wr_id (x := (R : Int) - 1 - r) (by omega) (by omega), wr_id (by omega) (by omega)]
  rw [e1, shr_nat (by omega) (by omega) (by omega) (by omega)]
  have e2 : (2 * ((R : Int) - 1 - r)).toNat = 2 * (R - 1 - r.toNat) := by omega
  rw [e2, Int.pow_mul]
  have e3 : ((2 : Int) ^ 2) ^ (R - 1 - r.toNat) = ((4 ^ (R - 1 - r.toNat) : Nat) : Int) := by simp
  rw [e3, ← Int.natCast_ediv]
  have le := Nat.div_le_self x (4 ^ (R - 1 - r.toNat))
  unfold dgt
  generalize x / 4 ^ (R - 1 - r.toNat) = q at le ⊢
  rw [ian3_nat (by omega) (by omega)]
  rfl
theorem wr_n {k : Nat} (h : k < 1000000) : wr ((k : Int) + 1) = ((k + 1 : Nat) : Int) := by rw [wr_id (by omega) (by omega)]; omega
theorem ds_step {R x r n : Nat} (rR : r < R) (n3 : n ≤ 3) (h : dsf r (x / 4 ^ (R - r)) ≤ n) : wr (((dsf r (x / 4 ^ (R - r)) : Nat) : Int) + ((dgt R x r : Nat) : Int)) = ((dsf (r + 1) (x / 4 ^ (R - (r + 1))) : Nat) : Int) := by
  have dr := dgt_lt R x r
  rw [dsf_top rR, wr_id (by omega) (by omega)]; omega
theorem l240_8 {S0 : dS} {set e all : Int} {R x n : Nat} (R10 : R ≤ 10) (xR : x < 4 ^ R) (n3 : n ≤ 3) (eR : V 5 0 = (R : Int)) (g9 : ∀ r, 0 ≤ r → r < V 5 0 → 0 ≤ V 111 r ∧ V 111 r ≤ 9) (e1 : S0 153 1 = (R : Int)) (h174 : ∀ r, 0 ≤ r → r < V 5 0 → S0 174 (4 + r) = V 111 r) (hy : fitx V x → dsf R x = n → ∀ σ', (∀ k, k ≠ 190 → σ' k = S0 k) → (∀ r : Int, 0 ≤ r → r < (R : Int) → σ' 190 r = ((dgt R x r.toNat : Nat) : Int)) → B240_12 (d + 8) Q set e all (n : Int) (x : Int) σ') (hno : (¬ fitx V x ∨ dsf R x ≠ n) → ∀ σ', (∀ k, k ≠ 190 → σ' k = S0 k) → B240_18 (d + 8) Q set e all (n : Int) (x : Int) σ') : ∀ (c : Nat) (r : Nat) (x8 : Int) (S : dS), r + c = R → (∀ k, k ≠ 190 → S k = S0 k) → (∀ j : Int, 0 ≤ j → j < (r : Int) → S 190 j = ((dgt R x j.toNat : Nat) : Int)) → (x8 = 0 ∨ x8 = 1) → (x8 = 1 ↔ ∀ j : Int, 0 ≤ j → j < (r : Int) → V 111 j + ((dgt R x j.toNat : Nat) : Int) ≤ 9) → B240_8 (d + 8) Q set e all (n : Int) (x : Int) ((dsf r (x / 4 ^ (R - r)) : Nat) : Int) x8 (r : Int) S
  | c, r, x8, S, hr, hF, h190, h8, hk => by
    have e15 : S 153 1 = (R : Int) := by rw [hF 153 (by decide)]; exact e1
    have eRn : Rn V = R := by unfold Rn; rw [eR]; omega
    have le := dsf_le (R := R) (x := x) (R - r) r (by omega)
    have fitk : fitx V x ↔ ∀ j : Int, 0 ≤ j → j < (R : Int) → V 111 j + ((dgt R x j.toNat : Nat) : Int) ≤ 9 := by
      unfold fitx
      rw [eR, eRn]
    have early : n < dsf r (x / 4 ^ (R - r)) → B240_11 (d + 8) Q set e all (n : Int) (x : Int) ((dsf r (x / 4 ^ (R - r)) : Nat) : Int) x8 S := fun z => b240_11 ⟨fun _ => hno (Or.inr (by omega)) S hF, fun _ => ⟨fun w => absurd w (by omega), fun _ => hno (Or.inr (by omega)) S hF⟩⟩
    match c, hr with
    | 0, hr =>
      have er : r = R := by omega
      subst er
      rw [Nat.sub_self, Nat.pow_zero, Nat.div_one]
      refine b240_8 ⟨fun _ => b240_11 ⟨fun z => hno (Or.inl (fun q => ?_)) S hF, fun z => ⟨fun w => hy (fitk.mpr (hk.mp (h8.resolve_left z))) (by omega) S hF h190, fun w => hno (Or.inr (by omega)) S hF⟩⟩, fun z => absurd (by omega) z⟩
      have := hk.mpr (fitk.mp q)
      omega
    | c + 1, hr =>
      have rR : r < R := by omega
      have er : ((r : Int)).toNat = r := by omega
      have rM : r < 1000000 := by omega
      have gr := g9 (r : Int) (by omega) (by omega)
      have r10 : (r : Int) < 10 := by omega
      have r00 : (0 : Int) ≤ (r : Int) := by omega
      have b4 : 0 ≤ 4 + (r : Int) := by omega
      have b5 : 4 + (r : Int) < 19 := by omega
      have rV : (r : Int) < V 5 0 := by omega
      have hc1 : r + 1 + c = R := by omega
      have nz : ¬ S 153 1 ≤ (r : Int) := by omega
      have rRi : (r : Int) < (R : Int) := by omega
      have dr := dgt_lt R x r
      have jx : ∀ j : Int, j < ((r + 1 : Nat) : Int) → j ≠ (r : Int) → j < (r : Int) := fun j a b => by omega
      have jy : ∀ j : Int, j < (r : Int) → j < ((r + 1 : Nat) : Int) := fun j a => by omega
      have jz : (r : Int) < ((r + 1 : Nat) : Int) := by omega
      have es : wr (V 111 (r : Int) + ((dgt R x r : Nat) : Int)) = V 111 (r : Int) + ((dgt R x r : Nat) : Int) := wr_id (by omega) (by omega)
      have e4r : wr (4 + (r : Int)) = 4 + (r : Int) := wr_id (by clear es; omega) (by clear es; omega)
      have dg := dig_eq (r := (r : Int)) R10 xR r00 rRi
      rw [er] at dg
      refine b240_8 ⟨fun z => absurd z nz, fun _ => ⟨fun z => early (Int.ofNat_lt.mp z), fun z => ?_⟩⟩
      rw [e15]
      refine ⟨r00, r10, fun σ1 f1 => ?_⟩
      rw [dg] at f1
      have e190 : σ1 190 (r : Int) = ((dgt R x r : Nat) : Int) := by rw [f1, up_same]
      have e174 : σ1 174 (4 + (r : Int)) = V 111 (r : Int) := by rw [f1, up_k (by decide), hF 174 (by decide)]; exact h174 _ r00 rV
      rw [e190, ds_step rR n3 (Nat.le_of_not_lt (fun q => z (Int.ofNat_lt.mpr q))), e4r, e174]
      have go : ∀ v, (v = 0 ∨ v = 1) → (v = 1 ↔ ∀ j : Int, 0 ≤ j → j < ((r + 1 : Nat) : Int) → V 111 j + ((dgt R x j.toNat : Nat) : Int) ≤ 9) → B240_10 (d + 8) Q set e all (n : Int) (x : Int) ((dsf (r + 1) (x / 4 ^ (R - (r + 1))) : Nat) : Int) (r : Int) v σ1 := by
        intro v hv hv2
        refine b240_10 ?_
        rw [wr_n rM]
        refine l240_8 R10 xR n3 eR g9 e1 h174 hy hno c (r + 1) v σ1 hc1 (fun k hk => by rw [f1, up_k hk]; exact hF k hk) (fun j j0 j1 => ?_) hv hv2
        rw [f1]
        by_cases w : j = (r : Int)
        · rw [w, up_same, er]
        · rw [up_i w]; exact h190 j j0 (jx j j1 w)
      have ext : (∀ j : Int, 0 ≤ j → j < ((r + 1 : Nat) : Int) → V 111 j + ((dgt R x j.toNat : Nat) : Int) ≤ 9) ↔ (∀ j : Int, 0 ≤ j → j < (r : Int) → V 111 j + ((dgt R x j.toNat : Nat) : Int) ≤ 9) ∧ V 111 (r : Int) + ((dgt R x r : Nat) : Int) ≤ 9 := by
        constructor
        · intro h
          refine ⟨fun j j0 j1 => h j j0 (jy j j1), ?_⟩
          have := h (r : Int) r00 jz
          rw [er] at this
          exact this
        · rintro ⟨h, h2⟩ j j0 j1
          by_cases w : j = (r : Int)
          · rw [w, er]; exact h2
          · exact h j j0 (jx j j1 w)
      rw [es]
      refine ⟨r00, r10, fun y => b240_9 (go 0 (Or.inl rfl) ⟨fun q => absurd q (by decide), fun q => ?_⟩), fun y => ⟨b4, b5, r00, r10, fun w => b240_9 (go 0 (Or.inl rfl) ⟨fun q => absurd q (by decide), fun q => ?_⟩), fun w => go 1 (Or.inr rfl) ⟨fun _ => ext.mpr ⟨hk.mp (h8.resolve_left y), Int.not_lt.mp w⟩, fun _ => rfl⟩⟩⟩
      · have := hk.mpr (ext.mp q).1
        rw [y] at this
        exact absurd this (by decide)
      · exact absurd (ext.mp q).2 (Int.not_le.mpr w)
theorem l240_13 {S0 : dS} {set e all : Int} {R n x : Nat} {xi : Int} (R10 : R ≤ 10) (e1 : S0 153 1 = (R : Int)) (f g : Int → Int) (hf : ∀ r, 0 ≤ r → r < (R : Int) → 0 ≤ f r ∧ f r ≤ 1000) (hg : ∀ r, 0 ≤ r → r < (R : Int) → 0 ≤ g r ∧ g r ≤ 1000) (h190 : ∀ r, 0 ≤ r → r < (R : Int) → S0 190 r = g r) (h174 : ∀ r, 0 ≤ r → r < (R : Int) → S0 174 (4 + r) = f r) (hq : ∀ σ', (∀ k, k ≠ 174 → σ' k = S0 k) → (∀ r, 0 ≤ r → r < (R : Int) → σ' 174 (4 + r) = f r + g r) → (∀ j, ¬ (4 ≤ j ∧ j < 4 + (R : Int)) → σ' 174 j = S0 174 j) → B240_14 (d + 8) Q set e all (n : Int) xi σ') : ∀ (c : Nat) (r : Int) (S : dS), 0 ≤ r → r + c = (R : Int) → (∀ k, k ≠ 174 → S k = S0 k) → (∀ j, 0 ≤ j → j < (R : Int) → S 174 (4 + j) = f j + (if j < r then g j else 0)) → (∀ j, ¬ (4 ≤ j ∧ j < 4 + (R : Int)) → S 174 j = S0 174 j) → B240_13 (d + 8) Q set e all (n : Int) xi r S
  | 0, r, S, r0, hr, hF, hB, hO => by
    have e15 : S 153 1 = (R : Int) := by rw [hF 153 (by decide)]; exact e1
    exact b240_13 ⟨fun _ => hq S hF (fun j j0 j1 => by rw [hB j j0 j1, if_pos (by omega)]) hO, fun z => absurd (by omega) z⟩
  | c + 1, r, S, r0, hr, hF, hB, hO => by
    have e15 : S 153 1 = (R : Int) := by rw [hF 153 (by decide)]; exact e1
    have rR : r < (R : Int) := by omega
    have eb := hB r r0 rR
    rw [if_neg (by omega), Int.add_zero] at eb
    have e190 : S 190 r = g r := by rw [hF 190 (by decide)]; exact h190 r r0 rR
    have hf1 := hf r r0 rR
    have hg1 := hg r r0 rR
    refine b240_13 ⟨fun z => absurd z (by omega), fun _ => ?_⟩
    rw [wr_id (x := 4 + r) (by omega) (by omega), eb, e190, wr_id (x := f r + g r) (by omega) (by omega), wr_id (x := r + 1) (by omega) (by omega)]
    refine ⟨by omega, by omega, by omega, by omega, by omega, by omega, fun σ1 f1 => ?_⟩
    refine l240_13 (x := x) R10 e1 f g hf hg h190 h174 hq c (r + 1) σ1 (by omega) (by omega) (fun k hk => by rw [f1, up_k hk]; exact hF k hk) (fun j j0 j1 => ?_) (fun j hj => ?_)
    · rw [f1]
      by_cases w : j = r
      · subst w; rw [up_same, if_pos (by omega)]
      · rw [up_i (by omega), hB j j0 j1]
        by_cases u : j < r
        · rw [if_pos u, if_pos (by omega)]
        · rw [if_neg u, if_neg (by omega)]
    · rw [f1, up_i (by omega)]; exact hO j hj
theorem l240_15 {S0 : dS} {set e all x9 : Int} {R n x : Nat} {xi : Int} (R10 : R ≤ 10) (e1 : S0 153 1 = (R : Int)) (f g : Int → Int) (hf : ∀ r, 0 ≤ r → r < (R : Int) → 0 ≤ f r ∧ f r ≤ 1000) (hg : ∀ r, 0 ≤ r → r < (R : Int) → 0 ≤ g r ∧ g r ≤ 1000) (h190 : ∀ r, 0 ≤ r → r < (R : Int) → S0 190 r = g r) (h174 : ∀ r, 0 ≤ r → r < (R : Int) → S0 174 (4 + r) = f r + g r) (hq : ∀ σ', (∀ k, k ≠ 174 → σ' k = S0 k) → (∀ r, 0 ≤ r → r < (R : Int) → σ' 174 (4 + r) = f r) → (∀ j, ¬ (4 ≤ j ∧ j < 4 + (R : Int)) → σ' 174 j = S0 174 j) → B240_16 (d + 8) Q set e all (n : Int) xi x9 σ') : ∀ (c : Nat) (r : Int) (S : dS), 0 ≤ r → r + c = (R : Int) → (∀ k, k ≠ 174 → S k = S0 k) → (∀ j, 0 ≤ j → j < (R : Int) → S 174 (4 + j) = f j + (if j < r then 0 else g j)) → (∀ j, ¬ (4 ≤ j ∧ j < 4 + (R : Int)) → S 174 j = S0 174 j) → B240_15 (d + 8) Q set e all (n : Int) xi x9 r S
  | 0, r, S, r0, hr, hF, hB, hO => by
    have e15 : S 153 1 = (R : Int) := by rw [hF 153 (by decide)]; exact e1
    exact b240_15 ⟨fun _ => hq S hF (fun j j0 j1 => by rw [hB j j0 j1, if_pos (by omega), Int.add_zero]) hO, fun z => absurd (by omega) z⟩
  | c + 1, r, S, r0, hr, hF, hB, hO => by
    have e15 : S 153 1 = (R : Int) := by rw [hF 153 (by decide)]; exact e1
    have rR : r < (R : Int) := by omega
    have eb := hB r r0 rR
    rw [if_neg (by omega)] at eb
    have e190 : S 190 r = g r := by rw [hF 190 (by decide)]; exact h190 r r0 rR
    have hf1 := hf r r0 rR
    have hg1 := hg r r0 rR
    have es : f r + g r - g r = f r := by omega
    refine b240_15 ⟨fun z => absurd z (by omega), fun _ => ?_⟩
    rw [wr_id (x := 4 + r) (by omega) (by omega), eb, e190, es, wr_id (x := f r) (by omega) (by omega), wr_id (x := r + 1) (by omega) (by omega)]
    refine ⟨by omega, by omega, by omega, by omega, by omega, by omega, fun σ1 f1 => ?_⟩
    refine l240_15 (x := x) R10 e1 f g hf hg h190 h174 hq c (r + 1) σ1 (by omega) (by omega) (fun k hk => by rw [f1, up_k hk]; exact hF k hk) (fun j j0 j1 => ?_) (fun j hj => ?_)
    · rw [f1]
      by_cases w : j = r
      · subst w; rw [up_same, if_pos (by omega), Int.add_zero]
      · rw [up_i (by omega), hB j j0 j1]
        by_cases u : j < r
        · rw [if_pos u, if_pos (by omega)]
        · rw [if_neg u, if_neg (by omega)]
    · rw [f1, up_i (by omega)]; exact hO j hj
/-- what the reference's search leaves -/
def lfr (S0 S : dS) : Prop := (∀ k, k ≠ 190 → k ≠ 174 → ¬ nml k → k ≠ 186 → S k = S0 k) ∧ ∀ j, S 174 j = S0 174 j
theorem lfr_174 {S0 S : dS} (h : lfr S0 S) : S 174 = S0 174 := funext h.2
theorem l240_7 {S0 : dS} {set e : Int} {R n : Nat} (e600 : e ≤ 600) (hW : VWK V) (eR : V 5 0 = (R : Int)) (n3 : n ≤ 3) (m1 : MVc S0 V) (m2 : MVs S0 V) (hm : ∀ m y, y < 4 ^ R → dsf R y = m → m < n → ¬ lP V set e y) (hy : ∀ x σ', lfr S0 σ' → (∀ r : Int, 0 ≤ r → r < (R : Int) → σ' 190 r = ((dgt R x r.toNat : Nat) : Int)) → LV V set e (n : Int) x → B240_17 (d + 8) Q (n : Int) σ') (hno : (∀ y, y < 4 ^ R → dsf R y = n → ¬ lP V set e y) → ∀ σ', lfr S0 σ' → B240_19 (d + 8) Q set e ((4 ^ R : Nat) : Int) (n : Int) σ') : ∀ (c x : Nat) (S : dS), x + c = 4 ^ R → lfr S0 S → (∀ y, y < x → dsf R y = n → ¬ lP V set e y) → B240_7 (d + 8) Q set e ((4 ^ R : Nat) : Int) (n : Int) (x : Int) S
  | 0, x, S, hx, hF, hl => b240_7 ⟨fun _ => hno (fun y yR => hl y (by omega)) S hF, fun z => absurd (by omega) z⟩
  | c + 1, x, S, hx, hF, hl => by
    have hRo := hW.1.1
    have R10 : R ≤ 10 := by omega
    have xR : x < 4 ^ R := by omega
    have eRn : Rn V = R := by unfold Rn; rw [eR]; omega
    have p10 : 4 ^ R ≤ 4 ^ 10 := Nat.pow_le_pow_right (by decide) R10
    have p10' : (4 : Nat) ^ 10 = 1048576 := by decide
    have ew : wr ((x : Int) + 1) = ((x + 1 : Nat) : Int) := by rw [wr_id (by omega) (by omega)]; omega
    have hc1 : x + 1 + c = 4 ^ R := by omega
    have zx : ¬ ((4 ^ R : Nat) : Int) ≤ (x : Int) := by omega
    have g9 : ∀ r, 0 ≤ r → r < V 5 0 → 0 ≤ V 111 r ∧ V 111 r ≤ 9 := hW.2.1.2.2.2.2.1
    have e1 : S 153 1 = (R : Int) := by rw [hF.1 153 (by decide) (by decide) (by decide) (by decide), m1.1]; exact eR
    have h174 : ∀ r, 0 ≤ r → r < V 5 0 → S 174 (4 + r) = V 111 r := fun r r0 r1 => by rw [hF.2]; exact m2.2.2.2.2.1 r r0 r1
    have next : ¬ (dsf R x = n ∧ lP V set e x) → ∀ σ', lfr S0 σ' → B240_18 (d + 8) Q set e ((4 ^ R : Nat) : Int) (n : Int) (x : Int) σ' := by
      intro z σ' g
      refine b240_18 ?_
      rw [ew]
      refine l240_7 e600 hW eR n3 m1 m2 hm hy hno c (x + 1) σ' hc1 g (fun y y1 yn => ?_)
      by_cases w : y = x
      · subst w; exact fun q => z ⟨yn, q⟩
      · exact hl y (Nat.lt_of_le_of_ne (Nat.lt_succ_iff.mp y1) w) yn
    refine b240_7 ⟨fun z => absurd z zx, fun _ => ?_⟩
    have h8 := l240_8 (d := d) (Q := Q) (V := V) (S0 := S) (set := set) (e := e) (all := ((4 ^ R : Nat) : Int)) (R := R) (x := x) (n := n) R10 xR n3 eR g9 e1 h174 (fun hfit hn σ1 p1 p2 => b240_12 ?_) (fun hbad σ1 p1 => next (fun q => hbad.elim (fun w => w q.2.1) (fun w => w q.1)) σ1 ⟨fun k q1 q2 q3 q4 => by rw [p1 k q1]; exact hF.1 k q1 q2 q3 q4, fun j => by rw [p1 174 (by decide)]; exact hF.2 j⟩) R 0 1 S (by omega) (fun _ _ => rfl) (fun j j0 j1 => absurd j1 (by omega)) (Or.inr rfl) ⟨fun _ j j0 j1 => absurd j1 (by omega), fun _ => rfl⟩
    · exact h8
    · have dlt : ∀ r, dgt R x r < 4 := dgt_lt R x
      refine l240_13 (x := x) (S0 := σ1) (R := R) R10 (by rw [p1 153 (by decide)]; exact e1) (V 111) (fun r => ((dgt R x r.toNat : Nat) : Int)) (fun r r0 r1 => by have := g9 r r0 (by omega); omega) (fun r r0 r1 => by have := dlt r.toNat; show (0 : Int) ≤ ((dgt R x r.toNat : Nat) : Int) ∧ ((dgt R x r.toNat : Nat) : Int) ≤ 1000; omega) p2 (fun r r0 r1 => by rw [p1 174 (by decide)]; exact h174 r r0 (by omega)) (fun σ2 q1 q2 q3 => b240_14 ?_) R 0 σ1 (by omega) (by omega) (fun _ _ => rfl) (fun j j0 j1 => by rw [if_neg (by omega), Int.add_zero, p1 174 (by decide)]; exact h174 j j0 (by omega)) (fun _ _ => rfl)
      have F2 : ∀ k, k ≠ 190 → k ≠ 174 → ¬ nml k → k ≠ 186 → σ2 k = S0 k := fun k w1 w2 w3 w4 => by rw [q1 k w2, p1 k w1]; exact hF.1 k w1 w2 w3 w4
      have mc2 : MVc σ2 (VL V x) := MVc_V (fun k hk => VL_k (cty_x hk).2.1) (MVc_k (fun k hk => F2 k (by omega) (by omega) (by omega) (by omega)) m1)
      have hO := hW.1.2.1
      have o174 : ∀ j, ¬ (4 ≤ j ∧ j < 4 + (R : Int)) → σ2 174 j = S0 174 j := fun j hj => by rw [q3 j hj, p1 174 (by decide)]; exact hF.2 j
      have ms2 : MVs σ2 (VL V x) := by
        refine ⟨?_, ?_, ?_, ?_, fun r r0 r1 => ?_, fun o o0 o1 => ?_⟩
        · rw [o174 0 (by omega), VL_k (by decide)]; exact m2.1
        · rw [o174 1 (by omega), VL_k (by decide)]; exact m2.2.1
        · rw [o174 2 (by omega), VL_k (by decide)]; exact m2.2.2.1
        · rw [o174 3 (by omega), VL_k (by decide)]; exact m2.2.2.2.1
        · rw [VL_k (k := 5) (by decide)] at r1
          rw [VL_g r0 r1, q2 r r0 (by omega), eRn]
        · rw [VL_k (k := 5) (by decide)] at o1
          rw [VL_k (by decide), o174 _ (by omega)]; exact m2.2.2.2.2.2 o o0 o1
      have back : ∀ v σ3, (∀ k, ¬ nml k → k ≠ 186 → σ3 k = σ2 k) → (∀ σ4, lfr S0 σ4 → (∀ r : Int, 0 ≤ r → r < (R : Int) → σ4 190 r = ((dgt R x r.toNat : Nat) : Int)) → B240_16 (d + 8) Q set e ((4 ^ R : Nat) : Int) (n : Int) (x : Int) v σ4) → B240_15 (d + 8) Q set e ((4 ^ R : Nat) : Int) (n : Int) (x : Int) v 0 σ3 := by
        intro v σ3 g3 h
        refine l240_15 (x := x) (S0 := σ3) (R := R) R10 (by rw [g3 153 (by decide) (by decide), q1 153 (by decide), p1 153 (by decide)]; exact e1) (V 111) (fun r => ((dgt R x r.toNat : Nat) : Int)) (fun r r0 r1 => by have := g9 r r0 (by omega); omega) (fun r r0 r1 => by have := dlt r.toNat; show (0 : Int) ≤ ((dgt R x r.toNat : Nat) : Int) ∧ ((dgt R x r.toNat : Nat) : Int) ≤ 1000; omega) (fun r r0 r1 => by rw [g3 190 (by decide) (by decide), q1 190 (by decide)]; exact p2 r r0 r1) (fun r r0 r1 => by rw [g3 174 (by decide) (by decide)]; exact q2 r r0 r1) (fun σ4 w1 w2 w3 => h σ4 ⟨fun k u1 u2 u3 u4 => by rw [w1 k u2, g3 k u3 u4]; exact F2 k u1 u2 u3 u4, fun j => ?_⟩ (fun r r0 r1 => by rw [w1 190 (by decide), g3 190 (by decide) (by decide), q1 190 (by decide)]; exact p2 r r0 r1)) R 0 σ3 (by omega) (by omega) (fun _ _ => rfl) (fun j j0 j1 => by rw [if_neg (by omega), g3 174 (by decide) (by decide)]; exact q2 j j0 j1) (fun _ _ => rfl)
        by_cases u : 4 ≤ j ∧ j < 4 + (R : Int)
        · have e := w2 (j - 4) (by omega) (by omega)
          rw [show 4 + (j - 4) = j by omega] at e
          have e2 := m2.2.2.2.2.1 (j - 4) (by omega) (by omega)
          rw [show 4 + (j - 4) = j by omega] at e2
          rw [e, e2]
        · rw [w3 j u, g3 174 (by decide) (by decide)]; exact o174 j u
      refine w239 (V := VL V x) e600 (VL_W hW hfit) mc2 ms2 (fun q σ3 g3 => back 1 σ3 g3 (fun σ4 u1 u2 => b240_16 ⟨fun _ => ?_, fun w => absurd (by decide) w⟩)) (fun q σ3 g3 => back 0 σ3 g3 (fun σ4 u1 u2 => b240_16 ⟨fun w => absurd rfl w, fun _ => next (fun w => q w.2.2) σ4 u1⟩))
      refine hy x σ4 u1 u2 (Or.inr ⟨n, rfl, n3, by rw [eRn]; exact xR, by rw [eRn]; exact hn, ⟨hfit, q⟩, fun m y yR ym h => ?_⟩)
      rw [eRn] at yR ym
      rcases h with w | ⟨w, w2⟩
      · exact hm m y yR ym w
      · exact hl y w2 (ym.trans w)
theorem l240_6 {S0 : dS} {set e : Int} {R : Nat} (e600 : e ≤ 600) (hW : VWK V) (eR : V 5 0 = (R : Int)) (m1 : MVc S0 V) (m2 : MVs S0 V) (hy : ∀ (n : Nat) x σ', n ≤ 3 → lfr S0 σ' → (∀ r : Int, 0 ≤ r → r < (R : Int) → σ' 190 r = ((dgt R x r.toNat : Nat) : Int)) → LV V set e (n : Int) x → B240_17 (d + 8) Q (n : Int) σ') (hno : LV V set e (-1) 0 → ∀ σ', lfr S0 σ' → Q (.inl (some (.inl (-1)))) σ') : ∀ (c n : Nat) (S : dS), n + c = 4 → lfr S0 S → (∀ m y, y < 4 ^ R → dsf R y = m → m < n → ¬ lP V set e y) → B240_6 (d + 8) Q set e ((4 ^ R : Nat) : Int) (n : Int) S
  | c, n, S, hn, hF, hm => by
    have hRo := hW.1.1
    have e1 : S 153 1 = (R : Int) := by rw [hF.1 153 (by decide) (by decide) (by decide) (by decide), m1.1]; exact eR
    have eRn : Rn V = R := by unfold Rn; rw [eR]; omega
    have none_ : (∀ m y, m ≤ 3 → y < 4 ^ R → dsf R y = m → ¬ lP V set e y) → B240_20 (d + 8) Q S := fun h => b240_20 (hno (Or.inl ⟨rfl, rfl, fun m y m3 yR ym => by rw [eRn] at yR ym; exact h m y m3 yR ym⟩) S hF)
    refine b240_6 ⟨fun z => none_ (fun m y m3 yR ym => hm m y yR ym (by omega)), fun z => ⟨fun y => none_ (fun m y' m3 yR ym => ?_), fun y => ?_⟩⟩
    · rw [e1, wr_id (by omega) (by omega)] at y
      have R0 : R = 0 := by omega
      subst R0
      have : dsf 0 y' = 0 := rfl
      exact hm m y' yR ym (by omega)
    · match c, hn with
      | 0, hn => exact absurd hn (by omega)
      | c + 1, hn =>
        have hc1 : n + 1 + c = 4 := by omega
        have n3 : n ≤ 3 := by omega
        have ew2 : wr ((n : Int) + 1) = ((n + 1 : Nat) : Int) := by rw [wr_id (by omega) (by omega)]; omega
        refine l240_7 (S0 := S0) e600 hW eR n3 m1 m2 hm (fun x σ' => hy n x σ' n3) (fun h σ' g => b240_19 ?_) (4 ^ R) 0 S (Nat.zero_add _) hF (fun y y1 _ => absurd y1 (Nat.not_lt_zero _))
        rw [ew2]
        refine l240_6 e600 hW eR m1 m2 hy hno c (n + 1) σ' hc1 g (fun m y' yR ym m1 => ?_)
        by_cases w : m = n
        · exact h y' yR (ym.trans w)
        · exact hm m y' yR ym (Nat.lt_of_le_of_ne (Nat.lt_succ_iff.mp m1) w)
/-- what class calls may have changed, that the reference's lure doesn't see -/
def hLw (σ S : dS) : Prop := (∀ k, ¬ scr k → k ≠ 153 → k ≠ 174 → k ≠ 148 → k ≠ 0 → S k = σ k) ∧ (∀ j, j ≠ 0 → S 153 j = σ 153 j) ∧ (∀ j, 0 ≤ j → j < 19 → S 174 j = σ 174 j)
theorem m_lure {K : Int → dS → Prop} {set m : Int} (hI : INV σ) (hH : hLw σ S) (h1 : luOK σ set m → (lrV (nrm σ 70) set (min m (σ 5 4))).1 = -1 → ∀ σ', FRM S σ' → σ' 153 0 = 0 → K (-1) σ') (h2 : luOK σ set m → (0 ≤ (lrV (nrm σ 70) set (min m (σ 5 4))).1 ∧ (lrV (nrm σ 70) set (min m (σ 5 4))).1 ≤ 3) → ∀ σ', (∀ k, ¬ scr k → k ≠ 153 → k ≠ 174 → k ≠ 189 → σ' k = S k) → (∀ j, j ≠ 0 → j ≠ 65 → σ' 153 j = S 153 j) → (∀ j, 0 ≤ j → j < 19 → σ' 174 j = S 174 j) → σ' 153 65 = 1 → (∀ r : Int, 0 ≤ r → r < σ 5 0 → σ' 189 r = ((dgt (Rn (nrm σ 70)) (lrV (nrm σ 70) set (min m (σ 5 4))).2 r.toNat : Nat) : Int)) → σ' 153 0 = 0 → K (lrV (nrm σ 70) set (min m (σ 5 4))).1 σ') (h3 : ¬ luOK σ set m → ∀ σ', FRM S σ' → σ' 153 0 = 1 → K 0 σ') : wI (d + 15) 240 [.inr (.inr 153), .inl set, .inl m] S Q K := by
  have hW := VW_now hI
  have hc := INV_c hI
  have hP := hc.2.2.1
  have hRo := hc.1
  have hO := hc.2.1
  have hD := hc.2.2.2.1
  have e5 : nrm σ 70 5 = σ 5 := nrm_c (k := 5) (by decide)
  have eR : nrm σ 70 5 0 = ((Rn (nrm σ 70) : Nat) : Int) := by unfold Rn; rw [e5]; omega
  have sp : ∀ k, 154 ≤ k → k ≤ 160 → S k = σ k := fun k k1 k2 => hH.1 k (by omega) (by omega) (by omega) (by omega) (by omega)
  have mcS : MVc S (nrm σ 70) := MVc_153 hH.2.1 sp (INV_mc hI)
  have msS : MVs S (nrm σ 70) := MVs_j (by rw [e5]; omega) (by rw [e5]; omega) hH.2.2 (INV_ms hI)
  have R10 : Rn (nrm σ 70) ≤ 10 := by have h := eR; rw [e5] at h; omega
  refine c240 (b240_0 ?_)
  intro σ1 f1
  have F1 : ∀ k, k ≠ 153 → σ1 k = S k := fun k hk => by rw [f1, up_k hk]
  have F153 : ∀ j, j ≠ 0 → σ1 153 j = S 153 j := fun j hj => by rw [f1, up_i hj]
  have hT : σ1 153 0 = 0 := by rw [f1, up_same]
  have mc1 : MVc σ1 (nrm σ 70) := MVc_153 F153 (fun k k1 k2 => F1 k (by omega)) mcS
  have ms1 : MVs σ1 (nrm σ 70) := MVs_k (F1 174 (by decide)) msS
  have e4 : σ1 153 4 = σ 5 3 := by rw [mc1.2.2.1, e5]
  have e6 : σ1 153 6 = σ 5 4 := by rw [mc1.2.2.2.2.1, e5]
  have e1 : σ1 153 1 = ((Rn (nrm σ 70) : Nat) : Int) := by rw [mc1.1, eR]
  have FS : FRM S σ1 := by rw [f1]; exact FRM_153
  have bad : ¬ luOK σ set m → B240_1 (d + 13) (fun res σ1 => match res with | .inl (some (.inl v)) => K v σ1 | .inl _ => False | .inr e => Q (.inr e) σ1) set m σ1 := fun z => b240_1 (b240_2 (w158 hT (by decide) (fun q => absurd rfl q) (fun _ => ⟨fun q => absurd rfl q, fun _ => h3 z _ (FRM_tr FS FRM_153) (up_same _ _ _ _)⟩)))
  rw [e4]
  refine ⟨fun z => bad (fun q => by have := q.1.1; omega), fun s0 => ⟨fun z => bad (fun q => by have := q.1.2; omega), fun z => ⟨fun y => bad (fun q => by have := q.2; omega), fun y => b240_2 (w158 hT (by decide) (fun _ => ⟨fun _ => b240_3 ?_, fun q => absurd (by decide) q⟩) (fun q => absurd q (by decide)))⟩⟩⟩
  have ok : luOK σ set m := ⟨⟨by omega, by omega⟩, by omega⟩
  have eall : shl 1 (wr (2 * ((Rn (nrm σ 70) : Nat) : Int))) = ((4 ^ Rn (nrm σ 70) : Nat) : Int) := by
    rw [wr_id (by omega) (by omega), shl1 (by omega) (by omega), show (2 * ((Rn (nrm σ 70) : Nat) : Int)).toNat = 2 * Rn (nrm σ 70) by omega, Int.pow_mul]
    simp
  have go : ∀ en, en = min m (σ 5 4) → B240_5 (d + 13) (fun res σ1 => match res with | .inl (some (.inl v)) => K v σ1 | .inl _ => False | .inr e => Q (.inr e) σ1) set en σ1 := by
    intro en hen
    refine b240_5 ?_
    rw [e1, eall]
    have p0 : 0 < 4 ^ Rn (nrm σ 70) := Nat.pow_pos (by decide)
    refine l240_6 (d := d + 5) (V := nrm σ 70) (S0 := σ1) (set := set) (e := en) (by omega) hW eR mc1 ms1 (fun n x σ' n3 g1 g2 hL => b240_17 (w161 (n := 10) (n2 := 10) (by decide) (by decide) (by decide) (by decide) ⟨Or.inr rfl, fun σ3 f3 => ?_⟩)) (fun hL σ' g1 => ?_) 4 0 σ1 (by decide) ⟨fun _ _ _ _ _ => rfl, fun _ => rfl⟩ (fun m' y' _ _ h => absurd h (Nat.not_lt_zero _))
    · have u := LV_u hL
      rw [hen] at u
      have n3' : (n : Int) ≤ 3 := by omega
      have hh := h2 ok (by rw [u.1]; omega) σ3 (fun k q1 q2 q3 q4 => ?_) (fun j hj hj2 => ?_) (fun j j0 j1 => ?_) ?_ (fun r r0 r1 => ?_) ?_
      · rw [u.1] at hh; exact hh
      · rw [f3, up_k q2, rcopy_k q4, g1.1 k (fun z => q1 (Or.inr (by omega))) q3 (fun z => q1 (Or.inr (by omega))) (fun z => q1 (Or.inr (by omega)))]; exact F1 k q2
      · rw [f3, up_i hj2, rcopy_k (by decide), g1.1 153 (by decide) (by decide) (by decide) (by decide)]; exact F153 j hj
      · rw [f3, up_k (by decide), rcopy_k (by decide), g1.2 j]; rw [F1 174 (by decide)]
      · rw [f3, up_same]
      · rw [f3, up_k (by decide), rcopy_in r0 (by omega) (by omega), u.2]
        exact g2 r r0 (by rw [← eR, e5]; exact r1)
      · rw [f3, up_i (by decide), rcopy_k (by decide), g1.1 153 (by decide) (by decide) (by decide) (by decide)]; exact hT
    · have u := LV_u hL
      rw [hen] at u
      refine h1 ok u.1 σ' ⟨fun k q1 q2 q3 => ?_, fun j hj => ?_, fun j j0 j1 => ?_⟩ ?_
      · rw [g1.1 k (fun z => q1 (Or.inr (by omega))) q3 (fun z => q1 (Or.inr (by omega))) (fun z => q1 (Or.inr (by omega)))]; exact F1 k q2
      · rw [g1.1 153 (by decide) (by decide) (by decide) (by decide)]; exact F153 j hj
      · rw [g1.2 j]; rw [F1 174 (by decide)]
      · rw [g1.1 153 (by decide) (by decide) (by decide) (by decide)]; exact hT
  rw [e6]
  exact ⟨fun w => b240_4 (by rw [e6]; exact go _ (by omega)), fun w => go _ (by omega)⟩
end LUREM
