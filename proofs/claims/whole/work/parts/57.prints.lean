/-! PRINTS IN THE SNOW: fits, watch -/
def sees (σ V : dS) : Prop := ∀ k, 0 ≤ k → k < σ 82 0 → whr V (σ 84 k) (σ 86 k) = σ 88 k
def fvw (V : dS) (b : Int) : dS := up V 109 0 (if b = 4 then -1 else b)
def fq (σ V : dS) (b : Int) : Prop := (b < σ 26 0 ∨ b = 4) ∧ sees σ (fvw V b)
noncomputable def fqv (σ V : dS) (b : Int) : Int := @ite Int (fq σ V b) (Classical.propDecidable _) 1 0
theorem fqv_y {σ V : dS} {b : Int} (h : fq σ V b) : fqv σ V b = 1 := by unfold fqv; exact if_pos h
theorem fqv_n {σ V : dS} {b : Int} (h : ¬ fq σ V b) : fqv σ V b = 0 := by unfold fqv; exact if_neg h
theorem fqv_r (σ V : dS) (b : Int) : fqv σ V b = 0 ∨ fqv σ V b = 1 := by
  by_cases h : fq σ V b
  · exact Or.inr (fqv_y h)
  · exact Or.inl (fqv_n h)
noncomputable def fts (σ V : dS) : Nat → Int
  | 0 => 0
  | k + 1 => ior (fts σ V k) (if fqv σ V (k : Int) = 1 then shl 1 (k : Int) else 0)
theorem fts_w (σ V : dS) (k : Nat) : wr (fts σ V k) = fts σ V k := by
  cases k with
  | zero => rfl
  | succ m => rw [fts]; exact wr_eq (ti_R _)
theorem fts_s (σ V : dS) (k : Nat) : fts σ V (k + 1) = if fqv σ V (k : Int) = 1 then ior (fts σ V k) (shl 1 (k : Int)) else fts σ V k := by
  rw [fts]
  by_cases z : fqv σ V (k : Int) = 1
  · rw [if_pos z, if_pos z]
  · rw [if_neg z, if_neg z, ior_0, fts_w]
theorem fts_b (σ V : dS) {r : Int} (r0 : 0 ≤ r) (r1 : r < 32) : ∀ k : Nat, k ≤ 5 → ian (shr (fts σ V k) r) 1 = if r < (k : Int) then fqv σ V r else 0
  | 0, _ => by
    rw [if_neg (by omega)]
    exact tb_0 r0 r1
  | k + 1, h => by
    have ih := fts_b σ V r0 r1 k (by omega)
    rw [fts_s]
    by_cases z : fqv σ V (k : Int) = 1
    · rw [if_pos z, tb_ior r0 r1 (by omega) (by omega)]
      by_cases e : r = (k : Int)
      · rw [if_pos e, if_pos (by omega), e, z]
      · rw [if_neg e, ih]
        by_cases q : r < (k : Int)
        · rw [if_pos q, if_pos (by omega)]
        · rw [if_neg q, if_neg (by omega)]
    · rw [if_neg z, ih]
      by_cases e : r = (k : Int)
      · rw [if_neg (by omega), if_pos (by omega), e]
        exact ((fqv_r σ V (k : Int)).resolve_right z).symm
      · by_cases q : r < (k : Int)
        · rw [if_pos q, if_pos (by omega)]
        · rw [if_neg q, if_neg (by omega)]
noncomputable def nft (σ V : dS) : Nat → Int
  | 0 => 0
  | k + 1 => nft σ V k + fqv σ V (k : Int)
theorem nft_r (σ V : dS) : ∀ k : Nat, 0 ≤ nft σ V k ∧ nft σ V k ≤ k
  | 0 => by simp [nft]
  | k + 1 => by
    have := nft_r σ V k
    have := fqv_r σ V (k : Int)
    rw [nft]; omega
theorem ior_lt {x v : Int} : ∀ n : Fin 32, ∀ v : Fin 5, 0 ≤ ior ((n.val : Nat) : Int) (shl 1 ((v.val : Nat) : Int)) ∧ ior ((n.val : Nat) : Int) (shl 1 ((v.val : Nat) : Int)) < 32 := by decide
theorem fts_r (σ V : dS) : ∀ k : Nat, k ≤ 5 → 0 ≤ fts σ V k ∧ fts σ V k < 32
  | 0, _ => by simp [fts]
  | k + 1, h => by
    have ih := fts_r σ V k (by omega)
    rw [fts_s]
    by_cases z : fqv σ V (k : Int) = 1
    · rw [if_pos z]
      have := ior_lt (x := 0) (v := 0) ⟨(fts σ V k).toNat, by omega⟩ ⟨k, by omega⟩
      have e : (((fts σ V k).toNat : Nat) : Int) = fts σ V k := by omega
      simp only [e] at this
      exact this
    · rw [if_neg z]; exact ih
theorem fts_n (σ V : dS) : bcn (fts σ V 5) = nft σ V 5 := by
  have r := fts_r σ V 5 (by omega)
  rw [bcn_eq r.1 (by omega)]
  have b : ∀ r : Int, 0 ≤ r → r < 32 → ian (shr (fts σ V 5) r) 1 = if r < 5 then fqv σ V r else 0 := fun r r0 r1 => fts_b σ V r0 r1 5 (by omega)
  simp only [pcn, nft]
  rw [b _ (by decide) (by decide), b _ (by decide) (by decide), b _ (by decide) (by decide), b _ (by decide) (by decide), b _ (by decide) (by decide), b _ (by decide) (by decide), b _ (by decide) (by decide), b _ (by decide) (by decide), b _ (by decide) (by decide), b _ (by decide) (by decide)]
  rw [if_pos (by decide), if_pos (by decide), if_pos (by decide), if_pos (by decide), if_pos (by decide), if_neg (by decide), if_neg (by decide), if_neg (by decide), if_neg (by decide), if_neg (by decide)]
  omega
section PRINTS
variable {d : Nat} {Q : dR → dS → Prop} {σ V S : dS}
theorem fv_W (hW : VWK V) {b : Int} (h : b < V 26 0 ∨ b = 4) (b0 : 0 ≤ b) : VWK (fvw V b) := by
  have h4 := hW.1.2.2.2.2.1
  refine VW_up9 hW (by decide) (by decide) (fun _ => ?_) (fun e => absurd e (by decide)) (fun e => absurd e (by decide)) (fun e => absurd e (by decide))
  by_cases z : b = 4
  · rw [if_pos z]; omega
  · rw [if_neg z]; omega
theorem fv_k {b : Int} {k : Nat} (h : k ≠ 109) : fvw V b k = V k := up_k h
theorem sees_k {σ' : dS} (h82 : σ' 82 = σ 82) (h84 : σ' 84 = σ 84) (h86 : σ' 86 = σ 86) (h88 : σ' 88 = σ 88) : sees σ' V ↔ sees σ V := by
  unfold sees
  rw [h82, h84, h86, h88]
theorem w142 {K : dS → Prop} {b : Int} (hI : INV σ) (b0 : 0 ≤ b) (h : b < σ 26 0 ∨ b = 4) (hq : ∀ σ', FRM σ σ' → (∀ k, ¬ tcl k → ¬ ncl k → σ' k = σ k) → (∀ k, cty k → σ' k = fvw (nrm σ 70) b k) → RC σ' (fvw (nrm σ 70) b) (NF (fvw (nrm σ 70) b) 109) → K σ') : wV (d + 9) 142 [.inr (.inr 0), .inl b] σ Q K := by
  have hW := VW_now hI
  have e26 : nrm σ 70 26 0 = σ 26 0 := by rw [nrm_c (k := 26) (by decide)]
  have W2 := fv_W hW (b := b) (by rw [e26]; exact h) b0
  refine c142 (b142_0 (w22 hI (fun σ1 g1 g2 => ?_)))
  have go : ∀ v, v = (if b = 4 then -1 else b) → B142_2 (d + 7) (fun res σ' => match res with | .inl none => K σ' | .inl (some _) => False | .inr e => Q (.inr e) σ') v σ1 := by
    intro v hv
    refine b142_2 (fun σ2 f2 => ?_)
    have S2 : SK σ2 (fvw (nrm σ 70) b) := by rw [f2, hv]; exact SK_up9 g2
    refine t68 W2 S2 (fun σ3 g3 g4 => ?_)
    have F3 : ∀ k, ¬ tcl k → ¬ ncl k → σ3 k = σ k := fun k q1 q2 => by rw [g3 k q2, f2, up_k (by omega)]; exact g1 k q1
    refine hq σ3 (FRM_t (fun k q1 q2 _ => F3 k q1 q2)) F3 (fun k hk => ?_) g4
    rw [g3 k (cty_x hk).2.2.2.2.2.2.1]
    exact S2.1 k hk
  refine ⟨fun z => b142_1 (go b ?_), fun z => go (-1) ?_⟩
  · rw [if_neg z]
  · rw [if_pos (Decidable.of_not_not z)]
theorem l143 (hI : INV S) (hc : cityOK V) (hs : skyOK V 109) (h5 : V 5 = S 5) (hV : ∀ k, cty k → S k = V k) (hR : RC S V (NF V 109)) (h1 : sees S V → Q (.inl (some (.inl 1))) S) (h0 : ¬ sees S V → Q (.inl (some (.inl 0))) S) : ∀ (c : Nat) (i : Int), 0 ≤ i → i + c = S 82 0 → (∀ k, 0 ≤ k → k < i → whr V (S 84 k) (S 86 k) = S 88 k) → B143_1 (d + 3) Q i S
  | 0, i, i0, hi, hk => by
    refine b143_1 ⟨fun _ => b143_3 ⟨Or.inr rfl, h1 (fun k k0 k1 => hk k k0 (by omega))⟩, fun z => absurd (by omega) z⟩
  | c + 1, i, i0, hi, hk => by
    have sn := hI.2.2.2.2.2.2.2.2.2.2.2.1
    have n8 := sn.2.2.1
    have n1 := sn.1
    have a := sn.2.2.2 i i0 (by omega)
    refine b143_1 ⟨fun z => absurd z (by omega), fun _ => ?_⟩
    rw [rat_in i0 (by omega), rat_in i0 (by omega)]
    refine w74 hc hs hV hR a.1.1 (by rw [h5]; exact a.1.2) (by omega) ?_
    rw [rat_in i0 (by omega)]
    refine ⟨fun z => b143_2 ?_, fun z => ⟨Or.inl rfl, h0 (fun q => z (q i i0 (by omega)))⟩⟩
    rw [wr_id (by omega) (by omega)]
    refine l143 hI hc hs h5 hV hR h1 h0 c (i + 1) (by omega) (by omega) (fun k k0 k1 => ?_)
    by_cases e : k = i
    · subst e; exact z
    · exact hk k k0 (by omega)
theorem w143 {K : Int → dS → Prop} (hI : INV S) (hc : cityOK V) (hs : skyOK V 109) (h5 : V 5 = S 5) (hV : ∀ k, cty k → S k = V k) (hR : RC S V (NF V 109)) (h1 : sees S V → K 1 S) (h0 : ¬ sees S V → K 0 S) : wI (d + 5) 143 [.inr (.inr 0)] S Q K := by
  have sn := hI.2.2.2.2.2.2.2.2.2.2.2.1
  have n0 := sn.2.1
  have n1 := sn.1
  exact c143 (b143_0 (l143 hI hc hs h5 hV hR h1 h0 (S 82 0).toNat 0 (by omega) (by omega) (fun k k0 k1 => absurd k1 (by omega))))
theorem l141 {S0 : dS} (hI0 : INV S0) (hq : ∀ σ', FRM S0 σ' → Q (.inl (some (.inl (fts S0 (nrm S0 70) 5)))) σ') : ∀ (c k : Nat) (S : dS), k + c = 5 → FRM S0 S → B141_1 (d + 8) Q (fts S0 (nrm S0 70) k) (k : Int) S
  | 0, k, S, hk, hF => by
    have ek : k = 5 := by omega
    subst ek
    exact b141_1 ⟨fun _ => b141_4 (hq S hF), fun z => absurd (by decide) z⟩
  | c + 1, k, S, hk, hF => by
    have hI := INV_F hF hI0
    have hW := VW_now hI0
    have ew : wr ((k : Int) + 1) = ((k + 1 : Nat) : Int) := by rw [wr_id (by omega) (by omega)]; omega
    have e26 : S 26 = S0 26 := hF.1 26 (by decide) (by decide) (by decide)
    have skip : ¬ fq S0 (nrm S0 70) (k : Int) → ∀ σ', FRM S0 σ' → B141_3 (d + 8) Q (fts S0 (nrm S0 70) k) (k : Int) σ' := by
      intro z σ' hF'
      have ih := l141 hI0 hq c (k + 1) σ' (by omega) hF'
      rw [fts_s, if_neg (by rw [fqv_n z]; decide)] at ih
      refine b141_3 ?_
      rw [ew]; exact ih
    have try_ : ((k : Int) < S0 26 0 ∨ (k : Int) = 4) → B141_2 (d + 8) Q (fts S0 (nrm S0 70) k) (k : Int) S := by
      intro hb
      refine b141_2 (w142 hI (by omega) (by rw [e26]; exact hb) (fun σ1 g1 g2 g3 g4 => ?_))
      rw [nrm_F hF] at g3 g4
      have F1 := FRM_tr hF g1
      have I1 := INV_F F1 hI0
      have W2 := fv_W hW (b := (k : Int)) (by rw [nrm_c (k := 26) (by decide)]; exact hb) (by omega)
      have sk : sees σ1 (fvw (nrm S0 70) (k : Int)) ↔ sees S0 (fvw (nrm S0 70) (k : Int)) := sees_k (F1.1 82 (by decide) (by decide) (by decide)) (F1.1 84 (by decide) (by decide) (by decide)) (F1.1 86 (by decide) (by decide) (by decide)) (F1.1 88 (by decide) (by decide) (by decide))
      refine w143 I1 W2.1 W2.2.1 ?_ g3 g4 (fun z => ⟨fun q => absurd q (by decide), fun _ => ?_⟩) (fun z => ⟨fun _ => skip (fun q => z (sk.mpr q.2)) σ1 F1, fun q => absurd rfl q⟩)
      · rw [fv_k (by decide), nrm_c (k := 5) (by decide), F1.1 5 (by decide) (by decide) (by decide)]
      · have ih := l141 hI0 hq c (k + 1) σ1 (by omega) F1
        rw [fts_s, if_pos (fqv_y ⟨hb, sk.mp z⟩)] at ih
        refine b141_3 ?_
        rw [ew]; exact ih
    refine b141_1 ⟨fun z => absurd z (by omega), fun _ => ⟨fun z => try_ (Or.inl (by rw [← e26]; exact z)), fun z => ⟨fun y => skip (fun q => ?_) S hF, fun y => try_ (Or.inr (by omega))⟩⟩⟩
    rw [e26] at z
    rcases q.1 with q | q
    · exact z q
    · exact y q
theorem w141 {K : Int → dS → Prop} (hI : INV σ) (h : ∀ σ', FRM σ σ' → K (fts σ (nrm σ 70) 5) σ') : wI (d + 11) 141 [.inr (.inr 0)] σ Q K :=
  c141 (b141_0 (l141 (d := d + 1) hI h 5 0 σ (by omega) (FRM_refl σ)))
theorem x_fits {K : Int → dS → Prop} (hI : INV σ) (h : ∀ σ', FRM σ σ' → K (fts σ (nrm σ 70) 5) σ') : wI (d + 13) 139 [.inr (.inr 0)] σ Q K :=
  c139 (b139_0 (w141 hI h))
/-! the reference -/
theorem l258 {S0 : dS} (hI : INV S0) (hc : cityOK V) (hs : skyOK V 109) (h5 : V 5 = S0 5) (hM : MN S V) (hF : ∀ k, k ≠ 174 → ¬ nml k → k ≠ 193 → S k = S0 k) (h1 : sees S0 V → Q (.inl (some (.inl 1))) S) (h0 : ¬ sees S0 V → Q (.inl (some (.inl 0))) S) : ∀ (c : Nat) (i : Int), 0 ≤ i → i + c = S0 82 0 → (∀ k, 0 ≤ k → k < i → whr V (S0 84 k) (S0 86 k) = S0 88 k) → B258_3 (d + 3) Q i S
  | 0, i, i0, hi, hk => by
    have sn := hI.2.2.2.2.2.2.2.2.2.2.2.1
    have n1 := sn.1
    have e67 : S 153 67 = S0 82 0 := by rw [hF 153 (by decide) (by decide) (by decide)]; exact n1.symm
    refine b258_3 ⟨fun _ => b258_5 ⟨Or.inr rfl, h1 (fun k k0 k1 => hk k k0 (by omega))⟩, fun z => absurd (by omega) z⟩
  | c + 1, i, i0, hi, hk => by
    have sn := hI.2.2.2.2.2.2.2.2.2.2.2.1
    have n8 := sn.2.2.1
    have n1 := sn.1
    have a := sn.2.2.2 i i0 (by omega)
    have e67 : S 153 67 = S0 82 0 := by rw [hF 153 (by decide) (by decide) (by decide)]; exact n1.symm
    have e192 : S 192 = S0 192 := hF 192 (by decide) (by decide) (by decide)
    refine b258_3 ⟨fun z => absurd z (by omega), fun _ => ?_⟩
    rw [wr_id (x := 3 * i) (by omega) (by omega), wr_id (x := 3 * i + 1) (by omega) (by omega), wr_id (x := 3 * i + 2) (by omega) (by omega), e192, a.2.2.2.1, a.2.2.2.2.1]
    refine ⟨by omega, by omega, by omega, by omega, w206 hc hs hM a.1.1 (by rw [h5]; exact a.1.2) ⟨by omega, by omega, ?_⟩⟩
    rw [e192, a.2.2.2.2.2]
    refine ⟨fun z => b258_4 ?_, fun z => ⟨Or.inl rfl, h0 (fun q => z (q i i0 (by omega)))⟩⟩
    rw [wr_id (by omega) (by omega)]
    refine l258 hI hc hs h5 hM hF h1 h0 c (i + 1) (by omega) (by omega) (fun k k0 k1 => ?_)
    by_cases e : k = i
    · subst e; exact z
    · exact hk k k0 (by omega)
theorem w258 {K : Int → dS → Prop} {S0 : dS} {b a : Int} (hI : INV S0) (hW : VWK V) (h5 : V 5 = S0 5) (e26 : V 26 0 = S0 26 0) (b0 : 0 ≤ b) (hb : b < S0 26 0 ∨ b = 4) (hF : ∀ k, k ≠ 174 → ¬ nml k → k ≠ 193 → S k = S0 k) (h1 : MVc S (up V 109 0 a)) (h2 : MVs S (up V 109 0 a)) (hy : fq S0 V b → ∀ σ', (∀ k, k ≠ 174 → ¬ nml k → σ' k = S k) → (∀ i, i ≠ 0 → σ' 174 i = S 174 i) → MN σ' (fvw V b) → K 1 σ') (hn : ¬ fq S0 V b → ∀ σ', (∀ k, k ≠ 174 → ¬ nml k → σ' k = S k) → (∀ i, i ≠ 0 → σ' 174 i = S 174 i) → MN σ' (fvw V b) → K 0 σ') : wI (d + 9) 258 [.inr (.inr 153), .inl b] S Q K := by
  have hR := hW.1.1
  have W2 := fv_W hW (b := b) (by rw [e26]; exact hb) b0
  have sn := hI.2.2.2.2.2.2.2.2.2.2.2.1
  have n0 := sn.2.1
  have n1 := sn.1
  have go : ∀ v, v = (if b = 4 then -1 else b) → B258_2 (d + 7) (fun res σ1 => match res with | .inl (some (.inl v)) => K v σ1 | .inl _ => False | .inr e => Q (.inr e) σ1) v 0 S := by
    intro v hv
    refine b258_2 ⟨by decide, by decide, fun σ1 f1 => ?_⟩
    have m1 : MVc σ1 (fvw V b) := by
      rw [f1]
      have := MVc_up9 h1 (i := 0) (j := 0) (v := v) (w := v)
      rw [up_up, hv] at this
      rw [hv]; exact this
    have s1 : MVs σ1 (fvw V b) := by
      rw [f1]
      have := MVs_up9 (by rw [up_k (k' := 5) (by decide)]; omega) h2 (j := 0) (v := v) (by decide) (by decide)
      rw [up_up, hv] at this
      rw [hv]; exact this
    refine w205 W2.1 W2.2.1 m1 s1 (fun σ2 g1 g2 => ?_)
    have hM : MN σ2 (fvw V b) := ⟨MVc_f g1 m1, MVs_f g1 s1, g2⟩
    have F2 : ∀ k, k ≠ 174 → ¬ nml k → σ2 k = S k := fun k q1 q2 => by rw [g1 k q2, f1, up_k q1]
    have f174 : ∀ i, i ≠ 0 → σ2 174 i = S 174 i := fun i hi => by rw [g1 174 (by decide), f1, up_i hi]
    exact l258 (S0 := S0) hI W2.1 W2.2.1 (by rw [fv_k (by decide)]; exact h5) hM (fun k q1 q2 q3 => by rw [F2 k q1 q2]; exact hF k q1 q2 q3) (fun z => hy ⟨hb, z⟩ σ2 F2 f174 hM) (fun z => hn (fun q => z q.2) σ2 F2 f174 hM) (S0 82 0).toNat 0 (by omega) (by omega) (fun k k0 k1 => absurd k1 (by omega))
  refine c258 (b258_0 ⟨fun z => b258_1 (go b ?_), fun z => go (-1) ?_⟩)
  · rw [if_neg z]
  · rw [if_pos (Decidable.of_not_not z)]
theorem l259 {S0 : dS} {x1 : Int} (hI : INV S0) (hW : VWK V) (h5 : V 5 = S0 5) (e26 : V 26 0 = S0 26 0) (hMc : MVc S0 V) (hq : ∀ σ', (∀ k, k ≠ 174 → ¬ nml k → σ' k = S0 k) → (∀ i, i ≠ 0 → σ' 174 i = S0 174 i) → σ' 174 0 = x1 → Q (.inl (some (.inl (fts S0 V 5)))) σ') : ∀ (c k : Nat) (a : Int) (S : dS), k + c = 5 → (∀ k, k ≠ 174 → ¬ nml k → S k = S0 k) → (∀ i, i ≠ 0 → S 174 i = S0 174 i) → MVc S (up V 109 0 a) → MVs S (up V 109 0 a) → B259_1 (d + 8) Q x1 (fts S0 V k) (k : Int) S
  | 0, k, a, S, hk, hF, h174, m1, m2 => by
    have ek : k = 5 := by omega
    subst ek
    exact b259_1 ⟨fun _ => b259_5 ⟨by decide, by decide, fun σ1 f1 => hq σ1 (fun k q1 q2 => by rw [f1, up_k q1]; exact hF k q1 q2) (fun i hi => by rw [f1, up_i hi]; exact h174 i hi) (by rw [f1, up_same])⟩, fun z => absurd (by decide) z⟩
  | c + 1, k, a, S, hk, hF, h174, m1, m2 => by
    have ew : wr ((k : Int) + 1) = ((k + 1 : Nat) : Int) := by rw [wr_id (by omega) (by omega)]; omega
    have e5 : S 153 5 = S0 26 0 := by rw [hF 153 (by decide) (by decide), hMc.2.2.2.1]; exact e26
    have no : ¬ fq S0 V (k : Int) → ∀ a' S', (∀ k, k ≠ 174 → ¬ nml k → S' k = S0 k) → (∀ i, i ≠ 0 → S' 174 i = S0 174 i) → MVc S' (up V 109 0 a') → MVs S' (up V 109 0 a') → B259_3 (d + 8) Q x1 (k : Int) (fts S0 V k) S' := by
      intro z a' S' q1 q2 q3 q4
      have ih := l259 hI hW h5 e26 hMc hq c (k + 1) a' S' (by omega) q1 q2 q3 q4
      rw [fts, if_neg (by rw [fqv_n z]; decide)] at ih
      refine b259_3 (b259_4 ?_)
      rw [ew]; exact ih
    have try_ : ((k : Int) < S0 26 0 ∨ (k : Int) = 4) → B259_2 (d + 8) Q x1 (k : Int) (fts S0 V k) S := by
      intro hb
      refine b259_2 (w258 hI hW h5 e26 (by omega) hb (fun k q1 q2 _ => hF k q1 q2) m1 m2 (fun z σ' g1 g2 g3 => ⟨fun q => absurd q (by decide), fun _ => b259_4 ?_⟩) (fun z σ' g1 g2 g3 => ⟨fun _ => no z _ σ' (fun k q1 q2 => by rw [g1 k q1 q2]; exact hF k q1 q2) (fun i hi => by rw [g2 i hi]; exact h174 i hi) g3.1 g3.2.1, fun q => absurd rfl q⟩))
      have ih := l259 hI hW h5 e26 hMc hq c (k + 1) (if (k : Int) = 4 then -1 else (k : Int)) σ' (by omega) (fun k q1 q2 => by rw [g1 k q1 q2]; exact hF k q1 q2) (fun i hi => by rw [g2 i hi]; exact h174 i hi) g3.1 g3.2.1
      rw [fts, if_pos (fqv_y z)] at ih
      rw [ew]; exact ih
    refine b259_1 ⟨fun z => absurd z (by omega), fun _ => ⟨fun z => try_ (Or.inl (by rw [← e5]; exact z)), fun z => ⟨fun y => no (fun q => ?_) a S hF h174 m1 m2, fun y => try_ (Or.inr (by omega))⟩⟩⟩
    rw [e5] at z
    rcases q.1 with q | q
    · exact z q
    · exact y q
theorem cty_F {σ' : dS} (hF : FRM σ σ') : ∀ k, cty k → σ' k = σ k := fun k hk => hF.1 k (cty_x hk).2.2.2.2.2.1 (cty_x hk).2.2.2.1 (cty_x hk).2.2.2.2.1
theorem fts_k {σ' : dS} (h26 : σ' 26 = σ 26) (h82 : σ' 82 = σ 82) (h84 : σ' 84 = σ 84) (h86 : σ' 86 = σ 86) (h88 : σ' 88 = σ 88) (b : Int) : fqv σ' V b = fqv σ V b := by
  by_cases z : fq σ V b
  · rw [fqv_y z]
    refine fqv_y ⟨?_, (sees_k h82 h84 h86 h88).mpr z.2⟩
    rw [h26]; exact z.1
  · rw [fqv_n z]
    refine fqv_n (fun q => z ⟨?_, (sees_k h82 h84 h86 h88).mp q.2⟩)
    have := q.1
    rw [h26] at this; exact this
theorem fts_kk {σ' : dS} (h26 : σ' 26 = σ 26) (h82 : σ' 82 = σ 82) (h84 : σ' 84 = σ 84) (h86 : σ' 86 = σ 86) (h88 : σ' 88 = σ 88) : ∀ k, fts σ' V k = fts σ V k
  | 0 => rfl
  | k + 1 => by rw [fts, fts, fts_kk h26 h82 h84 h86 h88 k, fts_k h26 h82 h84 h86 h88]
theorem m_fits {K : Int → dS → Prop} (hI : INV σ) (h : ∀ σ', FRM σ σ' → K (fts σ (nrm σ 70) 5) σ') : wI (d + 13) 259 [.inr (.inr 153)] σ Q K := by
  refine c259 (b259_0 ?_)
  intro σ1 f1
  obtain ⟨hT, hF1, hI1, en, e5, e1, e3, e4⟩ := m_begin hI f1
  have hW := VW_now hI
  have mc := INV_mc hI1
  have ms := INV_ms hI1
  rw [en] at mc ms
  have g26 : σ1 26 = σ 26 := hF1.1 26 (by decide) (by decide) (by decide)
  refine ⟨by decide, by decide, ?_⟩
  refine l259 (d := d + 3) (V := nrm σ 70) hI1 hW (by rw [nrm_c (k := 5) (by decide), e5]) (by rw [nrm_c (k := 26) (by decide), g26]) mc (fun σ' g1 g2 g3 => ?_) 5 0 (nrm σ 70 109 0) σ1 (by omega) (fun _ _ _ => rfl) (fun _ _ => rfl) (by rw [up_self]; exact mc) (by rw [up_self]; exact ms)
  rw [fts_kk g26 (hF1.1 82 (by decide) (by decide) (by decide)) (hF1.1 84 (by decide) (by decide) (by decide)) (hF1.1 86 (by decide) (by decide) (by decide)) (hF1.1 88 (by decide) (by decide) (by decide))]
  refine h σ' (FRM_tr hF1 (FRM_nw (fun k q1 q2 _ => g1 k q1 q2) (fun i => ?_)))
  by_cases e : i = 0
  · subst e; exact g3
  · exact g2 i e
end PRINTS
/-! watch -/
def ano (V : dS) (m r : Int) : Nat → Int
  | 0 => 0
  | o + 1 => if ano V m r o ≠ 0 ∨ whr V (o : Int) m = r then 1 else 0
theorem ano_r (V : dS) (m r : Int) : ∀ o : Nat, ano V m r o = 0 ∨ ano V m r o = 1
  | 0 => Or.inl rfl
  | o + 1 => by
    unfold ano
    by_cases z : ano V m r o ≠ 0 ∨ whr V (o : Int) m = r
    · rw [if_pos z]; exact Or.inr rfl
    · rw [if_neg z]; exact Or.inl rfl
noncomputable def oft (σ V : dS) (m r : Int) : Nat → Int
  | 0 => 0
  | k + 1 => oft σ V m r k + (if fqv σ V (k : Int) = 1 then ano (fvw V (k : Int)) m r (V 5 2).toNat else 0)
theorem oft_r (σ V : dS) (m r : Int) : ∀ k : Nat, 0 ≤ oft σ V m r k ∧ oft σ V m r k ≤ k
  | 0 => by simp [oft]
  | k + 1 => by
    have := oft_r σ V m r k
    have := ano_r (fvw V (k : Int)) m r (V 5 2).toNat
    rw [oft]
    by_cases z : fqv σ V (k : Int) = 1
    · rw [if_pos z]; omega
    · rw [if_neg z]; omega
noncomputable def ofd (σ V : dS) (m r : Int) : Int := if 2 * oft σ V m r 5 - nft σ V 5 < 0 then -(2 * oft σ V m r 5 - nft σ V 5) else 2 * oft σ V m r 5 - nft σ V 5
theorem ofd_r (σ V : dS) (m r : Int) : 0 ≤ ofd σ V m r ∧ ofd σ V m r ≤ 10 := by
  have := oft_r σ V m r 5
  have := nft_r σ V 5
  unfold ofd
  by_cases z : 2 * oft σ V m r 5 - nft σ V 5 < 0
  · rw [if_pos z]; omega
  · rw [if_neg z]; omega
def wbs (f : Int → Int) : Nat → Int
  | 0 => -1
  | r + 1 => if wbs f r = -1 ∨ f (r : Int) < f (wbs f r) then (r : Int) else wbs f r
theorem wbs_r (f : Int → Int) : ∀ k : Nat, (wbs f k = -1 ∧ k = 0) ∨ (0 ≤ wbs f k ∧ wbs f k < k)
  | 0 => Or.inl ⟨rfl, rfl⟩
  | k + 1 => by
    have := wbs_r f k
    unfold wbs
    by_cases z : wbs f k = -1 ∨ f (k : Int) < f (wbs f k)
    · rw [if_pos z]; omega
    · rw [if_neg z]; omega
section WATCH
variable {d : Nat} {Q : dR → dS → Prop} {σ V S : dS}
theorem l144 {m : Int} (hc : cityOK V) (hs : skyOK V 109) (hV : ∀ k, cty k → S k = V k) (hR : RC S V (NF V 109)) (hm : m ≤ 2147483647) (h100 : ∀ r, 0 ≤ r → r < V 5 0 → 0 ≤ S 152 r ∧ S 152 r ≤ 100) (hq : ∀ σ', (∀ k, k ≠ 152 → σ' k = S k) → (∀ r, 0 ≤ r → r < V 5 0 → σ' 152 r = S 152 r + ano V m r (V 5 2).toNat) → Q (.inl none) σ') : ∀ (c k : Nat) (x2 : Int) (σ : dS), (k : Int) + c = V 5 2 → (∀ r, 0 ≤ r → r < V 5 0 → ian (shr x2 r) 1 = ano V m r k) → (∀ k, k ≠ 152 → σ k = S k) → (∀ r, 0 ≤ r → r < V 5 0 → σ 152 r = S 152 r + ano V m r k) → B144_1 (d + 3) Q m x2 (k : Int) σ
  | 0, k, x2, σ, hk, hb, hF, h152 => by
    have e5 : σ 5 2 = V 5 2 := by rw [hF 5 (by decide), hV 5 (by decide)]
    have ek : k = (V 5 2).toNat := by omega
    refine b144_1 ⟨fun _ => b144_3 (hq σ hF (by rw [← ek]; exact h152)), fun z => absurd (by omega) z⟩
  | c + 1, k, x2, σ, hk, hb, hF, h152 => by
    have hO := hc.2.1
    have hRo := hc.1
    have e5 : σ 5 2 = V 5 2 := by rw [hF 5 (by decide), hV 5 (by decide)]
    have ew : wr ((k : Int) + 1) = ((k + 1 : Nat) : Int) := by rw [wr_id (by omega) (by omega)]; omega
    have hV' : ∀ k, cty k → σ k = V k := fun k hk => by rw [hF k (by rintro rfl; exact absurd hk (by decide))]; exact hV k hk
    have hR' : RC σ V (NF V 109) := by
      unfold RC
      rw [hF 120 (by decide), hF 122 (by decide), hF 124 (by decide), hF 116 (by decide), hF 118 (by decide), hF 114 (by decide), hF 126 (by decide)]
      exact hR
    have wrr := whr_r hc (o := (k : Int)) (by omega) (by omega) m
    refine b144_1 ⟨fun z => absurd z (by omega), fun _ => w74 hc hs hV' hR' (by omega) (by omega) hm ?_⟩
    have same : (∀ r, 0 ≤ r → r < V 5 0 → ano V m r (k + 1) = ano V m r k) → B144_2 (d + 3) Q m x2 (k : Int) σ := by
      intro e
      refine b144_2 ?_
      rw [ew]
      exact l144 hc hs hV hR hm h100 hq c (k + 1) x2 σ (by omega) (fun r r0 r1 => by rw [e r r0 r1]; exact hb r r0 r1) hF (fun r r0 r1 => by rw [e r r0 r1]; exact h152 r r0 r1)
    refine ⟨fun z => same (fun r r0 r1 => ?_), fun z => ⟨fun y => same (fun r r0 r1 => ?_), fun y σ1 f1 => b144_2 ?_⟩⟩
    · have := ano_r V m r k
      rw [ano]
      by_cases q : ano V m r k ≠ 0
      · rw [if_pos (Or.inl q)]; omega
      · rw [if_neg (by omega)]; omega
    · have w0 : 0 ≤ whr V (k : Int) m ∧ whr V (k : Int) m < V 5 0 := wrr.resolve_left (by omega)
      have b := hb _ w0.1 w0.2
      rw [b] at y
      have := ano_r V m r k
      rw [ano]
      by_cases e : whr V (k : Int) m = r
      · rw [if_pos (Or.inr e)]
        rw [e] at y; omega
      · by_cases q : ano V m r k ≠ 0
        · rw [if_pos (Or.inl q)]; omega
        · rw [if_neg (by omega)]; omega
    · have w0 : 0 ≤ whr V (k : Int) m ∧ whr V (k : Int) m < V 5 0 := wrr.resolve_left (by omega)
      have b := hb _ w0.1 w0.2
      rw [b] at y
      have a0 := Decidable.of_not_not y
      have v0 := h100 _ w0.1 w0.2
      have v1 := h152 _ w0.1 w0.2
      rw [rput_in w0.1 (by omega), rat_in w0.1 (by omega), v1, a0, Int.add_zero, wr_id (by omega) (by omega)] at f1
      have step : ∀ r, ano V m r (k + 1) = if r = whr V (k : Int) m then 1 else ano V m r k := by
        intro r
        have := ano_r V m r k
        rw [ano]
        by_cases e : r = whr V (k : Int) m
        · rw [if_pos (Or.inr e.symm), if_pos e]
        · rw [if_neg e]
          by_cases q : ano V m r k ≠ 0
          · rw [if_pos (Or.inl q)]; omega
          · rw [if_neg (fun w => w.elim q (fun w => e w.symm))]; omega
      rw [ew]
      refine l144 hc hs hV hR hm h100 hq c (k + 1) _ σ1 (by omega) (fun r r0 r1 => ?_) (fun x hx => by rw [f1, up_k hx]; exact hF x hx) (fun r r0 r1 => ?_)
      · rw [tb_ior r0 (by omega) w0.1 (by omega), step r, hb r r0 r1]
      · rw [f1, step r]
        by_cases e : r = whr V (k : Int) m
        · rw [e, up_same, if_pos rfl]
        · rw [up_i e, if_neg e]; exact h152 r r0 r1
theorem w144 {K : dS → Prop} {m : Int} (hc : cityOK V) (hs : skyOK V 109) (hV : ∀ k, cty k → S k = V k) (hR : RC S V (NF V 109)) (hm : m ≤ 2147483647) (h100 : ∀ r, 0 ≤ r → r < V 5 0 → 0 ≤ S 152 r ∧ S 152 r ≤ 100) (hq : ∀ σ', (∀ k, k ≠ 152 → σ' k = S k) → (∀ r, 0 ≤ r → r < V 5 0 → σ' 152 r = S 152 r + ano V m r (V 5 2).toNat) → K σ') : wV (d + 5) 144 [.inr (.inr 0), .inl m] S Q K := by
  have hO := hc.2.1
  have hRo := hc.1
  exact c144 (b144_0 (l144 hc hs hV hR hm h100 hq (V 5 2).toNat 0 0 S (by omega) (fun r r0 r1 => tb_0 r0 (by omega)) (fun _ _ => rfl) (fun r r0 r1 => by show S 152 r = S 152 r + 0; omega)))
theorem l140_4 {S0 : dS} {m fz : Int} (hW : VWK V) (h5 : σ 5 = V 5) (hn : bcn fz = nft S0 V 5) (h152 : ∀ r, 0 ≤ r → r < V 5 0 → σ 152 r = oft S0 V m r 5) (hq : Q (.inl (some (.inl (wbs (ofd S0 V m) (V 5 0).toNat)))) σ) : ∀ (c k : Nat), (k : Int) + c = V 5 0 → B140_4 d Q fz (wbs (ofd S0 V m) k) (if wbs (ofd S0 V m) k = -1 then 2147483647 else ofd S0 V m (wbs (ofd S0 V m) k)) (k : Int) σ
  | 0, k, hk => by
    have ek : k = (V 5 0).toNat := by omega
    refine b140_4 ⟨fun _ => b140_6 ?_, fun z => absurd (by rw [h5]; omega) z⟩
    rw [ek]; exact hq
  | c + 1, k, hk => by
    have hRo := hW.1.1
    have ih := l140_4 hW h5 hn h152 hq c (k + 1) (by omega)
    have ew : wr ((k : Int) + 1) = ((k + 1 : Nat) : Int) := by rw [wr_id (by omega) (by omega)]; omega
    have o5 := oft_r S0 V m (k : Int) 5
    have n5 := nft_r S0 V 5
    have fr := ofd_r S0 V m (k : Int)
    have wr_ := wbs_r (ofd S0 V m) k
    refine b140_4 ⟨fun z => absurd z (by rw [h5]; omega), fun _ => w0_ (w1_ ?_)⟩
    rw [hn, rat_in (by omega) (by omega), h152 _ (by omega) (by omega), wr_id (x := 2 * oft S0 V m (k : Int) 5) (by omega) (by omega), wr_id (x := 2 * oft S0 V m (k : Int) 5 - nft S0 V 5) (by omega) (by omega), wr_id (x := -(2 * oft S0 V m (k : Int) 5 - nft S0 V 5)) (by omega) (by omega)]
    have ef : (if 2 * oft S0 V m (k : Int) 5 - nft S0 V 5 < 0 then -(2 * oft S0 V m (k : Int) 5 - nft S0 V 5) else 2 * oft S0 V m (k : Int) 5 - nft S0 V 5) = ofd S0 V m (k : Int) := rfl
    rw [ef]
    refine ⟨fun z => b140_5 ?_, fun z => b140_5 ?_⟩
    · have e : wbs (ofd S0 V m) (k + 1) = wbs (ofd S0 V m) k := by
        rw [wbs, if_neg]
        rintro (q | q)
        · rw [if_pos q] at z; omega
        · rw [if_neg (by omega)] at z; omega
      rw [e] at ih
      rw [ew]; exact ih
    · have e : wbs (ofd S0 V m) (k + 1) = (k : Int) := by
        rw [wbs, if_pos]
        by_cases q : wbs (ofd S0 V m) k = -1
        · exact Or.inl q
        · rw [if_neg q] at z; exact Or.inr (by omega)
      rw [e, if_neg (by omega)] at ih
      rw [ew]; exact ih
theorem l140_1 {S0 : dS} {m : Int} (hI0 : INV S0) (hm : m ≤ 2147483647) (hq : ∀ σ', FRM S0 σ' → Q (.inl (some (.inl (wbs (ofd S0 (nrm S0 70) m) (nrm S0 70 5 0).toNat)))) σ') : ∀ (c k : Nat) (S : dS), k + c = 5 → FRM S0 S → (∀ r, 0 ≤ r → r < S0 5 0 → S 152 r = oft S0 (nrm S0 70) m r k) → B140_1 (d + 8) Q m (fts S0 (nrm S0 70) 5) (-1) 2147483647 (k : Int) S
  | 0, k, S, hk, hF, h152 => by
    have hRo := (INV_c hI0).1
    have ek : k = 5 := by omega
    subst ek
    have e5 : nrm S0 70 5 = S0 5 := nrm_c (k := 5) (by decide)
    refine b140_1 ⟨fun _ => b140_3 ?_, fun z => absurd (by decide) z⟩
    exact l140_4 (S0 := S0) (V := nrm S0 70) (m := m) (VW_now hI0) (by rw [e5]; exact hF.1 5 (by decide) (by decide) (by decide)) (fts_n _ _) (fun r r0 r1 => h152 r r0 (by rw [e5] at r1; exact r1)) (hq S hF) (nrm S0 70 5 0).toNat 0 (by rw [e5]; omega)
  | c + 1, k, S, hk, hF, h152 => by
    have hI := INV_F hF hI0
    have hW := VW_now hI0
    have hRo := (INV_c hI0).1
    have e5 : nrm S0 70 5 = S0 5 := nrm_c (k := 5) (by decide)
    have ew : wr ((k : Int) + 1) = ((k + 1 : Nat) : Int) := by rw [wr_id (by omega) (by omega)]; omega
    have e26 : S 26 = S0 26 := hF.1 26 (by decide) (by decide) (by decide)
    have fb := fts_b S0 (nrm S0 70) (r := (k : Int)) (by omega) (by omega) 5 (by omega)
    rw [if_pos (by omega)] at fb
    refine b140_1 ⟨fun z => absurd z (by omega), fun _ => ?_⟩
    rw [fb]
    refine ⟨fun z => b140_2 ?_, fun z => ?_⟩
    · rw [ew]
      refine l140_1 hI0 hm hq c (k + 1) S (by omega) hF (fun r r0 r1 => ?_)
      rw [oft, if_neg z, Int.add_zero]; exact h152 r r0 r1
    · have z1 := Decidable.of_not_not z
      have hfq : fq S0 (nrm S0 70) (k : Int) := Decidable.byContradiction (dec := Classical.propDecidable _) (fun q => by rw [fqv_n q] at z1; exact absurd z1 (by decide))
      refine w142 hI (by omega) (by rw [e26]; exact hfq.1) (fun σ1 g1 g2 g3 g4 => ?_)
      rw [nrm_F hF] at g3 g4
      have W2 := fv_W hW (b := (k : Int)) (by rw [nrm_c (k := 26) (by decide)]; exact hfq.1) (by omega)
      have e5b : fvw (nrm S0 70) (k : Int) 5 = S0 5 := by rw [fv_k (by decide), e5]
      have h1 : ∀ r, 0 ≤ r → r < S0 5 0 → σ1 152 r = oft S0 (nrm S0 70) m r k := fun r r0 r1 => by rw [g2 152 (by decide) (by decide)]; exact h152 r r0 r1
      refine w144 W2.1 W2.2.1 g3 g4 hm (fun r r0 r1 => ?_) (fun σ2 g5 g6 => b140_2 ?_)
      · rw [e5b] at r1
        rw [h1 r r0 r1]
        have := oft_r S0 (nrm S0 70) m r k
        omega
      · rw [ew]
        refine l140_1 hI0 hm hq c (k + 1) σ2 (by omega) (FRM_tr (FRM_tr hF g1) (FRM_c (fun x hx => g5 x (by rintro rfl; exact hx (by decide))))) (fun r r0 r1 => ?_)
        rw [oft, if_pos z1, g6 r r0 (by rw [e5b]; exact r1), h1 r r0 r1, e5b, e5]
theorem x_watch {K : Int → dS → Prop} {m : Int} (hI : INV σ) (hm : m ≤ 2147483647) (h : ∀ σ', FRM σ σ' → K (wbs (ofd σ (nrm σ 70) m) (σ 5 0).toNat) σ') : wI (d + 13) 140 [.inr (.inr 0), .inl m] σ Q K := by
  refine c140 (b140_0 (w141 hI (fun σ1 g1 σ2 f2 => ?_)))
  have F2 : FRM σ σ2 := FRM_tr g1 (FRM_c (fun k hk => by
    rw [f2]
    funext j
    unfold rfill
    rw [if_neg (fun q => hk (by rw [q.1]; decide))]))
  refine l140_1 (d := d + 3) (S0 := σ) hI hm (fun σ' g => ?_) 5 0 σ2 (by omega) F2 (fun r r0 r1 => ?_)
  · rw [nrm_c (k := 5) (by decide)]; exact h σ' g
  · have hRo := (INV_c hI).1
    rw [f2]
    unfold rfill
    rw [if_pos ⟨rfl, r0, by omega⟩]; rfl
end WATCH
