/-! lure, the class: its rows one after the other -/
section LUREC
variable {d : Nat} {Q : dR → dS → Prop} {σ V S : dS}
theorem w131 {K : Int → dS → Prop} {set e : Int} {x : Nat} (hI : INV S) (h150 : ∀ r, 0 ≤ r → r < S 5 0 → S 150 r = ((dgt (Rn (nrm S 70)) x r.toNat : Nat) : Int)) (h1 : lP (nrm S 70) set e x → ∀ σ', FRM S σ' → σ' 150 = S 150 → K 1 σ') (h0 : ¬ lP (nrm S 70) set e x → ∀ σ', FRM S σ' → σ' 150 = S 150 → K 0 σ') : wI (d + 11) 131 [.inr (.inr 0), .inl set, .inl e] S Q K := by
  have hW := VW_now hI
  have hR := hW.1.1
  have e5 : nrm S 70 5 = S 5 := nrm_c (k := 5) (by decide)
  refine c131 (b131_0 (w22 hI (fun σ1 g1 g2 => ?_)))
  have fr : ∀ σ', (∀ k, ¬ tcl k → ¬ ncl k → ¬ rcl k → σ' k = σ1 k) → FRM S σ' ∧ σ' 150 = S 150 := fun σ' g3 => ⟨FRM_t (fun k q1 q2 q3 => by rw [g3 k q1 q2 q3]; exact g1 k q1), by rw [g3 150 (by decide) (by decide) (by decide)]; exact g1 150 (by decide)⟩
  refine l131_1 (d := d + 1) (S0 := σ1) (V := nrm S 70) (x := x) hW g2.1 g2.2.1 g2.2.2.2 (fun r r0 r1 => ?_) (fun q σ' g3 => h1 q σ' (fr σ' g3).1 (fr σ' g3).2) (fun q σ' g3 => h0 q σ' (fr σ' g3).1 (fr σ' g3).2) (nrm S 70 5 0).toNat 0 σ1 (by omega) (by omega) (fun _ _ => rfl) (fun j j0 j1 => ?_) (fun j j0 j1 => absurd j1 (by omega))
  · rw [e5] at r1
    rw [g1 150 (by decide)]; exact h150 r r0 r1
  · rw [if_neg (by omega), Int.add_zero]; exact g2.2.2.1 j j0 j1
theorem l130 {R x : Nat} (R1 : 1 ≤ R) (R10 : R ≤ 10) (e5 : S 5 0 = (R : Int)) (xR : x < 4 ^ R) (x3 : dsf R x ≤ 3) (h150 : ∀ r : Int, 0 ≤ r → r < (R : Int) → S 150 r = ((dgt R x r.toNat : Nat) : Int)) (hq1 : ∀ x' σ', (∀ k, k ≠ 150 → σ' k = S k) → (∀ r : Int, 0 ≤ r → r < (R : Int) → σ' 150 r = ((dgt R x' r.toNat : Nat) : Int)) → x < x' → x' < 4 ^ R → dsf R x' = dsf R x → (∀ y, x < y → y < x' → dsf R y ≠ dsf R x) → Q (.inl (some (.inl 1))) σ') (hq0 : (∀ y, x < y → y < 4 ^ R → dsf R y ≠ dsf R x) → Q (.inl (some (.inl 0))) S) : ∀ k : Nat, k < R → (∀ r, k < r → r < R → dgt R x r = 0) → B130_1 d Q (k : Int) S
  | 0, hk, hz => b130_1 ⟨fun _ => b130_3 ⟨Or.inl rfl, hq0 (fun y y0 y1 => last_row R1 (fun r r0 r1 => hz r (by omega) r1) xR y0 y1)⟩, fun z => absurd (by decide) z⟩
  | k + 1, hk, hz => by
    have eS := h150 ((k + 1 : Nat) : Int) (by omega) (by omega)
    rw [show ((k + 1 : Nat) : Int).toNat = k + 1 by omega] at eS
    refine b130_1 ⟨fun z => absurd z (by omega), fun _ => ?_⟩
    rw [rat_in (by omega) (by omega), eS]
    refine ⟨fun z => b130_2 ?_, fun z σ1 f1 σ2 f2 σ3 f3 => ⟨Or.inr rfl, ?_⟩⟩
    · have ew : wr (((k + 1 : Nat) : Int) + (-1)) = (k : Int) := by rw [wr_id (by omega) (by omega)]; omega
      rw [ew]
      refine l130 R1 R10 e5 xR x3 h150 hq1 hq0 k (by omega) (fun r r0 r1 => ?_)
      by_cases e : r = k + 1
      · subst e; omega
      · exact hz r (by omega) r1
    · have d4 := dgt_lt R x (k + 1)
      have h0 : 1 ≤ dgt R x (k + 1) := by omega
      have ew1 : wr (((k + 1 : Nat) : Int) - 1) = (k : Int) := by rw [wr_id (by omega) (by omega)]; omega
      have ew2 : wr ((R : Int) - 1) = ((R - 1 : Nat) : Int) := by rw [wr_id (by omega) (by omega)]; omega
      have ek := h150 (k : Int) (by omega) (by omega)
      rw [show ((k : Nat) : Int).toNat = k by omega] at ek
      have dk := dgt_lt R x k
      rw [rput_in (by omega) (by omega)] at f1
      rw [ew1, f1, rput_in (by omega) (by omega), rat_in (by omega) (by omega), up_i (by omega), ek, wr_id (by omega) (by omega)] at f2
      have e52 : σ2 5 0 = (R : Int) := by rw [f2, up_k (by decide), up_k (by decide)]; exact e5
      rw [e52, ew2, rput_in (by omega) (by omega), wr_id (by omega) (by omega), f2] at f3
      have j1R : k + 1 < R := hk
      have hrow := row_eq j1R hz
      have hsm : dsf (k + 1) (x / 4 ^ (R - (k + 1))) + dgt R x (k + 1) ≤ 3 := by
        have t1 := dsf_top (R := R) (x := x) j1R
        have t2 := dsf_le (R := R) (x := x) (R - (k + 2)) (k + 1 + 1) (by omega)
        omega
      have hA : x / 4 ^ (R - (k + 1)) < 4 ^ (k + 1) := by
        apply Nat.div_lt_of_lt_mul
        rw [← Nat.pow_add, show R - (k + 1) + (k + 1) = R by omega]; exact xR
      have aL : x / 4 ^ (R - (k + 1)) % 4 ≤ 2 := by
        have := dsf_mod k (x / 4 ^ (R - (k + 1)))
        omega
      obtain ⟨n1, n2, n3, n4, n5, n6⟩ := next_row j1R (by omega) hA h0 (by omega) hsm
      rw [← hrow] at n3 n5 n6
      refine hq1 _ σ3 (fun q hq => by rw [f3, up_k hq, up_k hq, up_k hq]) (fun r r0 r1 => ?_) n5 n2 (by rw [n3, n4]) (fun y y0 y1 => by rw [n3]; exact n6 y y0 y1)
      have nd := next_dgt (R := R) (A := x / 4 ^ (R - (k + 1))) j1R (by omega) h0 (by omega) aL r.toNat (by omega)
      rw [nd, f3]
      by_cases c1 : r = ((R - 1 : Nat) : Int)
      · rw [c1, up_same, if_neg (by omega), if_neg (by omega), if_pos (by omega)]; omega
      rw [up_i c1]
      by_cases c2 : r = (k : Int)
      · rw [c2, up_same, if_neg (by omega), if_pos (by omega)]
        have hh := dgt_hi (x := x) (show k < k + 1 by omega) j1R
        rw [show k + 1 - 1 - k = 0 by omega, Nat.pow_zero, Nat.div_one] at hh
        omega
      rw [up_i c2]
      by_cases c3 : r = ((k + 1 : Nat) : Int)
      · rw [c3, up_same, if_neg (by omega), if_neg (by omega), if_neg (by omega)]; rfl
      rw [up_i c3, h150 r r0 r1]
      by_cases c4 : r.toNat + 1 < k + 1
      · rw [if_pos c4, dgt_hi (x := x) (show r.toNat < k + 1 by omega) j1R]
      · rw [if_neg c4, if_neg (by omega), if_neg (by omega), hz r.toNat (by omega) (by omega)]
theorem w130 {K : Int → dS → Prop} {R x : Nat} (R1 : 1 ≤ R) (R10 : R ≤ 10) (e5 : S 5 0 = (R : Int)) (xR : x < 4 ^ R) (x3 : dsf R x ≤ 3) (h150 : ∀ r : Int, 0 ≤ r → r < (R : Int) → S 150 r = ((dgt R x r.toNat : Nat) : Int)) (hq1 : ∀ x' σ', (∀ k, k ≠ 150 → σ' k = S k) → (∀ r : Int, 0 ≤ r → r < (R : Int) → σ' 150 r = ((dgt R x' r.toNat : Nat) : Int)) → x < x' → x' < 4 ^ R → dsf R x' = dsf R x → (∀ y, x < y → y < x' → dsf R y ≠ dsf R x) → K 1 σ') (hq0 : (∀ y, x < y → y < 4 ^ R → dsf R y ≠ dsf R x) → K 0 S) : wI (d + 2) 130 [.inr (.inr 0)] S Q K := by
  refine c130 (b130_0 ?_)
  rw [e5, show wr ((R : Int) - 1) = ((R - 1 : Nat) : Int) by rw [wr_id (by omega) (by omega)]; omega]
  exact l130 R1 R10 e5 xR x3 h150 hq1 hq0 (R - 1) (by omega) (fun r r0 r1 => absurd r1 (by omega))
theorem l129_3 {S0 : dS} {set e : Int} {R n : Nat} (hI0 : INV S0) (eR : S0 5 0 = (R : Int)) (R1 : 1 ≤ R) (n3 : n ≤ 3) (hm : ∀ m y, y < 4 ^ R → dsf R y = m → m < n → ¬ lP (nrm S0 70) set e y) (hy : ∀ x σ', FRM S0 σ' → (∀ r : Int, 0 ≤ r → r < (R : Int) → σ' 150 r = ((dgt R x r.toNat : Nat) : Int)) → LV (nrm S0 70) set e (n : Int) x → Q (.inl (some (.inl (n : Int)))) σ') (hno : (∀ y, y < 4 ^ R → dsf R y = n → ¬ lP (nrm S0 70) set e y) → ∀ σ', FRM S0 σ' → B129_6 (d + 10) Q set e (n : Int) σ') : ∀ (c x : Nat) (x4 : Int) (S : dS), 4 ^ R ≤ x + c → FRM S0 S → (∀ r : Int, 0 ≤ r → r < (R : Int) → S 150 r = ((dgt R x r.toNat : Nat) : Int)) → x < 4 ^ R → dsf R x = n → (∀ y, y < x → dsf R y = n → ¬ lP (nrm S0 70) set e y) → 0 ≤ x4 → x4 ≤ (cntR R n x : Nat) → B129_3 (d + 10) Q set e (n : Int) x4 S
  | 0, x, x4, S, hc, hF, h150, xR, hn, hx, h40, h4 => absurd xR (by omega)
  | c + 1, x, x4, S, hc, hF, h150, xR, hn, hx, h40, h4 => by
    have hI := INV_F hF hI0
    have hRo := (INV_c hI0).1
    have e5 : S 5 = S0 5 := hF.1 5 (by decide) (by decide) (by decide)
    have eN : nrm S 70 = nrm S0 70 := nrm_F hF
    have eRn : Rn (nrm S0 70) = R := by
      unfold Rn
      rw [nrm_c (k := 5) (by decide), eR]; omega
    have bound : cntR R n x < 220 := by
      have h1 : cntR R n (x + 1) = cntR R n x + 1 := by rw [cntR, if_pos hn]
      have h2 := cntR_mono R n (x := x + 1) (4 ^ R - (x + 1))
      rw [show x + 1 + (4 ^ R - (x + 1)) = 4 ^ R by omega, cntR_tt] at h2
      have h3 := tt_220 ⟨R, by omega⟩ ⟨n, by omega⟩
      simp only at h3
      omega
    refine b129_3 ⟨fun z => absurd z (by omega), fun _ => w131 (x := x) hI (fun r r0 r1 => ?_) (fun q σ1 g1 g2 => ⟨fun z => absurd z (by decide), fun _ => ?_⟩) (fun q σ1 g1 g2 => ⟨fun _ => b129_4 ?_, fun z => absurd rfl z⟩)⟩
    · rw [e5, eR] at r1
      rw [eN, eRn]; exact h150 r r0 r1
    · rw [eN] at q
      refine hy x σ1 (FRM_tr hF g1) (fun r r0 r1 => by rw [g2]; exact h150 r r0 r1) (Or.inr ⟨n, rfl, n3, by rw [eRn]; exact xR, by rw [eRn]; exact hn, q, fun m y yR ym h => ?_⟩)
      rw [eRn] at yR ym
      rcases h with w | ⟨w, w2⟩
      · exact hm m y yR ym w
      · exact hx y w2 (by omega)
    · rw [eN] at q
      have F1 := FRM_tr hF g1
      have e51 : σ1 5 0 = (R : Int) := by rw [F1.1 5 (by decide) (by decide) (by decide)]; exact eR
      have notx : ∀ y, y < x + 1 → dsf R y = n → ¬ lP (nrm S0 70) set e y := fun y y1 yn => by
        by_cases w : y = x
        · subst w; exact q
        · exact hx y (by omega) yn
      refine w130 R1 (by omega) e51 xR (by omega) (fun r r0 r1 => by rw [g2]; exact h150 r r0 r1) (fun x' σ2 p1 p2 p3 p4 p5 p6 => ⟨fun _ => b129_5 ?_, fun z => absurd (by decide) z⟩) (fun p => ⟨fun z => absurd rfl z, fun _ => hno (fun y yR yn => ?_) σ1 F1⟩)
      · rw [wr_id (by omega) (by omega)]
        have mono : cntR R n (x + 1) ≤ cntR R n x' := by
          have := cntR_mono R n (x := x + 1) (x' - (x + 1))
          rw [show x + 1 + (x' - (x + 1)) = x' by omega] at this
          exact this
        have h1 : cntR R n (x + 1) = cntR R n x + 1 := by rw [cntR, if_pos hn]
        refine l129_3 hI0 eR R1 n3 hm hy hno c x' (x4 + 1) σ2 (by omega) (FRM_tr F1 (FRM_c (fun k hk => p1 k (by omega)))) p2 p4 (by omega) (fun y y1 yn => ?_) (by omega) (by omega)
        by_cases w : y < x + 1
        · exact notx y w yn
        · exact absurd (yn.trans hn.symm) (p6 y (by omega) y1)
      · by_cases w : y < x + 1
        · exact notx y w yn
        · exact absurd (yn.trans hn.symm) (p y (by omega) yR)
theorem l129_2 {S0 : dS} {set e : Int} {R : Nat} (hI0 : INV S0) (eR : S0 5 0 = (R : Int)) (hy : ∀ (n : Nat) x σ', FRM S0 σ' → (∀ r : Int, 0 ≤ r → r < (R : Int) → σ' 150 r = ((dgt R x r.toNat : Nat) : Int)) → LV (nrm S0 70) set e (n : Int) x → Q (.inl (some (.inl (n : Int)))) σ') (hno : LV (nrm S0 70) set e (-1) 0 → ∀ σ', FRM S0 σ' → Q (.inl (some (.inl (-1)))) σ') : ∀ (c n : Nat) (S : dS), n + c = 4 → 1 ≤ n → FRM S0 S → (∀ m y, y < 4 ^ R → dsf R y = m → m < n → ¬ lP (nrm S0 70) set e y) → B129_2 (d + 10) Q set e (n : Int) S
  | c, n, S, hn, n1, hF, hm => by
    have hRo := (INV_c hI0).1
    have e5 : S 5 = S0 5 := hF.1 5 (by decide) (by decide) (by decide)
    have eRn : Rn (nrm S0 70) = R := by
      unfold Rn
      rw [nrm_c (k := 5) (by decide), eR]; omega
    have none_ : (∀ m y, m ≤ 3 → y < 4 ^ R → dsf R y = m → ¬ lP (nrm S0 70) set e y) → B129_7 (d + 10) Q S := fun h => b129_7 (hno (Or.inl ⟨rfl, rfl, fun m y m3 yR ym => by rw [eRn] at yR ym; exact h m y m3 yR ym⟩) S hF)
    refine b129_2 ⟨fun z => none_ (fun m y m3 yR ym => hm m y yR ym (by omega)), fun z => ⟨fun y => none_ (fun m y' m3 yR ym => ?_), fun y σ1 f1 σ2 f2 => ?_⟩⟩
    · rw [e5, eR] at y
      have R0 : R = 0 := by omega
      subst R0
      have : dsf 0 y' = 0 := rfl
      exact hm m y' yR ym (by omega)
    · rw [e5, eR] at y
      match c, hn with
      | 0, hn => exact absurd hn (by omega)
      | c + 1, hn =>
        have R1 : 1 ≤ R := by omega
        have hc1 : n + 1 + c = 4 := by omega
        have e51 : σ1 5 0 = (R : Int) := by
          rw [f1]
          unfold rfill
          rw [if_neg (fun q => absurd q.1 (by decide)), e5]; exact eR
        have ew : wr ((R : Int) - 1) = ((R - 1 : Nat) : Int) := by rw [wr_id (by omega) (by omega)]; omega
        rw [e51, ew, rput_in (by omega) (by omega)] at f2
        have F2 : FRM S0 σ2 := by
          refine FRM_tr hF (FRM_c (fun k hk => ?_))
          have k150 : k ≠ 150 := by omega
          rw [f2, up_k k150, f1]
          funext j
          unfold rfill
          rw [if_neg (fun q => k150 q.1)]
        have n4 : n < 4 := by omega
        have p4 : 4 ^ 1 ≤ 4 ^ R := Nat.pow_le_pow_right (by decide) R1
        have sm : ∀ z, z < 4 → dsf R z = z := fun z hz => dsf_small (by omega) hz
        refine l129_3 (S0 := S0) hI0 eR R1 (by omega) hm (fun x σ' => hy n x σ') (fun h σ' g => b129_6 ?_) (4 ^ R) n 0 σ2 (by omega) F2 (fun r r0 r1 => ?_) (by omega) (sm n n4) (fun y' y1 yn => ?_) (by omega) (by omega)
        · have ew2 : wr ((n : Int) + 1) = ((n + 1 : Nat) : Int) := by rw [wr_id (by omega) (by omega)]; omega
          rw [ew2]
          refine l129_2 hI0 eR hy hno c (n + 1) σ' hc1 (Nat.le_add_left 1 n) g (fun m y' yR ym m1 => ?_)
          by_cases w : m = n
          · exact h y' yR (ym.trans w)
          · exact hm m y' yR ym (Nat.lt_of_le_of_ne (Nat.lt_succ_iff.mp m1) w)
        · rw [f2, small_dgt (by omega) n4]
          by_cases w : r = ((R - 1 : Nat) : Int)
          · rw [w, up_same, if_pos (by omega)]
          · rw [up_i w, f1, if_neg (by omega)]
            unfold rfill
            rw [if_pos ⟨rfl, r0, by omega⟩]; rfl
        · rw [sm y' (by omega)] at yn; omega
theorem w129 {K : Int → dS → Prop} {set e : Int} (hI : INV S) (h : ∀ σ', FRM S σ' → ((lrV (nrm S 70) set e).1 = -1 ∨ (0 ≤ (lrV (nrm S 70) set e).1 ∧ (lrV (nrm S 70) set e).1 ≤ 3)) → ((lrV (nrm S 70) set e).1 ≠ -1 → ∀ r : Int, 0 ≤ r → r < S 5 0 → σ' 150 r = ((dgt (Rn (nrm S 70)) (lrV (nrm S 70) set e).2 r.toNat : Nat) : Int)) → K (lrV (nrm S 70) set e).1 σ') : wI (d + 13) 129 [.inr (.inr 0), .inl set, .inl e] S Q K := by
  have hRo := (INV_c hI).1
  have eR : S 5 0 = ((Rn (nrm S 70) : Nat) : Int) := by
    unfold Rn
    rw [nrm_c (k := 5) (by decide)]; omega
  have hyes : ∀ (n : Nat) x σ', FRM S σ' → (∀ r : Int, 0 ≤ r → r < ((Rn (nrm S 70) : Nat) : Int) → σ' 150 r = ((dgt (Rn (nrm S 70)) x r.toNat : Nat) : Int)) → LV (nrm S 70) set e (n : Int) x → K (n : Int) σ' := by
    intro n x σ' hF h150 hL
    have u := LV_u hL
    have n3 : (n : Int) ≤ 3 := by
      rcases hL with ⟨a, _⟩ | ⟨n2, a, b, _⟩
      · omega
      · omega
    have := h σ' hF (by rw [u.1]; omega) (fun _ r r0 r1 => by rw [u.2]; exact h150 r r0 (by rw [← eR]; exact r1))
    rw [u.1] at this
    exact this
  have hnone : LV (nrm S 70) set e (-1) 0 → ∀ σ', FRM S σ' → K (-1) σ' := by
    intro hL σ' hF
    have u := LV_u hL
    have := h σ' hF (by rw [u.1]; omega) (fun q => absurd u.1 q)
    rw [u.1] at this
    exact this
  refine c129 (b129_0 (fun σ1 f1 => ?_))
  have F1 : FRM S σ1 := FRM_c (fun k hk => by
    rw [f1]
    funext j
    unfold rfill
    rw [if_neg (fun q => hk (by rw [q.1]; decide))])
  have I1 := INV_F F1 hI
  have eN := nrm_F F1
  have e51 : σ1 5 = S 5 := F1.1 5 (by decide) (by decide) (by decide)
  have z0 : ∀ r, dgt (Rn (nrm S 70)) 0 r = 0 := fun r => by unfold dgt; rw [Nat.zero_div]
  have d150 : ∀ r : Int, 0 ≤ r → r < S 5 0 → σ1 150 r = ((dgt (Rn (nrm S 70)) 0 r.toNat : Nat) : Int) := fun r r0 r1 => by
    rw [f1, z0]
    unfold rfill
    rw [if_pos ⟨rfl, r0, by omega⟩]; rfl
  have p1 : 0 < 4 ^ Rn (nrm S 70) := Nat.pow_pos (by decide)
  refine w131 (x := 0) I1 (fun r r0 r1 => by rw [eN]; rw [e51] at r1; exact d150 r r0 r1) (fun q σ2 g1 g2 => ⟨fun z => absurd z (by decide), fun _ => ?_⟩) (fun q σ2 g1 g2 => ⟨fun _ => b129_1 ?_, fun z => absurd rfl z⟩)
  · rw [eN] at q
    exact hyes 0 0 σ2 (FRM_tr F1 g1) (fun r r0 r1 => by rw [g2]; exact d150 r r0 (by rw [eR]; exact r1)) (Or.inr ⟨0, rfl, by decide, p1, dsf_zero _, q, fun m y _ _ h => by omega⟩)
  · rw [eN] at q
    refine l129_2 (d := d + 1) (S0 := S) hI eR hyes hnone 3 1 σ2 (by decide) (by decide) (FRM_tr F1 g1) (fun m y yR ym m1 => ?_)
    have m0 : m = 0 := by omega
    subst m0
    by_cases w : y = 0
    · subst w; exact q
    · have := dsf_pos yR (by omega)
      omega
/-- what the class's lure leaves -/
def hLu (σ : dS) (x : Nat) (S : dS) : Prop := (∀ k, ¬ scr k → k ≠ 153 → k ≠ 174 → k ≠ 148 → k ≠ 0 → S k = σ k) ∧ (∀ j, j ≠ 0 → S 153 j = σ 153 j) ∧ (∀ j, 0 ≤ j → j < 19 → S 174 j = σ 174 j) ∧ (∀ j, j ≠ 17 → S 0 j = σ 0 j) ∧ S 0 17 = 1 ∧ ∀ r : Int, 0 ≤ r → r < σ 5 0 → S 148 r = ((dgt (Rn (nrm σ 70)) x r.toNat : Nat) : Int)
def luOK (σ : dS) (set m : Int) : Prop := (0 ≤ set ∧ set < shl 1 (σ 5 3)) ∧ 0 ≤ m
theorem x_lure {K : Int → dS → Prop} {set m : Int} (hI : INV σ) (hs : set < 2147483648) (h1 : luOK σ set m → (lrV (nrm σ 70) set (min m (σ 5 4))).1 = -1 → ∀ σ', FRM σ σ' → K (-1) σ') (h2 : luOK σ set m → (0 ≤ (lrV (nrm σ 70) set (min m (σ 5 4))).1 ∧ (lrV (nrm σ 70) set (min m (σ 5 4))).1 ≤ 3) → ∀ σ', hLu σ (lrV (nrm σ 70) set (min m (σ 5 4))).2 σ' → K (lrV (nrm σ 70) set (min m (σ 5 4))).1 σ') (h3 : ¬ luOK σ set m → Q (.inr 1) σ) : wI (d + 15) 127 [.inr (.inr 0), .inl set, .inl m] σ Q K := by
  have hP := (INV_c hI).2.2.1
  have hRo := (INV_c hI).1
  have eu : 0 ≤ set → (ush set (σ 5 3) ≠ 0 ↔ ¬ set < shl 1 (σ 5 3)) := by
    intro s0
    rw [ush_nat s0 hs hP.1 (by omega), shl1 hP.1 (by omega)]
    have pp : (0 : Int) < 2 ^ (σ 5 3).toNat := Int.pow_pos (by decide)
    generalize (2 : Int) ^ (σ 5 3).toNat = q at *
    constructor
    · intro h w
      exact h (Int.ediv_eq_zero_of_lt s0 w)
    · intro h w
      have h2 := Int.emod_add_mul_ediv set q
      have h3 := Int.emod_lt_of_pos set pp
      rw [w] at h2
      omega
  refine c127 (b127_0 ⟨fun z => b127_1 (h3 (fun q => by have := q.1.1; omega)), fun s0 => ⟨fun z => b127_1 (h3 (fun q => (eu (by omega)).mp z q.1.2)), fun z => ⟨fun m0 => b127_2 ?_, fun y => b127_1 (h3 (fun q => y q.2))⟩⟩⟩)
  have ok : luOK σ set m := ⟨⟨by omega, Decidable.of_not_not (fun q => z ((eu (by omega)).mpr q))⟩, m0⟩
  refine w129 hI (fun σ1 g1 g2 g3 => ⟨fun y => b127_3 ?_, fun y σ2 f2 => ⟨Or.inr rfl, fun σ3 f3 => b127_3 ?_⟩⟩)
  · have := h1 ok y σ1 g1
    rw [← y] at this
    exact this
  · refine h2 ok (g2.resolve_left y) σ3 ⟨fun k q1 q2 q3 q4 q5 => ?_, fun j hj => ?_, fun j j0 j1 => ?_, fun j hj => ?_, ?_, fun r r0 r1 => ?_⟩
    · rw [f3, up_k q5, f2, rcopy_k q4]; exact g1.1 k q1 q2 q3
    · rw [f3, up_k (by decide), f2, rcopy_k (by decide)]; exact g1.2.1 j hj
    · rw [f3, up_k (by decide), f2, rcopy_k (by decide)]; exact g1.2.2 j j0 j1
    · rw [f3, up_i hj, f2, rcopy_k (by decide), g1.1 0 (by decide) (by decide) (by decide)]
    · rw [f3, up_same]
    · rw [f3, up_k (by decide), f2, rcopy_in r0 (by omega) (by omega)]
      exact g3 y r r0 r1
end LUREC
