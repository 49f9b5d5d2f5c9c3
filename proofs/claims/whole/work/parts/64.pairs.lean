/-! THE CALLS THAT ONLY LOOK, IN PAIRS -/
def PRU (D y : Nat) (am : List dX) (v : Int) (σ1 : dS) : Prop := ∀ S, OUT S σ1 → ∀ (Qm : dR → dS → Prop) (Km : Int → dS → Prop), (∀ σ2, INV σ2 → Km v σ2) → wI D y am S Qm Km
theorem PRU_of {D y : Nat} {am : List dX} {v : Int} {σ1 : dS} (h : PRN D y am v σ1) : PRU D y am v σ1 := fun S hS Qm Km hk => h S hS Qm Km (fun σ2 _ hI => hk σ2 hI)
theorem p_lookU {σ : dS} {Q : dR → dS → Prop} {K : Int → dS → Prop} {D x y : Nat} {ax am : List dX} {val : Int} (hI : INV σ) (X : (∀ σ', FRM σ σ' → K val σ') → wI D x ax σ Q K) (M : ∀ S, FRM σ S → INV S → ∀ (Q : dR → dS → Prop) (K : Int → dS → Prop), (∀ σ', FRM S σ' → K val σ') → wI D y am S Q K) (h0 : ∀ v σ1, PRU D y am v σ1 → K v σ1) : wI D x ax σ Q K :=
  X (fun σ1 g => h0 val σ1 (fun S hS Qm Km hk => by
    have F := FRM_tr g (OUT_FRM hS)
    exact M S F (INV_F F hI) Qm Km (fun σ' g2 => hk σ' (INV_F (FRM_tr F g2) hI))))
section PAIRS
variable {d : Nat} {Q : dR → dS → Prop} {K : Int → dS → Prop} {σ S : dS}
theorem F_k (F : FRM σ S) (k : Nat) (h : ¬ scr k ∧ k ≠ 153 ∧ k ≠ 174 := by decide) : S k = σ k := F.1 k h.1 h.2.1 h.2.2
theorem p_fault (hI : INV σ) (h0 : ∀ v σ1, PRU (d + 20) 195 [.inr (.inr 153)] v σ1 → K v σ1) : wI (d + 20) 101 [.inr (.inr 0)] σ Q K :=
  p_lookU (val := σ 0 2) hI (fun h => x_fault (d := d + 18) (h σ (FRM_refl σ))) (fun S F hS Q K h => m_fault (d := d + 18) hS (fun σ' g => by rw [F_k F 0]; exact h σ' g)) h0
theorem p_count {w : Int} (hI : INV σ) (h0 : ∀ v σ1, PRN (d + 20) 214 [.inr (.inr 153), .inl w] v σ1 → K v σ1) (h1 : ∀ σ1, PRE (d + 20) 214 [.inr (.inr 153), .inl w] 1 σ1 → Q (.inr 0) σ1) : wI (d + 20) 102 [.inr (.inr 0), .inl w] σ Q K := by
  refine p_look (val := cntV σ w) (valid := 0 ≤ w ∧ w ≤ 16) hI (fun h g => x_count (d := d + 9) hI (fun a b => h ⟨a, b⟩) (fun z => g z σ (FRM_refl σ))) (fun S F hS Q K h g => m_count (d := d + 10) hS (fun a b σ' q1 q2 => ?_) g) h0 h1
  have e : cntV S w = cntV σ w := by
    unfold cntV
    rw [F_k F 5, F_k F 26, F_k F 70, nrm_F F, F_k F 75, F_k F 82, F_k F 0, F_k F 4]
  rw [e]; exact h ⟨a, b⟩ σ' q1 q2
theorem p_roof {r w : Int} (hI : INV σ) (h0 : ∀ v σ1, PRN (d + 20) 219 [.inr (.inr 153), .inl r, .inl w] v σ1 → K v σ1) (h1 : ∀ σ1, PRE (d + 20) 219 [.inr (.inr 153), .inl r, .inl w] 1 σ1 → Q (.inr 0) σ1) : wI (d + 20) 103 [.inr (.inr 0), .inl r, .inl w] σ Q K := by
  refine p_look (val := rofV σ r w) (valid := (0 ≤ r ∧ r < σ 5 0) ∧ (0 ≤ w ∧ w ≤ 4)) hI (fun h g => x_roof (d := d + 11) hI (fun a b => h ⟨a, b⟩) (fun z => g z σ (FRM_refl σ))) (fun S F hS Q K h g => m_roof (d := d + 11) hS (fun a b σ' q1 q2 => ?_) (by rw [F_k F 5]; exact g)) h0 h1
  have e : rofV S r w = rofV σ r w := by
    unfold rofV
    rw [F_k F 72, nrm_F F, F_k F 5, rdo_k (F_k F 21), nbo_k (F_k F 9)]
  rw [F_k F 5] at a
  rw [e]; exact h ⟨a, b⟩ σ' q1 q2
theorem p_flight {a b : Int} (hI : INV σ) (h0 : ∀ v σ1, PRN (d + 20) 220 [.inr (.inr 153), .inl a, .inl b] v σ1 → K v σ1) (h1 : ∀ σ1, PRE (d + 20) 220 [.inr (.inr 153), .inl a, .inl b] 1 σ1 → Q (.inr 0) σ1) : wI (d + 20) 104 [.inr (.inr 0), .inl a, .inl b] σ Q K := by
  refine p_look (val := if 0 < σ 9 (10 * a + b) then σ 9 (10 * a + b) else -1) (valid := (0 ≤ a ∧ a < σ 5 0) ∧ (0 ≤ b ∧ b < σ 5 0)) hI (fun h g => x_flight (d := d + 16) hI (fun q1 q2 => h ⟨q1, q2⟩ σ (FRM_refl σ)) (fun z => g z σ (FRM_refl σ))) (fun S F hS Q K h g => m_flight (d := d + 14) hS (fun q1 q2 σ' g1 g2 => ?_) (by rw [F_k F 5]; exact g)) h0 h1
  rw [F_k F 5] at q1 q2
  rw [F_k F 9]; exact h ⟨q1, q2⟩ σ' g1 g2
theorem p_owl {o w : Int} (hI : INV σ) (h0 : ∀ v σ1, PRN (d + 20) 222 [.inr (.inr 153), .inl o, .inl w] v σ1 → K v σ1) (h1 : ∀ σ1, PRE (d + 20) 222 [.inr (.inr 153), .inl o, .inl w] 1 σ1 → Q (.inr 0) σ1) : wI (d + 20) 105 [.inr (.inr 0), .inl o, .inl w] σ Q K := by
  refine p_look (val := owlV0 σ o w) (valid := (0 ≤ o ∧ o < σ 5 2) ∧ (0 ≤ w ∧ w ≤ 5)) hI (fun h g => x_owl (d := d + 11) hI (fun a b => h ⟨a, b⟩) (fun z => g z σ (FRM_refl σ))) (fun S F hS Q K h g => m_owl (d := d + 11) hS (fun a b σ' q1 q2 => ?_) (by rw [F_k F 5]; exact g)) h0 h1
  have e : owlV0 S o w = owlV0 σ o w := by
    unfold owlV0 nestb
    rw [F_k F 11, F_k F 74, F_k F 15, nrm_F F, F_k F 70]
  rw [F_k F 5] at a
  rw [e]; exact h ⟨a, b⟩ σ' q1 q2
theorem p_stop {o i w : Int} (hI : INV σ) (h0 : ∀ v σ1, PRN (d + 20) 223 [.inr (.inr 153), .inl o, .inl i, .inl w] v σ1 → K v σ1) (h1 : ∀ σ1, PRE (d + 20) 223 [.inr (.inr 153), .inl o, .inl i, .inl w] 1 σ1 → Q (.inr 0) σ1) : wI (d + 20) 106 [.inr (.inr 0), .inl o, .inl i, .inl w] σ Q K := by
  refine p_look (val := stpV σ o i w) (valid := (0 ≤ o ∧ o < σ 5 2) ∧ (0 ≤ i ∧ i < σ 15 o) ∧ (0 ≤ w ∧ w ≤ 2)) hI (fun h g => x_stop (d := d + 11) hI (fun a b c => h ⟨a, b, c⟩) (fun z => g z σ (FRM_refl σ))) (fun S F hS Q K h g => m_stop (d := d + 11) hS (fun a b c σ' q1 q2 => ?_) (by rw [F_k F 5, F_k F 15]; exact g)) h0 h1
  have e : stpV S o i w = stpV σ o i w := by
    unfold stpV nestb
    rw [F_k F 17, nrm_F F, F_k F 70]
  rw [F_k F 5] at a
  rw [F_k F 15] at b
  rw [e]; exact h ⟨a, b, c⟩ σ' q1 q2
theorem p_rider {p w : Int} (hI : INV σ) (h0 : ∀ v σ1, PRN (d + 20) 224 [.inr (.inr 153), .inl p, .inl w] v σ1 → K v σ1) (h1 : ∀ σ1, PRE (d + 20) 224 [.inr (.inr 153), .inl p, .inl w] 1 σ1 → Q (.inr 0) σ1) : wI (d + 20) 107 [.inr (.inr 0), .inl p, .inl w] σ Q K := by
  refine p_look (val := ridV σ p w) (valid := (0 ≤ p ∧ p < σ 5 3) ∧ (0 ≤ w ∧ w ≤ 3)) hI (fun h g => x_rider (d := d + 16) hI (fun a b => h ⟨a, b⟩ σ (FRM_refl σ)) (fun z => g z σ (FRM_refl σ))) (fun S F hS Q K h g => m_rider (d := d + 14) hS (fun a b σ' q1 q2 => ?_) (by rw [F_k F 5]; exact g)) h0 h1
  have e : ridV S p w = ridV σ p w := by
    unfold ridV
    rw [F_k F 19, F_k F 21, F_k F 23, F_k F 25]
  rw [F_k F 5] at a
  rw [e]; exact h ⟨a, b⟩ σ' q1 q2
theorem p_where {o m : Int} (hI : INV σ) (hm : m ≤ 2147483647) (h0 : ∀ v σ1, PRN (d + 20) 225 [.inr (.inr 153), .inl o, .inl m] v σ1 → K v σ1) (h1 : ∀ σ1, PRE (d + 20) 225 [.inr (.inr 153), .inl o, .inl m] 1 σ1 → Q (.inr 0) σ1) : wI (d + 20) 108 [.inr (.inr 0), .inl o, .inl m] σ Q K := by
  refine p_look (val := whr (nrm σ 70) o m) (valid := 0 ≤ o ∧ o < σ 5 2) hI (fun h g => x_where (d := d + 11) hI hm (fun a b => h ⟨a, b⟩) (fun z => g z σ (FRM_refl σ))) (fun S F hS Q K h g => m_where (d := d + 11) hS (fun a b σ' q1 q2 => ?_) (by rw [F_k F 5]; exact g)) h0 h1
  rw [F_k F 5] at b
  rw [nrm_F F]; exact h ⟨a, b⟩ σ' q1 q2
theorem p_home {p : Int} (hI : INV σ) (h0 : ∀ v σ1, PRN (d + 20) 233 [.inr (.inr 153), .inl p] v σ1 → K v σ1) (h1 : ∀ σ1, PRE (d + 20) 233 [.inr (.inr 153), .inl p] 1 σ1 → Q (.inr 0) σ1) : wI (d + 20) 120 [.inr (.inr 0), .inl p] σ Q K := by
  refine p_look (val := hmv (nrm σ 70) p) (valid := 0 ≤ p ∧ p < σ 5 3) hI (fun h g => x_home (d := d + 11) hI (fun a b => h ⟨a, b⟩) (fun z => g z σ (FRM_refl σ))) (fun S F hS Q K h g => m_home (d := d + 11) hS (fun a b σ' q1 q2 => ?_) (by rw [F_k F 5]; exact g)) h0 h1
  rw [F_k F 5] at b
  rw [nrm_F F]; exact h ⟨a, b⟩ σ' q1 q2
theorem p_changes {p : Int} (hI : INV σ) (h0 : ∀ v σ1, PRN (d + 20) 235 [.inr (.inr 153), .inl p] v σ1 → K v σ1) (h1 : ∀ σ1, PRE (d + 20) 235 [.inr (.inr 153), .inl p] 1 σ1 → Q (.inr 0) σ1) : wI (d + 20) 121 [.inr (.inr 0), .inl p] σ Q K := by
  refine p_look (val := if fwV (nrm σ 70) p 0 ≤ 0 then fwV (nrm σ 70) p 0 else fwV (nrm σ 70) p 0 - 1) (valid := 0 ≤ p ∧ p < σ 5 3) hI (fun h g => x_changes (d := d + 11) hI (fun a b => h ⟨a, b⟩) (fun z => g z σ (FRM_refl σ))) (fun S F hS Q K h g => m_changes (d := d + 11) hS (fun a b σ' q1 q2 => ?_) (by rw [F_k F 5]; exact g)) h0 h1
  rw [F_k F 5] at b
  rw [nrm_F F]; exact h ⟨a, b⟩ σ' q1 q2
theorem p_cheapest {p : Int} (hI : INV σ) (h0 : ∀ v σ1, PRN (d + 20) 236 [.inr (.inr 153), .inl p] v σ1 → K v σ1) (h1 : ∀ σ1, PRE (d + 20) 236 [.inr (.inr 153), .inl p] 1 σ1 → Q (.inr 0) σ1) : wI (d + 20) 122 [.inr (.inr 0), .inl p] σ Q K := by
  refine p_look (val := fwV (nrm σ 70) p 1) (valid := 0 ≤ p ∧ p < σ 5 3) hI (fun h g => x_cheapest (d := d + 11) hI (fun a b => h ⟨a, b⟩) (fun z => g z σ (FRM_refl σ))) (fun S F hS Q K h g => m_cheapest (d := d + 11) hS (fun a b σ' q1 q2 => ?_) (by rw [F_k F 5]; exact g)) h0 h1
  rw [F_k F 5] at b
  rw [nrm_F F]; exact h ⟨a, b⟩ σ' q1 q2
theorem p_last {p : Int} (hI : INV σ) (h0 : ∀ v σ1, PRN (d + 20) 237 [.inr (.inr 153), .inl p] v σ1 → K v σ1) (h1 : ∀ σ1, PRE (d + 20) 237 [.inr (.inr 153), .inl p] 1 σ1 → Q (.inr 0) σ1) : wI (d + 20) 123 [.inr (.inr 0), .inl p] σ Q K := by
  refine p_look (val := lsV (nrm σ 70) p) (valid := 0 ≤ p ∧ p < σ 5 3) hI (fun h g => x_last (d := d + 11) hI (fun a b => h ⟨a, b⟩) (fun z => g z σ (FRM_refl σ))) (fun S F hS Q K h g => m_last (d := d + 11) hS (fun a b σ' q1 q2 => ?_) (by rw [F_k F 5]; exact g)) h0 h1
  rw [F_k F 5] at b
  rw [nrm_F F]; exact h ⟨a, b⟩ σ' q1 q2
theorem p_never (hI : INV σ) (h0 : ∀ v σ1, PRU (d + 20) 238 [.inr (.inr 153)] v σ1 → K v σ1) : wI (d + 20) 124 [.inr (.inr 0)] σ Q K :=
  p_lookU (val := nvr (nrm σ 70) (σ 5 3).toNat) hI (fun h => x_never (d := d + 11) hI h) (fun S F hS Q K h => m_never (d := d + 11) hS (fun σ' g => by rw [nrm_F F, F_k F 5]; exact h σ' g)) h0
theorem p_more {r : Int} (hI : INV σ) (h0 : ∀ v σ1, PRN (d + 20) 241 [.inr (.inr 153), .inl r] v σ1 → K v σ1) (h1 : ∀ σ1, PRE (d + 20) 241 [.inr (.inr 153), .inl r] 1 σ1 → Q (.inr 0) σ1) : wI (d + 20) 128 [.inr (.inr 0), .inl r] σ Q K := by
  refine p_look (val := σ 148 r) (valid := (0 ≤ r ∧ r < σ 5 0) ∧ σ 0 17 = 1) hI (fun h g => x_more (d := d + 16) hI (fun a => h a σ (FRM_refl σ)) (fun z => g z σ (FRM_refl σ))) (fun S F hS Q K h g => m_more (d := d + 14) hS (fun a σ' q1 q2 => ?_) (by rw [F_k F 5, F_k F 0]; exact g)) h0 h1
  rw [F_k F 5, F_k F 0] at a
  rw [F_k F 148]; exact h a σ' q1 q2
theorem p_beams {n m w : Int} (hI : INV σ) (h0 : ∀ v σ1, PRN (d + 20) 242 [.inr (.inr 153), .inl n, .inl m, .inl w] v σ1 → K v σ1) (h1 : ∀ σ1, PRE (d + 20) 242 [.inr (.inr 153), .inl n, .inl m, .inl w] 1 σ1 → Q (.inr 0) σ1) (h2 : ∀ σ1, PRE (d + 20) 242 [.inr (.inr 153), .inl n, .inl m, .inl w] 2 σ1 → Q (.inr 1) σ1) : wI (d + 20) 132 [.inr (.inr 0), .inl n, .inl m, .inl w] σ Q K := by
  refine p_look2 (val := bmV σ n m w) (va := 0 ≤ w ∧ w ≤ 1) (vb := (0 ≤ n ∧ n ≤ 10) ∧ (0 ≤ m ∧ m ≤ 200)) hI (fun h g k => x_beams (d := d + 13) hI (fun a b c => h a ⟨b, c⟩) (fun z => g z σ (FRM_refl σ)) (fun a z => k a z σ (FRM_refl σ))) (fun S F hS Q K h g k => m_beams (d := d + 13) hS (fun a b c σ' q1 q2 => ?_) g k) h0 h1 h2
  have e : bmV S n m w = bmV σ n m w := by
    have eE := EW_k (F_k F 5) (F_k F 9)
    have e1 : ∀ x p r, rnp S m x p r = rnp σ m x p r := by
      intro x p r
      induction r with
      | zero => rfl
      | succ r ih => rw [rnp, rnp, ih, eE, F_k F 21]
    have e2 : ∀ x p, rnn S m x p = rnn σ m x p := by
      intro x p
      induction p with
      | zero => rfl
      | succ p ih => rw [rnn, rnn, ih, e1, F_k F 5]
    have e3 : ∀ x, bms S n m x = bms σ n m x := by
      intro x
      induction x with
      | zero => rfl
      | succ x ih => rw [bms, bms, ih, e2, F_k F 5]
    unfold bmV
    rw [e3, F_k F 5]
  rw [e]; exact h a ⟨b, c⟩ σ' q1 q2
theorem p_straps {s : Int} (hI : INV σ) (h0 : ∀ v σ1, PRN (d + 20) 246 [.inr (.inr 153), .inl s] v σ1 → K v σ1) (h1 : ∀ σ1, PRE (d + 20) 246 [.inr (.inr 153), .inl s] 1 σ1 → Q (.inr 1) σ1) : wI (d + 20) 133 [.inr (.inr 0), .inl s] σ Q K := by
  refine p_look (val := (stn (nrm σ 70) s (σ 5 3).toNat).2) (valid := 1 ≤ s ∧ s ≤ 8) hI (fun h g => x_straps (d := d + 11) hI (fun a b => h ⟨a, b⟩) (fun z => g z σ (FRM_refl σ))) (fun S F hS Q K h g => m_straps (d := d + 11) hS (fun a b σ' q1 q2 => ?_) g) h0 h1
  rw [nrm_F F, F_k F 5]; exact h ⟨a, b⟩ σ' q1 q2
theorem p_worth {o : Int} (hI : INV σ) (h0 : ∀ v σ1, PRN (d + 20) 248 [.inr (.inr 153), .inl o] v σ1 → K v σ1) (h1 : ∀ σ1, PRE (d + 20) 248 [.inr (.inr 153), .inl o] 1 σ1 → Q (.inr 0) σ1) : wI (d + 20) 134 [.inr (.inr 0), .inl o] σ Q K := by
  refine p_look (val := wrt (nrm σ 70) o) (valid := 0 ≤ o ∧ o < σ 5 2) hI (fun h g => x_worth (d := d + 7) hI (fun a b => h ⟨a, b⟩) (fun z => g z σ (FRM_refl σ))) (fun S F hS Q K h g => m_worth (d := d + 7) hS (fun a b σ' q1 q2 => ?_) (by rw [F_k F 5]; exact g)) h0 h1
  rw [F_k F 5] at b
  rw [nrm_F F]; exact h ⟨a, b⟩ σ' q1 q2
theorem p_vital (hI : INV σ) (h0 : ∀ v σ1, PRU (d + 20) 249 [.inr (.inr 153)] v σ1 → K v σ1) : wI (d + 20) 135 [.inr (.inr 0)] σ Q K :=
  p_lookU (val := vtl (nrm σ 70) (σ 5 2).toNat) hI (fun h => x_vital (d := d + 7) hI h) (fun S F hS Q K h => m_vital (d := d + 7) hS (fun σ' g => by rw [nrm_F F, F_k F 5]; exact h σ' g)) h0
theorem p_fits (hI : INV σ) (h0 : ∀ v σ1, PRU (d + 20) 259 [.inr (.inr 153)] v σ1 → K v σ1) : wI (d + 20) 139 [.inr (.inr 0)] σ Q K :=
  p_lookU (val := fts σ (nrm σ 70) 5) hI (fun h => x_fits (d := d + 7) hI h) (fun S F hS Q K h => m_fits (d := d + 7) hS (fun σ' g => by rw [nrm_F F, fts_kk (F_k F 26) (F_k F 82) (F_k F 84) (F_k F 86) (F_k F 88)]; exact h σ' g)) h0
theorem p_watch {m : Int} (hI : INV σ) (hm : m ≤ 2147483647) (h0 : ∀ v σ1, PRU (d + 20) 260 [.inr (.inr 153), .inl m] v σ1 → K v σ1) : wI (d + 20) 140 [.inr (.inr 0), .inl m] σ Q K :=
  p_lookU (val := wbs (ofd σ (nrm σ 70) m) (σ 5 0).toNat) hI (fun h => x_watch (d := d + 7) hI hm h) (fun S F hS Q K h => m_watch (d := d + 7) hS (fun σ' g => by
    have e : ofd S (nrm σ 70) m = ofd σ (nrm σ 70) m := by
      funext r
      unfold ofd
      rw [nft_k (F_k F 26) (F_k F 82) (F_k F 84) (F_k F 86) (F_k F 88), oft_k (F_k F 26) (F_k F 82) (F_k F 84) (F_k F 86) (F_k F 88)]
    rw [nrm_F F, F_k F 5, e]; exact h σ' g)) h0
theorem p_bats {w : Int} (hI : INV σ) (h0 : ∀ v σ1, PRN (d + 20) 263 [.inr (.inr 153), .inl w] v σ1 → K v σ1) (h1 : ∀ σ1, PRE (d + 20) 263 [.inr (.inr 153), .inl w] 1 σ1 → Q (.inr 0) σ1) : wI (d + 20) 145 [.inr (.inr 0), .inl w] σ Q K := by
  refine p_look (val := btV σ w) (valid := 0 ≤ w ∧ w ≤ 1) hI (fun h g => x_bats (d := d + 14) hI (fun a b => h ⟨a, b⟩ σ (FRM_refl σ)) (fun z => g z σ (FRM_refl σ))) (fun S F hS Q K h g => m_bats (d := d + 14) hS (fun a b σ' q1 q2 => ?_) g) h0 h1
  have e1 : ∀ p, tks S p = tks σ p := by
    have : ∀ p k, tkr S p k = tkr σ p k := by
      intro p k
      induction k with
      | zero => rfl
      | succ k ih => rw [tkr, tkr, ih, F_k F 25]
    intro p
    unfold tks
    rw [this, F_k F 5]
  have e2 : ∀ a b, rst S a b ↔ rst σ a b := by
    intro a b
    unfold rst rok ogn bgn
    simp only [e1]
  have e3 : ∀ a b, rsv S a b = rsv σ a b := by
    intro a b
    by_cases z : rst σ a b
    · rw [rsv_y z, rsv_y ((e2 a b).mpr z)]
    · have r1 : rsv σ a b = 0 := by unfold rsv; exact if_neg z
      have r2 : rsv S a b = 0 := by unfold rsv; exact if_neg (fun q => z ((e2 a b).mp q))
      rw [r1, r2]
  have e4 : ∀ a b q, bt1 S a b q = bt1 σ a b q := by
    intro a b q
    induction b with
    | zero => rfl
    | succ b ih => rw [bt1, bt1, ih, e3]
  have e5 : ∀ a, bt2 S a = bt2 σ a := by
    intro a
    induction a with
    | zero => rfl
    | succ a ih => rw [bt2, bt2, ih, e4]
  have e : btV S w = btV σ w := by unfold btV; rw [e5]
  rw [e]; exact h ⟨a, b⟩ σ' q1 q2
theorem p_years {s n w : Int} (hI : INV σ) (h0 : ∀ v σ1, PRN (d + 20) 264 [.inr (.inr 153), .inl s, .inl n, .inl w] v σ1 → K v σ1) (h1 : ∀ σ1, PRE (d + 20) 264 [.inr (.inr 153), .inl s, .inl n, .inl w] 1 σ1 → Q (.inr 0) σ1) (h2 : ∀ σ1, PRE (d + 20) 264 [.inr (.inr 153), .inl s, .inl n, .inl w] 2 σ1 → Q (.inr 1) σ1) : wI (d + 20) 149 [.inr (.inr 0), .inl s, .inl n, .inl w] σ Q K := by
  refine p_look2 (val := yrV (nrm σ 70) s n.toNat w) (va := 0 ≤ w ∧ w ≤ 2) (vb := 0 ≤ n ∧ n ≤ 60) hI (fun h g k => x_years (d := d + 9) hI (fun a b => h a b) (fun z => g z σ (FRM_refl σ)) (fun a z => k a z σ (FRM_refl σ))) (fun S F hS Q K h g k => m_years (d := d + 9) hS (fun a b σ' q1 q2 => ?_) g k) h0 h1 h2
  rw [nrm_F F]; exact h a b σ' q1 q2
theorem p_reach {p m : Int} (hI : INV σ) (h0 : ∀ v σ1, PRN (d + 20) 250 [.inr (.inr 153), .inl p, .inl m] v σ1 → K v σ1) (h1 : ∀ σ1, PRE (d + 20) 250 [.inr (.inr 153), .inl p, .inl m] 1 σ1 → Q (.inr 0) σ1) : wI (d + 20) 125 [.inr (.inr 0), .inl p, .inl m] σ Q K := by
  refine p_look (val := rch (nrm σ 70) p m (σ 5 0).toNat) (valid := 0 ≤ p ∧ p < σ 5 3) hI (fun h g => x_reach (d := d + 11) hI (fun a b => h ⟨a, b⟩) (fun z => g z σ (FRM_refl σ))) (fun S F hS Q K h g => m_reach (d := d + 11) hS (fun a b σ' q1 q2 => ?_) (by rw [F_k F 5]; exact g)) h0 h1
  rw [F_k F 5] at b
  rw [nrm_F F, F_k F 5]; exact h ⟨a, b⟩ σ' q1 q2
theorem p_late {o : Int} (hI : INV σ) (h0 : ∀ v σ1, PRN (d + 20) 251 [.inr (.inr 153), .inl o] v σ1 → K v σ1) (h1 : ∀ σ1, PRE (d + 20) 251 [.inr (.inr 153), .inl o] 1 σ1 → Q (.inr 0) σ1) : wI (d + 20) 150 [.inr (.inr 0), .inl o] σ Q K := by
  refine p_look (val := ltg (nrm σ 70) o 61) (valid := 0 ≤ o ∧ o < σ 5 2) hI (fun h g => x_late (d := d + 9) hI (fun a b => h ⟨a, b⟩) (fun z => g z σ (FRM_refl σ))) (fun S F hS Q K h g => m_late (d := d + 9) hS (fun a b σ' q1 q2 => ?_) (by rw [F_k F 5]; exact g)) h0 h1
  rw [F_k F 5] at b
  rw [nrm_F F]; exact h ⟨a, b⟩ σ' q1 q2
theorem p_best (hI : INV σ) (h0 : ∀ v σ1, PRU (d + 20) 253 [.inr (.inr 153)] v σ1 → K v σ1) : wI (d + 20) 151 [.inr (.inr 0)] σ Q K :=
  p_lookU (val := (bof (nrm σ 70) 0 (-1) (σ 26 0 + 1).toNat).1) hI (fun h => x_best (d := d + 9) hI h) (fun S F hS Q K h => m_best (d := d + 9) hS (fun σ' g => by rw [nrm_F F, F_k F 26]; exact h σ' g)) h0
theorem p_bright (hI : INV σ) (h0 : ∀ v σ1, PRU (d + 20) 254 [.inr (.inr 153)] v σ1 → K v σ1) : wI (d + 20) 152 [.inr (.inr 0)] σ Q K :=
  p_lookU (val := (bof (nrm σ 70) 1 0 8).1) hI (fun h => x_bright (d := d + 9) hI h) (fun S F hS Q K h => m_bright (d := d + 9) hS (fun σ' g => by rw [nrm_F F]; exact h σ' g)) h0
theorem p_hunter (hI : INV σ) (h0 : ∀ v σ1, PRU (d + 20) 255 [.inr (.inr 153)] v σ1 → K v σ1) : wI (d + 20) 153 [.inr (.inr 0)] σ Q K :=
  p_lookU (val := hnt (nrm σ 70) (σ 5 2).toNat) hI (fun h => x_hunter (d := d + 11) hI h) (fun S F hS Q K h => m_hunter (d := d + 11) hS (fun σ' g => by rw [nrm_F F, F_k F 5]; exact h σ' g)) h0
end PAIRS
