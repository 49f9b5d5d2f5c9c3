/-! BLOCKS AS CLEAN ROWS, by program (wip/whole/gen/g26.py) -/
/-- WingTrams.nextRow()Z, 130 -/
def M130 (lb : Nat) : List Bool := [[true, false, false], [true, true, false], [true, true, false], [false, false, false]].getD lb []
def B130_0 (d : Nat) (Q : dR → dS → Prop) (σ : dS) : Prop := UT d 130 Q 0 (0, 0) [some (.inr (.inr 0)), none, none] [] σ
def B130_1 (d : Nat) (Q : dR → dS → Prop) (x1 : Int) (σ : dS) : Prop := UT d 130 Q 1 (0, 0) [some (.inr (.inr 0)), some (.inl x1), none] [] σ
def B130_2 (d : Nat) (Q : dR → dS → Prop) (x1 : Int) (σ : dS) : Prop := UT d 130 Q 2 (0, 0) [some (.inr (.inr 0)), some (.inl x1), none] [] σ
def B130_3 (d : Nat) (Q : dR → dS → Prop) (σ : dS) : Prop := UT d 130 Q 3 (0, 0) [none, none, none] [] σ
theorem b130_0 {d : Nat} {Q : dR → dS → Prop} {σ : dS} (h : B130_1 d Q (wr ((σ 5 0) - 1)) σ) : B130_0 d Q σ := ut (m := M130) rfl h
theorem b130_1 {d : Nat} {Q : dR → dS → Prop} {x1 : Int} {σ : dS} (h : ((x1 ≤ 0) → B130_3 d Q σ) ∧ (¬ (x1 ≤ 0) → (((rat σ 150 10 x1) ≤ 0) → B130_2 d Q x1 σ) ∧ (¬ ((rat σ 150 10 x1) ≤ 0) → ∀ σ1 : dS, σ1 = rput σ 150 10 x1 0 → (∀ σ2 : dS, σ2 = rput σ1 150 10 (wr (x1 - 1)) (wr ((rat σ1 150 10 (wr (x1 - 1))) + 1)) → (∀ σ3 : dS, σ3 = rput σ2 150 10 (wr ((σ2 5 0) - 1)) (wr ((rat σ 150 10 x1) - 1)) → (((1 : Int) = 0 ∨ (1 : Int) = 1) ∧ Q (.inl (some (.inl 1))) σ3)))))) : B130_1 d Q x1 σ := ut (m := M130) rfl h
theorem b130_2 {d : Nat} {Q : dR → dS → Prop} {x1 : Int} {σ : dS} (h : B130_1 d Q (wr (x1 + (-1))) σ) : B130_2 d Q x1 σ := ut (m := M130) rfl h
theorem b130_3 {d : Nat} {Q : dR → dS → Prop} {σ : dS} (h : ((0 : Int) = 0 ∨ (0 : Int) = 1) ∧ Q (.inl (some (.inl 0))) σ) : B130_3 d Q σ := ut (m := M130) rfl h
theorem c130 {d : Nat} {Q : dR → dS → Prop} {K : Int → dS → Prop} {σ : dS} (h : B130_0 d (fun res σ1 => match res with | .inl (some (.inl v)) => K v σ1 | .inl _ => False | .inr e => Q (.inr e) σ1) σ) : wI (d + 2) 130 [.inr (.inr 0)] σ Q K := ut0 rfl (Nat.le_of_ble_eq_true rfl) h
/-- WingTrams.luresHome(II)Z, 131 -/
def M131 (lb : Nat) : List Bool := [[true, true, true, false, false], [true, true, true, true, false], [true, true, true, true, true], [true, true, true, false, false]].getD lb []
def B131_0 (d : Nat) (Q : dR → dS → Prop) (x1 x2 : Int) (σ : dS) : Prop := UT d 131 Q 0 (0, 0) [some (.inr (.inr 0)), some (.inl x1), some (.inl x2), none, none] [] σ
def B131_1 (d : Nat) (Q : dR → dS → Prop) (x1 x2 x3 : Int) (σ : dS) : Prop := UT d 131 Q 1 (0, 0) [some (.inr (.inr 0)), some (.inl x1), some (.inl x2), some (.inl x3), none] [] σ
def B131_2 (d : Nat) (Q : dR → dS → Prop) (x1 x2 x3 x4 : Int) (σ : dS) : Prop := UT d 131 Q 2 (0, 0) [some (.inr (.inr 0)), some (.inl x1), some (.inl x2), some (.inl x3), some (.inl x4)] [] σ
def B131_3 (d : Nat) (Q : dR → dS → Prop) (x1 x2 : Int) (σ : dS) : Prop := UT d 131 Q 3 (0, 0) [some (.inr (.inr 0)), some (.inl x1), some (.inl x2), none, none] [] σ
theorem b131_0 {d : Nat} {Q : dR → dS → Prop} {x1 x2 : Int} {σ : dS} (h : wV (d + 1) 22 [.inr (.inr 109), .inr (.inr 70)] σ Q (fun σ1 => B131_1 d Q x1 x2 0 σ1)) : B131_0 d Q x1 x2 σ := ut (m := M131) rfl h
theorem b131_1 {d : Nat} {Q : dR → dS → Prop} {x1 x2 x3 : Int} {σ : dS} (h : (((σ 5 0) ≤ x3) → B131_3 d Q x1 x2 σ) ∧ (¬ ((σ 5 0) ≤ x3) → (((rat σ 150 10 x3) ≤ 0) → B131_2 d Q x1 x2 x3 (wr ((rat σ 111 10 x3) + (rat σ 150 10 x3))) σ) ∧ (¬ ((rat σ 150 10 x3) ≤ 0) → (((wr ((rat σ 111 10 x3) + (rat σ 150 10 x3))) ≤ (9 : Int)) → B131_2 d Q x1 x2 x3 (wr ((rat σ 111 10 x3) + (rat σ 150 10 x3))) σ) ∧ (¬ ((wr ((rat σ 111 10 x3) + (rat σ 150 10 x3))) ≤ (9 : Int)) → ((0 : Int) = 0 ∨ (0 : Int) = 1) ∧ Q (.inl (some (.inl 0))) σ)))) : B131_1 d Q x1 x2 x3 σ := ut (m := M131) rfl h
theorem b131_2 {d : Nat} {Q : dR → dS → Prop} {x1 x2 x3 x4 : Int} {σ : dS} (h : ∀ σ1 : dS, σ1 = rput σ 111 10 x3 x4 → (B131_1 d Q x1 x2 (wr (x3 + 1)) σ1)) : B131_2 d Q x1 x2 x3 x4 σ := ut (m := M131) rfl h
theorem b131_3 {d : Nat} {Q : dR → dS → Prop} {x1 x2 : Int} {σ : dS} (h : wV (d + 1) 68 [.inr (.inr 114), .inr (.inr 109)] σ Q (fun σ1 => wI (d + 1) 81 [.inr (.inr 133), .inl x1, .inl x2] σ1 Q (fun v2 σ2 => (v2 = 0 ∨ v2 = 1) ∧ Q (.inl (some (.inl v2))) σ2))) : B131_3 d Q x1 x2 σ := ut (m := M131) rfl h
theorem c131 {d : Nat} {Q : dR → dS → Prop} {K : Int → dS → Prop} {x1 x2 : Int} {σ : dS} (h : B131_0 d (fun res σ1 => match res with | .inl (some (.inl v)) => K v σ1 | .inl _ => False | .inr e => Q (.inr e) σ1) x1 x2 σ) : wI (d + 2) 131 [.inr (.inr 0), .inl x1, .inl x2] σ Q K := ut0 rfl (Nat.le_of_ble_eq_true rfl) h
/-- WingTrams.beams(III)I, 132 -/
def M132 (lb : Nat) : List Bool := [[true, true, true, true], [false, false, false, false], [true, true, true, true], [false, false, false, false], [true, true, true, true], [true, false, false, false], [false, false, false, false]].getD lb []
def B132_0 (d : Nat) (Q : dR → dS → Prop) (x1 x2 x3 : Int) (σ : dS) : Prop := UT d 132 Q 0 (0, 0) [some (.inr (.inr 0)), some (.inl x1), some (.inl x2), some (.inl x3)] [] σ
def B132_1 (d : Nat) (Q : dR → dS → Prop) (σ : dS) : Prop := UT d 132 Q 1 (0, 0) [none, none, none, none] [] σ
def B132_2 (d : Nat) (Q : dR → dS → Prop) (x1 x2 x3 : Int) (σ : dS) : Prop := UT d 132 Q 2 (0, 0) [some (.inr (.inr 0)), some (.inl x1), some (.inl x2), some (.inl x3)] [] σ
def B132_3 (d : Nat) (Q : dR → dS → Prop) (σ : dS) : Prop := UT d 132 Q 3 (0, 0) [none, none, none, none] [] σ
def B132_4 (d : Nat) (Q : dR → dS → Prop) (x1 x2 x3 : Int) (σ : dS) : Prop := UT d 132 Q 4 (0, 0) [some (.inr (.inr 0)), some (.inl x1), some (.inl x2), some (.inl x3)] [] σ
def B132_5 (d : Nat) (Q : dR → dS → Prop) (σ : dS) : Prop := UT d 132 Q 5 (0, 0) [some (.inr (.inr 0)), none, none, none] [] σ
def B132_6 (d : Nat) (Q : dR → dS → Prop) (s0 : Int) (σ : dS) : Prop := UT d 132 Q 6 (0, 0) [none, none, none, none] [.inl s0] σ
theorem b132_0 {d : Nat} {Q : dR → dS → Prop} {x1 x2 x3 : Int} {σ : dS} (h : ((x3 < 0) → B132_1 d Q σ) ∧ (¬ (x3 < 0) → ((x3 ≤ (1 : Int)) → B132_2 d Q x1 x2 x3 σ) ∧ (¬ (x3 ≤ (1 : Int)) → B132_1 d Q σ))) : B132_0 d Q x1 x2 x3 σ := ut (m := M132) rfl h
theorem b132_1 {d : Nat} {Q : dR → dS → Prop} {σ : dS} (h : Q (.inr 0) σ) : B132_1 d Q σ := ut (m := M132) rfl h
theorem b132_2 {d : Nat} {Q : dR → dS → Prop} {x1 x2 x3 : Int} {σ : dS} (h : ((x1 < 0) → B132_3 d Q σ) ∧ (¬ (x1 < 0) → (((10 : Int) < x1) → B132_3 d Q σ) ∧ (¬ ((10 : Int) < x1) → ((x2 < 0) → B132_3 d Q σ) ∧ (¬ (x2 < 0) → ((x2 ≤ (200 : Int)) → B132_4 d Q x1 x2 x3 σ) ∧ (¬ (x2 ≤ (200 : Int)) → B132_3 d Q σ))))) : B132_2 d Q x1 x2 x3 σ := ut (m := M132) rfl h
theorem b132_3 {d : Nat} {Q : dR → dS → Prop} {σ : dS} (h : Q (.inr 1) σ) : B132_3 d Q σ := ut (m := M132) rfl h
theorem b132_4 {d : Nat} {Q : dR → dS → Prop} {x1 x2 x3 : Int} {σ : dS} (h : wV (d + 1) 92 [.inr (.inr 142), .inl x1, .inl x2] σ Q (fun σ1 => ((x3 ≠ 0) → B132_5 d Q σ1) ∧ (¬ (x3 ≠ 0) → B132_6 d Q (σ1 142 3) σ1))) : B132_4 d Q x1 x2 x3 σ := ut (m := M132) rfl h
theorem b132_5 {d : Nat} {Q : dR → dS → Prop} {σ : dS} (h : B132_6 d Q (σ 142 4) σ) : B132_5 d Q σ := ut (m := M132) rfl h
theorem b132_6 {d : Nat} {Q : dR → dS → Prop} {s0 : Int} {σ : dS} (h : Q (.inl (some (.inl s0))) σ) : B132_6 d Q s0 σ := ut (m := M132) rfl h
theorem c132 {d : Nat} {Q : dR → dS → Prop} {K : Int → dS → Prop} {x1 x2 x3 : Int} {σ : dS} (h : B132_0 d (fun res σ1 => match res with | .inl (some (.inl v)) => K v σ1 | .inl _ => False | .inr e => Q (.inr e) σ1) x1 x2 x3 σ) : wI (d + 2) 132 [.inr (.inr 0), .inl x1, .inl x2, .inl x3] σ Q K := ut0 rfl (Nat.le_of_ble_eq_true rfl) h
/-- WingTrams.straps(I)I, 133 -/
def M133 (lb : Nat) : List Bool := [[true, true], [false, false], [true, true]].getD lb []
def B133_0 (d : Nat) (Q : dR → dS → Prop) (x1 : Int) (σ : dS) : Prop := UT d 133 Q 0 (0, 0) [some (.inr (.inr 0)), some (.inl x1)] [] σ
def B133_1 (d : Nat) (Q : dR → dS → Prop) (σ : dS) : Prop := UT d 133 Q 1 (0, 0) [none, none] [] σ
def B133_2 (d : Nat) (Q : dR → dS → Prop) (x1 : Int) (σ : dS) : Prop := UT d 133 Q 2 (0, 0) [some (.inr (.inr 0)), some (.inl x1)] [] σ
theorem b133_0 {d : Nat} {Q : dR → dS → Prop} {x1 : Int} {σ : dS} (h : ((x1 < (1 : Int)) → B133_1 d Q σ) ∧ (¬ (x1 < (1 : Int)) → ((x1 ≤ (8 : Int)) → B133_2 d Q x1 σ) ∧ (¬ (x1 ≤ (8 : Int)) → B133_1 d Q σ))) : B133_0 d Q x1 σ := ut (m := M133) rfl h
theorem b133_1 {d : Nat} {Q : dR → dS → Prop} {σ : dS} (h : Q (.inr 1) σ) : B133_1 d Q σ := ut (m := M133) rfl h
theorem b133_2 {d : Nat} {Q : dR → dS → Prop} {x1 : Int} {σ : dS} (h : wV (d + 1) 68 [.inr (.inr 114), .inr (.inr 70)] σ Q (fun σ1 => wI (d + 1) 87 [.inr (.inr 133), .inl x1] σ1 Q (fun v2 σ2 => Q (.inl (some (.inl v2))) σ2))) : B133_2 d Q x1 σ := ut (m := M133) rfl h
theorem c133 {d : Nat} {Q : dR → dS → Prop} {K : Int → dS → Prop} {x1 : Int} {σ : dS} (h : B133_0 d (fun res σ1 => match res with | .inl (some (.inl v)) => K v σ1 | .inl _ => False | .inr e => Q (.inr e) σ1) x1 σ) : wI (d + 2) 133 [.inr (.inr 0), .inl x1] σ Q K := ut0 rfl (Nat.le_of_ble_eq_true rfl) h
/-- WingTrams.worth(I)I, 134 -/
def M134 (lb : Nat) : List Bool := [[true, true]].getD lb []
def B134_0 (d : Nat) (Q : dR → dS → Prop) (x1 : Int) (σ : dS) : Prop := UT d 134 Q 0 (0, 0) [some (.inr (.inr 0)), some (.inl x1)] [] σ
theorem b134_0 {d : Nat} {Q : dR → dS → Prop} {x1 : Int} {σ : dS} (h : wV (d + 1) 110 [.inr (.inr 0), .inl x1] σ Q (fun σ1 => wI (d + 1) 136 [.inr (.inr 0), .inl x1] σ1 Q (fun v2 σ2 => Q (.inl (some (.inl v2))) σ2))) : B134_0 d Q x1 σ := ut (m := M134) rfl h
theorem c134 {d : Nat} {Q : dR → dS → Prop} {K : Int → dS → Prop} {x1 : Int} {σ : dS} (h : B134_0 d (fun res σ1 => match res with | .inl (some (.inl v)) => K v σ1 | .inl _ => False | .inr e => Q (.inr e) σ1) x1 σ) : wI (d + 2) 134 [.inr (.inr 0), .inl x1] σ Q K := ut0 rfl (Nat.le_of_ble_eq_true rfl) h
/-- WingTrams.vital()I, 135 -/
def M135 (lb : Nat) : List Bool := [[true, false, false], [true, true, true], [true, true, true], [false, true, false]].getD lb []
def B135_0 (d : Nat) (Q : dR → dS → Prop) (σ : dS) : Prop := UT d 135 Q 0 (0, 0) [some (.inr (.inr 0)), none, none] [] σ
def B135_1 (d : Nat) (Q : dR → dS → Prop) (x1 x2 : Int) (σ : dS) : Prop := UT d 135 Q 1 (0, 0) [some (.inr (.inr 0)), some (.inl x1), some (.inl x2)] [] σ
def B135_2 (d : Nat) (Q : dR → dS → Prop) (x1 x2 : Int) (σ : dS) : Prop := UT d 135 Q 2 (0, 0) [some (.inr (.inr 0)), some (.inl x1), some (.inl x2)] [] σ
def B135_3 (d : Nat) (Q : dR → dS → Prop) (x1 : Int) (σ : dS) : Prop := UT d 135 Q 3 (0, 0) [none, some (.inl x1), none] [] σ
theorem b135_0 {d : Nat} {Q : dR → dS → Prop} {σ : dS} (h : B135_1 d Q 0 0 σ) : B135_0 d Q σ := ut (m := M135) rfl h
theorem b135_1 {d : Nat} {Q : dR → dS → Prop} {x1 x2 : Int} {σ : dS} (h : (((σ 5 2) ≤ x2) → B135_3 d Q x1 σ) ∧ (¬ ((σ 5 2) ≤ x2) → wI (d + 1) 136 [.inr (.inr 0), .inl x2] σ Q (fun v1 σ1 => ((v1 ≤ 0) → B135_2 d Q x1 x2 σ1) ∧ (¬ (v1 ≤ 0) → B135_2 d Q (ior x1 (shl 1 x2)) x2 σ1)))) : B135_1 d Q x1 x2 σ := ut (m := M135) rfl h
theorem b135_2 {d : Nat} {Q : dR → dS → Prop} {x1 x2 : Int} {σ : dS} (h : B135_1 d Q x1 (wr (x2 + 1)) σ) : B135_2 d Q x1 x2 σ := ut (m := M135) rfl h
theorem b135_3 {d : Nat} {Q : dR → dS → Prop} {x1 : Int} {σ : dS} (h : Q (.inl (some (.inl x1))) σ) : B135_3 d Q x1 σ := ut (m := M135) rfl h
theorem c135 {d : Nat} {Q : dR → dS → Prop} {K : Int → dS → Prop} {σ : dS} (h : B135_0 d (fun res σ1 => match res with | .inl (some (.inl v)) => K v σ1 | .inl _ => False | .inr e => Q (.inr e) σ1) σ) : wI (d + 2) 135 [.inr (.inr 0)] σ Q K := ut0 rfl (Nat.le_of_ble_eq_true rfl) h
/-- WingTrams.worthOf(I)I, 136 -/
def M136 (lb : Nat) : List Bool := [[true, true]].getD lb []
def B136_0 (d : Nat) (Q : dR → dS → Prop) (x1 : Int) (σ : dS) : Prop := UT d 136 Q 0 (0, 0) [some (.inr (.inr 0)), some (.inl x1)] [] σ
theorem b136_0 {d : Nat} {Q : dR → dS → Prop} {x1 : Int} {σ : dS} (h : wV (d + 1) 22 [.inr (.inr 109), .inr (.inr 70)] σ Q (fun σ1 => ∀ σ2 : dS, σ2 = up σ1 109 3 (ior (σ1 109 3) (shl 1 x1)) → (wI (d + 1) 126 [.inr (.inr 0), .inr (.inr 70)] σ2 Q (fun v3 σ3 => wI (d + 1) 126 [.inr (.inr 0), .inr (.inr 109)] σ3 Q (fun v4 σ4 => Q (.inl (some (.inl (wr (v3 - v4))))) σ4))))) : B136_0 d Q x1 σ := ut (m := M136) rfl h
theorem c136 {d : Nat} {Q : dR → dS → Prop} {K : Int → dS → Prop} {x1 : Int} {σ : dS} (h : B136_0 d (fun res σ1 => match res with | .inl (some (.inl v)) => K v σ1 | .inl _ => False | .inr e => Q (.inr e) σ1) x1 σ) : wI (d + 2) 136 [.inr (.inr 0), .inl x1] σ Q K := ut0 rfl (Nat.le_of_ble_eq_true rfl) h
/-- WingTrams.see(III)I, 137 -/
def M137 (lb : Nat) : List Bool := [[true, true, true, true], [true, false, false, false], [true, true, true, true]].getD lb []
def B137_0 (d : Nat) (Q : dR → dS → Prop) (x1 x2 x3 : Int) (σ : dS) : Prop := UT d 137 Q 0 (0, 0) [some (.inr (.inr 0)), some (.inl x1), some (.inl x2), some (.inl x3)] [] σ
def B137_1 (d : Nat) (Q : dR → dS → Prop) (σ : dS) : Prop := UT d 137 Q 1 (1, 6) [some (.inr (.inr 0)), none, none, none] [] σ
def B137_2 (d : Nat) (Q : dR → dS → Prop) (x1 x2 x3 : Int) (σ : dS) : Prop := UT d 137 Q 2 (1, 6) [some (.inr (.inr 0)), some (.inl x1), some (.inl x2), some (.inl x3)] [] σ
theorem b137_0 {d : Nat} {Q : dR → dS → Prop} {x1 x2 x3 : Int} {σ : dS} (h : wV (d + 1) 110 [.inr (.inr 0), .inl x1] σ Q (fun σ1 => (((8 : Int) ≤ (σ1 82 0)) → B137_1 d Q σ1) ∧ (¬ ((8 : Int) ≤ (σ1 82 0)) → ((x3 < (-1 : Int)) → B137_1 d Q σ1) ∧ (¬ (x3 < (-1 : Int)) → (((σ1 5 0) ≤ x3) → B137_1 d Q σ1) ∧ (¬ ((σ1 5 0) ≤ x3) → ((x2 < 0) → B137_1 d Q σ1) ∧ (¬ (x2 < 0) → ((x2 ≤ (600 : Int)) → B137_2 d Q x1 x2 x3 σ1) ∧ (¬ (x2 ≤ (600 : Int)) → B137_1 d Q σ1))))))) : B137_0 d Q x1 x2 x3 σ := ut (m := M137) rfl h
theorem b137_1 {d : Nat} {Q : dR → dS → Prop} {σ : dS} (h : wI (d + 1) 112 [.inr (.inr 0), .inl 2] σ Q (fun v1 σ1 => Q (.inl (some (.inl v1))) σ1)) : B137_1 d Q σ := ut (m := M137) rfl h
theorem b137_2 {d : Nat} {Q : dR → dS → Prop} {x1 x2 x3 : Int} {σ : dS} (h : wV (d + 1) 10 [.inr (.inr 82), .inl x1, .inl x2, .inl x3] σ Q (fun σ1 => Q (.inl (some (.inl (σ1 82 0)))) σ1)) : B137_2 d Q x1 x2 x3 σ := ut (m := M137) rfl h
theorem c137 {d : Nat} {Q : dR → dS → Prop} {K : Int → dS → Prop} {x1 x2 x3 : Int} {σ : dS} (h : B137_0 d (fun res σ1 => match res with | .inl (some (.inl v)) => K v σ1 | .inl _ => False | .inr e => Q (.inr e) σ1) x1 x2 x3 σ) : wI (d + 2) 137 [.inr (.inr 0), .inl x1, .inl x2, .inl x3] σ Q K := ut0 rfl (Nat.le_of_ble_eq_true rfl) h
/-- WingTrams.forget()V, 138 -/
def M138 (lb : Nat) : List Bool := [[true]].getD lb []
def B138_0 (d : Nat) (Q : dR → dS → Prop) (σ : dS) : Prop := UT d 138 Q 0 (0, 0) [some (.inr (.inr 0))] [] σ
theorem b138_0 {d : Nat} {Q : dR → dS → Prop} {σ : dS} (h : ∀ σ1 : dS, σ1 = up σ 82 0 0 → (Q (.inl none) σ1)) : B138_0 d Q σ := ut (m := M138) rfl h
theorem c138 {d : Nat} {Q : dR → dS → Prop} {K : dS → Prop} {σ : dS} (h : B138_0 d (fun res σ1 => match res with | .inl none => K σ1 | .inl (some _) => False | .inr e => Q (.inr e) σ1) σ) : wV (d + 2) 138 [.inr (.inr 0)] σ Q K := ut0 rfl (Nat.le_of_ble_eq_true rfl) h
/-- WingTrams.fits()I, 139 -/
def M139 (lb : Nat) : List Bool := [[true]].getD lb []
def B139_0 (d : Nat) (Q : dR → dS → Prop) (σ : dS) : Prop := UT d 139 Q 0 (0, 0) [some (.inr (.inr 0))] [] σ
theorem b139_0 {d : Nat} {Q : dR → dS → Prop} {σ : dS} (h : wI (d + 1) 141 [.inr (.inr 0)] σ Q (fun v1 σ1 => Q (.inl (some (.inl v1))) σ1)) : B139_0 d Q σ := ut (m := M139) rfl h
theorem c139 {d : Nat} {Q : dR → dS → Prop} {K : Int → dS → Prop} {σ : dS} (h : B139_0 d (fun res σ1 => match res with | .inl (some (.inl v)) => K v σ1 | .inl _ => False | .inr e => Q (.inr e) σ1) σ) : wI (d + 2) 139 [.inr (.inr 0)] σ Q K := ut0 rfl (Nat.le_of_ble_eq_true rfl) h
/-- WingTrams.watch(I)I, 140 -/
def M140 (lb : Nat) : List Bool := [[true, true, false, false, false, false, false], [true, true, true, true, true, true, false], [true, true, true, true, true, true, false], [true, false, true, true, true, false, false], [true, false, true, true, true, true, false], [true, false, true, true, true, true, false], [false, false, false, true, false, false, false]].getD lb []
def B140_0 (d : Nat) (Q : dR → dS → Prop) (x1 : Int) (σ : dS) : Prop := UT d 140 Q 0 (0, 0) [some (.inr (.inr 0)), some (.inl x1), none, none, none, none, none] [] σ
def B140_1 (d : Nat) (Q : dR → dS → Prop) (x1 x2 x3 x4 x5 : Int) (σ : dS) : Prop := UT d 140 Q 1 (0, 0) [some (.inr (.inr 0)), some (.inl x1), some (.inl x2), some (.inl x3), some (.inl x4), some (.inl x5), none] [] σ
def B140_2 (d : Nat) (Q : dR → dS → Prop) (x1 x2 x3 x4 x5 : Int) (σ : dS) : Prop := UT d 140 Q 2 (0, 0) [some (.inr (.inr 0)), some (.inl x1), some (.inl x2), some (.inl x3), some (.inl x4), some (.inl x5), none] [] σ
def B140_3 (d : Nat) (Q : dR → dS → Prop) (x2 x3 x4 : Int) (σ : dS) : Prop := UT d 140 Q 3 (0, 0) [some (.inr (.inr 0)), none, some (.inl x2), some (.inl x3), some (.inl x4), none, none] [] σ
def B140_4 (d : Nat) (Q : dR → dS → Prop) (x2 x3 x4 x5 : Int) (σ : dS) : Prop := UT d 140 Q 4 (0, 0) [some (.inr (.inr 0)), none, some (.inl x2), some (.inl x3), some (.inl x4), some (.inl x5), none] [] σ
def B140_5 (d : Nat) (Q : dR → dS → Prop) (x2 x3 x4 x5 : Int) (σ : dS) : Prop := UT d 140 Q 5 (0, 0) [some (.inr (.inr 0)), none, some (.inl x2), some (.inl x3), some (.inl x4), some (.inl x5), none] [] σ
def B140_6 (d : Nat) (Q : dR → dS → Prop) (x3 : Int) (σ : dS) : Prop := UT d 140 Q 6 (0, 0) [none, none, none, some (.inl x3), none, none, none] [] σ
theorem b140_0 {d : Nat} {Q : dR → dS → Prop} {x1 : Int} {σ : dS} (h : wI (d + 1) 141 [.inr (.inr 0)] σ Q (fun v1 σ1 => ∀ σ2 : dS, σ2 = rfill σ1 152 10 0 0 → (B140_1 d Q x1 v1 (-1) 2147483647 0 σ2))) : B140_0 d Q x1 σ := ut (m := M140) rfl h
theorem b140_1 {d : Nat} {Q : dR → dS → Prop} {x1 x2 x3 x4 x5 : Int} {σ : dS} (h : (((4 : Int) < x5) → B140_3 d Q x2 x3 x4 σ) ∧ (¬ ((4 : Int) < x5) → (((ian (shr x2 x5) 1) ≠ (1 : Int)) → B140_2 d Q x1 x2 x3 x4 x5 σ) ∧ (¬ ((ian (shr x2 x5) 1) ≠ (1 : Int)) → wV (d + 1) 142 [.inr (.inr 0), .inl x5] σ Q (fun σ1 => wV (d + 1) 144 [.inr (.inr 0), .inl x1] σ1 Q (fun σ2 => B140_2 d Q x1 x2 x3 x4 x5 σ2))))) : B140_1 d Q x1 x2 x3 x4 x5 σ := ut (m := M140) rfl h
theorem b140_2 {d : Nat} {Q : dR → dS → Prop} {x1 x2 x3 x4 x5 : Int} {σ : dS} (h : B140_1 d Q x1 x2 x3 x4 (wr (x5 + 1)) σ) : B140_2 d Q x1 x2 x3 x4 x5 σ := ut (m := M140) rfl h
theorem b140_3 {d : Nat} {Q : dR → dS → Prop} {x2 x3 x4 : Int} {σ : dS} (h : B140_4 d Q x2 x3 x4 0 σ) : B140_3 d Q x2 x3 x4 σ := ut (m := M140) rfl h
theorem b140_4 {d : Nat} {Q : dR → dS → Prop} {x2 x3 x4 x5 : Int} {σ : dS} (h : (((σ 5 0) ≤ x5) → B140_6 d Q x3 σ) ∧ (¬ ((σ 5 0) ≤ x5) → wI (d + 1) 0 [.inl x2] σ Q (fun v1 σ1 => wI (d + 1) 1 [.inl (wr ((wr (2 * (rat σ 152 10 x5))) - v1))] σ1 Q (fun v2 σ2 => ((x4 ≤ v2) → B140_5 d Q x2 x3 x4 x5 σ2) ∧ (¬ (x4 ≤ v2) → B140_5 d Q x2 x5 v2 x5 σ2))))) : B140_4 d Q x2 x3 x4 x5 σ := ut (m := M140) rfl h
theorem b140_5 {d : Nat} {Q : dR → dS → Prop} {x2 x3 x4 x5 : Int} {σ : dS} (h : B140_4 d Q x2 x3 x4 (wr (x5 + 1)) σ) : B140_5 d Q x2 x3 x4 x5 σ := ut (m := M140) rfl h
theorem b140_6 {d : Nat} {Q : dR → dS → Prop} {x3 : Int} {σ : dS} (h : Q (.inl (some (.inl x3))) σ) : B140_6 d Q x3 σ := ut (m := M140) rfl h
theorem c140 {d : Nat} {Q : dR → dS → Prop} {K : Int → dS → Prop} {x1 : Int} {σ : dS} (h : B140_0 d (fun res σ1 => match res with | .inl (some (.inl v)) => K v σ1 | .inl _ => False | .inr e => Q (.inr e) σ1) x1 σ) : wI (d + 2) 140 [.inr (.inr 0), .inl x1] σ Q K := ut0 rfl (Nat.le_of_ble_eq_true rfl) h
/-- WingTrams.fitting()I, 141 -/
def M141 (lb : Nat) : List Bool := [[true, false, false], [true, true, true], [true, true, true], [true, true, true], [false, true, false]].getD lb []
def B141_0 (d : Nat) (Q : dR → dS → Prop) (σ : dS) : Prop := UT d 141 Q 0 (0, 0) [some (.inr (.inr 0)), none, none] [] σ
def B141_1 (d : Nat) (Q : dR → dS → Prop) (x1 x2 : Int) (σ : dS) : Prop := UT d 141 Q 1 (0, 0) [some (.inr (.inr 0)), some (.inl x1), some (.inl x2)] [] σ
def B141_2 (d : Nat) (Q : dR → dS → Prop) (x1 x2 : Int) (σ : dS) : Prop := UT d 141 Q 2 (0, 0) [some (.inr (.inr 0)), some (.inl x1), some (.inl x2)] [] σ
def B141_3 (d : Nat) (Q : dR → dS → Prop) (x1 x2 : Int) (σ : dS) : Prop := UT d 141 Q 3 (0, 0) [some (.inr (.inr 0)), some (.inl x1), some (.inl x2)] [] σ
def B141_4 (d : Nat) (Q : dR → dS → Prop) (x1 : Int) (σ : dS) : Prop := UT d 141 Q 4 (0, 0) [none, some (.inl x1), none] [] σ
theorem b141_0 {d : Nat} {Q : dR → dS → Prop} {σ : dS} (h : B141_1 d Q 0 0 σ) : B141_0 d Q σ := ut (m := M141) rfl h
theorem b141_1 {d : Nat} {Q : dR → dS → Prop} {x1 x2 : Int} {σ : dS} (h : (((4 : Int) < x2) → B141_4 d Q x1 σ) ∧ (¬ ((4 : Int) < x2) → ((x2 < (σ 26 0)) → B141_2 d Q x1 x2 σ) ∧ (¬ (x2 < (σ 26 0)) → ((x2 ≠ (4 : Int)) → B141_3 d Q x1 x2 σ) ∧ (¬ (x2 ≠ (4 : Int)) → B141_2 d Q x1 x2 σ)))) : B141_1 d Q x1 x2 σ := ut (m := M141) rfl h
theorem b141_2 {d : Nat} {Q : dR → dS → Prop} {x1 x2 : Int} {σ : dS} (h : wV (d + 1) 142 [.inr (.inr 0), .inl x2] σ Q (fun σ1 => wI (d + 1) 143 [.inr (.inr 0)] σ1 Q (fun v2 σ2 => ((v2 = 0) → B141_3 d Q x1 x2 σ2) ∧ (¬ (v2 = 0) → B141_3 d Q (ior x1 (shl 1 x2)) x2 σ2)))) : B141_2 d Q x1 x2 σ := ut (m := M141) rfl h
theorem b141_3 {d : Nat} {Q : dR → dS → Prop} {x1 x2 : Int} {σ : dS} (h : B141_1 d Q x1 (wr (x2 + 1)) σ) : B141_3 d Q x1 x2 σ := ut (m := M141) rfl h
theorem b141_4 {d : Nat} {Q : dR → dS → Prop} {x1 : Int} {σ : dS} (h : Q (.inl (some (.inl x1))) σ) : B141_4 d Q x1 σ := ut (m := M141) rfl h
theorem c141 {d : Nat} {Q : dR → dS → Prop} {K : Int → dS → Prop} {σ : dS} (h : B141_0 d (fun res σ1 => match res with | .inl (some (.inl v)) => K v σ1 | .inl _ => False | .inr e => Q (.inr e) σ1) σ) : wI (d + 2) 141 [.inr (.inr 0)] σ Q K := ut0 rfl (Nat.le_of_ble_eq_true rfl) h
/-- WingTrams.passBy(I)V, 142 -/
def M142 (lb : Nat) : List Bool := [[true, true], [true, true], [true, false]].getD lb []
def B142_0 (d : Nat) (Q : dR → dS → Prop) (x1 : Int) (σ : dS) : Prop := UT d 142 Q 0 (0, 0) [some (.inr (.inr 0)), some (.inl x1)] [] σ
def B142_1 (d : Nat) (Q : dR → dS → Prop) (x1 : Int) (σ : dS) : Prop := UT d 142 Q 1 (0, 0) [some (.inr (.inr 0)), some (.inl x1)] [.inr (.inr 109)] σ
def B142_2 (d : Nat) (Q : dR → dS → Prop) (s0 : Int) (σ : dS) : Prop := UT d 142 Q 2 (0, 0) [some (.inr (.inr 0)), none] [.inl s0, .inr (.inr 109)] σ
theorem b142_0 {d : Nat} {Q : dR → dS → Prop} {x1 : Int} {σ : dS} (h : wV (d + 1) 22 [.inr (.inr 109), .inr (.inr 70)] σ Q (fun σ1 => ((x1 ≠ (4 : Int)) → B142_1 d Q x1 σ1) ∧ (¬ (x1 ≠ (4 : Int)) → B142_2 d Q (-1) σ1))) : B142_0 d Q x1 σ := ut (m := M142) rfl h
theorem b142_1 {d : Nat} {Q : dR → dS → Prop} {x1 : Int} {σ : dS} (h : B142_2 d Q x1 σ) : B142_1 d Q x1 σ := ut (m := M142) rfl h
theorem b142_2 {d : Nat} {Q : dR → dS → Prop} {s0 : Int} {σ : dS} (h : ∀ σ1 : dS, σ1 = up σ 109 0 s0 → (wV (d + 1) 68 [.inr (.inr 114), .inr (.inr 109)] σ1 Q (fun σ2 => Q (.inl none) σ2))) : B142_2 d Q s0 σ := ut (m := M142) rfl h
theorem c142 {d : Nat} {Q : dR → dS → Prop} {K : dS → Prop} {x1 : Int} {σ : dS} (h : B142_0 d (fun res σ1 => match res with | .inl none => K σ1 | .inl (some _) => False | .inr e => Q (.inr e) σ1) x1 σ) : wV (d + 2) 142 [.inr (.inr 0), .inl x1] σ Q K := ut0 rfl (Nat.le_of_ble_eq_true rfl) h
/-- WingTrams.allSeenIsSo()Z, 143 -/
def M143 (lb : Nat) : List Bool := [[true, false], [true, true], [true, true], [false, false]].getD lb []
def B143_0 (d : Nat) (Q : dR → dS → Prop) (σ : dS) : Prop := UT d 143 Q 0 (0, 0) [some (.inr (.inr 0)), none] [] σ
def B143_1 (d : Nat) (Q : dR → dS → Prop) (x1 : Int) (σ : dS) : Prop := UT d 143 Q 1 (0, 0) [some (.inr (.inr 0)), some (.inl x1)] [] σ
def B143_2 (d : Nat) (Q : dR → dS → Prop) (x1 : Int) (σ : dS) : Prop := UT d 143 Q 2 (0, 0) [some (.inr (.inr 0)), some (.inl x1)] [] σ
def B143_3 (d : Nat) (Q : dR → dS → Prop) (σ : dS) : Prop := UT d 143 Q 3 (0, 0) [none, none] [] σ
theorem b143_0 {d : Nat} {Q : dR → dS → Prop} {σ : dS} (h : B143_1 d Q 0 σ) : B143_0 d Q σ := ut (m := M143) rfl h
theorem b143_1 {d : Nat} {Q : dR → dS → Prop} {x1 : Int} {σ : dS} (h : (((σ 82 0) ≤ x1) → B143_3 d Q σ) ∧ (¬ ((σ 82 0) ≤ x1) → wI (d + 1) 74 [.inr (.inr 114), .inl (rat σ 84 8 x1), .inl (rat σ 86 8 x1)] σ Q (fun v1 σ1 => ((v1 = (rat σ1 88 8 x1)) → B143_2 d Q x1 σ1) ∧ (¬ (v1 = (rat σ1 88 8 x1)) → ((0 : Int) = 0 ∨ (0 : Int) = 1) ∧ Q (.inl (some (.inl 0))) σ1)))) : B143_1 d Q x1 σ := ut (m := M143) rfl h
theorem b143_2 {d : Nat} {Q : dR → dS → Prop} {x1 : Int} {σ : dS} (h : B143_1 d Q (wr (x1 + 1)) σ) : B143_2 d Q x1 σ := ut (m := M143) rfl h
theorem b143_3 {d : Nat} {Q : dR → dS → Prop} {σ : dS} (h : ((1 : Int) = 0 ∨ (1 : Int) = 1) ∧ Q (.inl (some (.inl 1))) σ) : B143_3 d Q σ := ut (m := M143) rfl h
theorem c143 {d : Nat} {Q : dR → dS → Prop} {K : Int → dS → Prop} {σ : dS} (h : B143_0 d (fun res σ1 => match res with | .inl (some (.inl v)) => K v σ1 | .inl _ => False | .inr e => Q (.inr e) σ1) σ) : wI (d + 2) 143 [.inr (.inr 0)] σ Q K := ut0 rfl (Nat.le_of_ble_eq_true rfl) h
/-- WingTrams.countSeen(I)V, 144 -/
def M144 (lb : Nat) : List Bool := [[true, true, false, false, false], [true, true, true, true, false], [true, true, true, true, false], [false, false, false, false, false]].getD lb []
def B144_0 (d : Nat) (Q : dR → dS → Prop) (x1 : Int) (σ : dS) : Prop := UT d 144 Q 0 (0, 0) [some (.inr (.inr 0)), some (.inl x1), none, none, none] [] σ
def B144_1 (d : Nat) (Q : dR → dS → Prop) (x1 x2 x3 : Int) (σ : dS) : Prop := UT d 144 Q 1 (0, 0) [some (.inr (.inr 0)), some (.inl x1), some (.inl x2), some (.inl x3), none] [] σ
def B144_2 (d : Nat) (Q : dR → dS → Prop) (x1 x2 x3 : Int) (σ : dS) : Prop := UT d 144 Q 2 (0, 0) [some (.inr (.inr 0)), some (.inl x1), some (.inl x2), some (.inl x3), none] [] σ
def B144_3 (d : Nat) (Q : dR → dS → Prop) (σ : dS) : Prop := UT d 144 Q 3 (0, 0) [none, none, none, none, none] [] σ
theorem b144_0 {d : Nat} {Q : dR → dS → Prop} {x1 : Int} {σ : dS} (h : B144_1 d Q x1 0 0 σ) : B144_0 d Q x1 σ := ut (m := M144) rfl h
theorem b144_1 {d : Nat} {Q : dR → dS → Prop} {x1 x2 x3 : Int} {σ : dS} (h : (((σ 5 2) ≤ x3) → B144_3 d Q σ) ∧ (¬ ((σ 5 2) ≤ x3) → wI (d + 1) 74 [.inr (.inr 114), .inl x3, .inl x1] σ Q (fun v1 σ1 => ((v1 < 0) → B144_2 d Q x1 x2 x3 σ1) ∧ (¬ (v1 < 0) → (((ian (shr x2 v1) 1) ≠ 0) → B144_2 d Q x1 x2 x3 σ1) ∧ (¬ ((ian (shr x2 v1) 1) ≠ 0) → ∀ σ2 : dS, σ2 = rput σ1 152 10 v1 (wr ((rat σ1 152 10 v1) + 1)) → (B144_2 d Q x1 (ior x2 (shl 1 v1)) x3 σ2)))))) : B144_1 d Q x1 x2 x3 σ := ut (m := M144) rfl h
theorem b144_2 {d : Nat} {Q : dR → dS → Prop} {x1 x2 x3 : Int} {σ : dS} (h : B144_1 d Q x1 x2 (wr (x3 + 1)) σ) : B144_2 d Q x1 x2 x3 σ := ut (m := M144) rfl h
theorem b144_3 {d : Nat} {Q : dR → dS → Prop} {σ : dS} (h : Q (.inl none) σ) : B144_3 d Q σ := ut (m := M144) rfl h
theorem c144 {d : Nat} {Q : dR → dS → Prop} {K : dS → Prop} {x1 : Int} {σ : dS} (h : B144_0 d (fun res σ1 => match res with | .inl none => K σ1 | .inl (some _) => False | .inr e => Q (.inr e) σ1) x1 σ) : wV (d + 2) 144 [.inr (.inr 0), .inl x1] σ Q K := ut0 rfl (Nat.le_of_ble_eq_true rfl) h
/-- WingTrams.bats(I)I, 145 -/
def M145 (lb : Nat) : List Bool := [[true, true, false, false, false, false], [false, false, false, false, false, false], [true, true, false, false, false, false], [true, true, true, true, true, false], [true, true, true, true, true, true], [true, true, true, true, true, true], [true, true, true, false, true, true], [true, true, true, true, true, true], [true, true, true, true, true, false], [false, true, true, true, false, false], [false, false, false, true, false, false], [false, false, false, false, false, false]].getD lb []
def B145_0 (d : Nat) (Q : dR → dS → Prop) (x1 : Int) (σ : dS) : Prop := UT d 145 Q 0 (0, 0) [some (.inr (.inr 0)), some (.inl x1), none, none, none, none] [] σ
def B145_1 (d : Nat) (Q : dR → dS → Prop) (σ : dS) : Prop := UT d 145 Q 1 (0, 0) [none, none, none, none, none, none] [] σ
def B145_2 (d : Nat) (Q : dR → dS → Prop) (x1 : Int) (σ : dS) : Prop := UT d 145 Q 2 (0, 0) [some (.inr (.inr 0)), some (.inl x1), none, none, none, none] [] σ
def B145_3 (d : Nat) (Q : dR → dS → Prop) (x1 x2 x3 x4 : Int) (σ : dS) : Prop := UT d 145 Q 3 (0, 0) [some (.inr (.inr 0)), some (.inl x1), some (.inl x2), some (.inl x3), some (.inl x4), none] [] σ
def B145_4 (d : Nat) (Q : dR → dS → Prop) (x1 x2 x3 x4 x5 : Int) (σ : dS) : Prop := UT d 145 Q 4 (0, 0) [some (.inr (.inr 0)), some (.inl x1), some (.inl x2), some (.inl x3), some (.inl x4), some (.inl x5)] [] σ
def B145_5 (d : Nat) (Q : dR → dS → Prop) (x1 x2 x3 x4 x5 : Int) (σ : dS) : Prop := UT d 145 Q 5 (0, 0) [some (.inr (.inr 0)), some (.inl x1), some (.inl x2), some (.inl x3), some (.inl x4), some (.inl x5)] [] σ
def B145_6 (d : Nat) (Q : dR → dS → Prop) (x1 x2 x4 x5 s0 : Int) (σ : dS) : Prop := UT d 145 Q 6 (0, 0) [some (.inr (.inr 0)), some (.inl x1), some (.inl x2), none, some (.inl x4), some (.inl x5)] [.inl s0] σ
def B145_7 (d : Nat) (Q : dR → dS → Prop) (x1 x2 x3 x4 x5 : Int) (σ : dS) : Prop := UT d 145 Q 7 (0, 0) [some (.inr (.inr 0)), some (.inl x1), some (.inl x2), some (.inl x3), some (.inl x4), some (.inl x5)] [] σ
def B145_8 (d : Nat) (Q : dR → dS → Prop) (x1 x2 x3 x4 : Int) (σ : dS) : Prop := UT d 145 Q 8 (0, 0) [some (.inr (.inr 0)), some (.inl x1), some (.inl x2), some (.inl x3), some (.inl x4), none] [] σ
def B145_9 (d : Nat) (Q : dR → dS → Prop) (x1 x2 x3 : Int) (σ : dS) : Prop := UT d 145 Q 9 (0, 0) [none, some (.inl x1), some (.inl x2), some (.inl x3), none, none] [] σ
def B145_10 (d : Nat) (Q : dR → dS → Prop) (x3 : Int) (σ : dS) : Prop := UT d 145 Q 10 (0, 0) [none, none, none, some (.inl x3), none, none] [] σ
def B145_11 (d : Nat) (Q : dR → dS → Prop) (s0 : Int) (σ : dS) : Prop := UT d 145 Q 11 (0, 0) [none, none, none, none, none, none] [.inl s0] σ
theorem b145_0 {d : Nat} {Q : dR → dS → Prop} {x1 : Int} {σ : dS} (h : ((x1 < 0) → B145_1 d Q σ) ∧ (¬ (x1 < 0) → ((x1 ≤ (1 : Int)) → B145_2 d Q x1 σ) ∧ (¬ (x1 ≤ (1 : Int)) → B145_1 d Q σ))) : B145_0 d Q x1 σ := ut (m := M145) rfl h
theorem b145_1 {d : Nat} {Q : dR → dS → Prop} {σ : dS} (h : Q (.inr 0) σ) : B145_1 d Q σ := ut (m := M145) rfl h
theorem b145_2 {d : Nat} {Q : dR → dS → Prop} {x1 : Int} {σ : dS} (h : B145_3 d Q x1 0 (-1) 1 σ) : B145_2 d Q x1 σ := ut (m := M145) rfl h
theorem b145_3 {d : Nat} {Q : dR → dS → Prop} {x1 x2 x3 x4 : Int} {σ : dS} (h : (((9 : Int) < x4) → B145_9 d Q x1 x2 x3 σ) ∧ (¬ ((9 : Int) < x4) → B145_4 d Q x1 x2 x3 x4 1 σ)) : B145_3 d Q x1 x2 x3 x4 σ := ut (m := M145) rfl h
theorem b145_4 {d : Nat} {Q : dR → dS → Prop} {x1 x2 x3 x4 x5 : Int} {σ : dS} (h : (((9 : Int) < x5) → B145_8 d Q x1 x2 x3 x4 σ) ∧ (¬ ((9 : Int) < x5) → wI (d + 1) 146 [.inr (.inr 0), .inl x4, .inl x5] σ Q (fun v1 σ1 => ((v1 = 0) → B145_7 d Q x1 x2 x3 x4 x5 σ1) ∧ (¬ (v1 = 0) → ((x3 ≠ (-1 : Int)) → B145_5 d Q x1 (wr (x2 + 1)) x3 x4 x5 σ1) ∧ (¬ (x3 ≠ (-1 : Int)) → B145_6 d Q x1 (wr (x2 + 1)) x4 x5 (wr ((wr (10 * x4)) + x5)) σ1))))) : B145_4 d Q x1 x2 x3 x4 x5 σ := ut (m := M145) rfl h
theorem b145_5 {d : Nat} {Q : dR → dS → Prop} {x1 x2 x3 x4 x5 : Int} {σ : dS} (h : B145_6 d Q x1 x2 x4 x5 x3 σ) : B145_5 d Q x1 x2 x3 x4 x5 σ := ut (m := M145) rfl h
theorem b145_6 {d : Nat} {Q : dR → dS → Prop} {x1 x2 x4 x5 s0 : Int} {σ : dS} (h : B145_7 d Q x1 x2 s0 x4 x5 σ) : B145_6 d Q x1 x2 x4 x5 s0 σ := ut (m := M145) rfl h
theorem b145_7 {d : Nat} {Q : dR → dS → Prop} {x1 x2 x3 x4 x5 : Int} {σ : dS} (h : B145_4 d Q x1 x2 x3 x4 (wr (x5 + 1)) σ) : B145_7 d Q x1 x2 x3 x4 x5 σ := ut (m := M145) rfl h
theorem b145_8 {d : Nat} {Q : dR → dS → Prop} {x1 x2 x3 x4 : Int} {σ : dS} (h : B145_3 d Q x1 x2 x3 (wr (x4 + 1)) σ) : B145_8 d Q x1 x2 x3 x4 σ := ut (m := M145) rfl h
theorem b145_9 {d : Nat} {Q : dR → dS → Prop} {x1 x2 x3 : Int} {σ : dS} (h : ((x1 ≠ 0) → B145_10 d Q x3 σ) ∧ (¬ (x1 ≠ 0) → B145_11 d Q x2 σ)) : B145_9 d Q x1 x2 x3 σ := ut (m := M145) rfl h
theorem b145_10 {d : Nat} {Q : dR → dS → Prop} {x3 : Int} {σ : dS} (h : B145_11 d Q x3 σ) : B145_10 d Q x3 σ := ut (m := M145) rfl h
theorem b145_11 {d : Nat} {Q : dR → dS → Prop} {s0 : Int} {σ : dS} (h : Q (.inl (some (.inl s0))) σ) : B145_11 d Q s0 σ := ut (m := M145) rfl h
theorem c145 {d : Nat} {Q : dR → dS → Prop} {K : Int → dS → Prop} {x1 : Int} {σ : dS} (h : B145_0 d (fun res σ1 => match res with | .inl (some (.inl v)) => K v σ1 | .inl _ => False | .inr e => Q (.inr e) σ1) x1 σ) : wI (d + 2) 145 [.inr (.inr 0), .inl x1] σ Q K := ut0 rfl (Nat.le_of_ble_eq_true rfl) h
/-- WingTrams.rests(II)Z, 146 -/
def M146 (lb : Nat) : List Bool := [[true, true, true, false], [true, true, true, true], [false, false, false, false], [true, true, true, true], [false, false, false, false]].getD lb []
def B146_0 (d : Nat) (Q : dR → dS → Prop) (x1 x2 : Int) (σ : dS) : Prop := UT d 146 Q 0 (0, 0) [some (.inr (.inr 0)), some (.inl x1), some (.inl x2), none] [] σ
def B146_1 (d : Nat) (Q : dR → dS → Prop) (x1 x2 x3 : Int) (σ : dS) : Prop := UT d 146 Q 1 (0, 0) [some (.inr (.inr 0)), some (.inl x1), some (.inl x2), some (.inl x3)] [] σ
def B146_2 (d : Nat) (Q : dR → dS → Prop) (σ : dS) : Prop := UT d 146 Q 2 (0, 0) [none, none, none, none] [] σ
def B146_3 (d : Nat) (Q : dR → dS → Prop) (x1 x2 x3 : Int) (σ : dS) : Prop := UT d 146 Q 3 (0, 0) [some (.inr (.inr 0)), some (.inl x1), some (.inl x2), some (.inl x3)] [] σ
def B146_4 (d : Nat) (Q : dR → dS → Prop) (σ : dS) : Prop := UT d 146 Q 4 (0, 0) [none, none, none, none] [] σ
theorem b146_0 {d : Nat} {Q : dR → dS → Prop} {x1 x2 : Int} {σ : dS} (h : B146_1 d Q x1 x2 1 σ) : B146_0 d Q x1 x2 σ := ut (m := M146) rfl h
theorem b146_1 {d : Nat} {Q : dR → dS → Prop} {x1 x2 x3 : Int} {σ : dS} (h : (((9 : Int) < x3) → B146_4 d Q σ) ∧ (¬ ((9 : Int) < x3) → wI (d + 1) 147 [.inr (.inr 0), .inl x3, .inl x2] σ Q (fun v1 σ1 => wI (d + 1) 147 [.inr (.inr 0), .inl x1, .inl x2] σ1 Q (fun v2 σ2 => ((v2 < v1) → B146_2 d Q σ2) ∧ (¬ (v2 < v1) → wI (d + 1) 148 [.inr (.inr 0), .inl x1, .inl x3] σ2 Q (fun v3 σ3 => wI (d + 1) 148 [.inr (.inr 0), .inl x1, .inl x2] σ3 Q (fun v4 σ4 => ((v3 ≤ v4) → B146_3 d Q x1 x2 x3 σ4) ∧ (¬ (v3 ≤ v4) → B146_2 d Q σ4)))))))) : B146_1 d Q x1 x2 x3 σ := ut (m := M146) rfl h
theorem b146_2 {d : Nat} {Q : dR → dS → Prop} {σ : dS} (h : ((0 : Int) = 0 ∨ (0 : Int) = 1) ∧ Q (.inl (some (.inl 0))) σ) : B146_2 d Q σ := ut (m := M146) rfl h
theorem b146_3 {d : Nat} {Q : dR → dS → Prop} {x1 x2 x3 : Int} {σ : dS} (h : B146_1 d Q x1 x2 (wr (x3 + 1)) σ) : B146_3 d Q x1 x2 x3 σ := ut (m := M146) rfl h
theorem b146_4 {d : Nat} {Q : dR → dS → Prop} {σ : dS} (h : ((1 : Int) = 0 ∨ (1 : Int) = 1) ∧ Q (.inl (some (.inl 1))) σ) : B146_4 d Q σ := ut (m := M146) rfl h
theorem c146 {d : Nat} {Q : dR → dS → Prop} {K : Int → dS → Prop} {x1 x2 : Int} {σ : dS} (h : B146_0 d (fun res σ1 => match res with | .inl (some (.inl v)) => K v σ1 | .inl _ => False | .inr e => Q (.inr e) σ1) x1 x2 σ) : wI (d + 2) 146 [.inr (.inr 0), .inl x1, .inl x2] σ Q K := ut0 rfl (Nat.le_of_ble_eq_true rfl) h
/-- WingTrams.owlsGain(II)I, 147 -/
def M147 (lb : Nat) : List Bool := [[true, true, true], [false, false, false], [false, false, false]].getD lb []
def B147_0 (d : Nat) (Q : dR → dS → Prop) (x1 x2 : Int) (σ : dS) : Prop := UT d 147 Q 0 (0, 0) [some (.inr (.inr 0)), some (.inl x1), some (.inl x2)] [] σ
def B147_1 (d : Nat) (Q : dR → dS → Prop) (σ : dS) : Prop := UT d 147 Q 1 (0, 0) [none, none, none] [] σ
def B147_2 (d : Nat) (Q : dR → dS → Prop) (s0 : Int) (σ : dS) : Prop := UT d 147 Q 2 (0, 0) [none, none, none] [.inl s0] σ
theorem b147_0 {d : Nat} {Q : dR → dS → Prop} {x1 x2 : Int} {σ : dS} (h : ((x2 < x1) → B147_1 d Q σ) ∧ (¬ (x2 < x1) → wI (d + 1) 31 [.inr (.inr 5), .inl x1] σ Q (fun v1 σ1 => B147_2 d Q (wr ((wr (x1 - 1)) * v1)) σ1))) : B147_0 d Q x1 x2 σ := ut (m := M147) rfl h
theorem b147_1 {d : Nat} {Q : dR → dS → Prop} {σ : dS} (h : B147_2 d Q 0 σ) : B147_1 d Q σ := ut (m := M147) rfl h
theorem b147_2 {d : Nat} {Q : dR → dS → Prop} {s0 : Int} {σ : dS} (h : Q (.inl (some (.inl s0))) σ) : B147_2 d Q s0 σ := ut (m := M147) rfl h
theorem c147 {d : Nat} {Q : dR → dS → Prop} {K : Int → dS → Prop} {x1 x2 : Int} {σ : dS} (h : B147_0 d (fun res σ1 => match res with | .inl (some (.inl v)) => K v σ1 | .inl _ => False | .inr e => Q (.inr e) σ1) x1 x2 σ) : wI (d + 2) 147 [.inr (.inr 0), .inl x1, .inl x2] σ Q K := ut0 rfl (Nat.le_of_ble_eq_true rfl) h
/-- WingTrams.batsGain(II)I, 148 -/
def M148 (lb : Nat) : List Bool := [[true, true, true], [false, false, false], [false, false, false]].getD lb []
def B148_0 (d : Nat) (Q : dR → dS → Prop) (x1 x2 : Int) (σ : dS) : Prop := UT d 148 Q 0 (0, 0) [some (.inr (.inr 0)), some (.inl x1), some (.inl x2)] [] σ
def B148_1 (d : Nat) (Q : dR → dS → Prop) (σ : dS) : Prop := UT d 148 Q 1 (0, 0) [none, none, none] [] σ
def B148_2 (d : Nat) (Q : dR → dS → Prop) (s0 : Int) (σ : dS) : Prop := UT d 148 Q 2 (0, 0) [none, none, none] [.inl s0] σ
theorem b148_0 {d : Nat} {Q : dR → dS → Prop} {x1 x2 : Int} {σ : dS} (h : ((x1 ≤ x2) → B148_1 d Q σ) ∧ (¬ (x1 ≤ x2) → wI (d + 1) 31 [.inr (.inr 5), .inl x2] σ Q (fun v1 σ1 => B148_2 d Q (wr ((wr (x2 - 1)) * v1)) σ1))) : B148_0 d Q x1 x2 σ := ut (m := M148) rfl h
theorem b148_1 {d : Nat} {Q : dR → dS → Prop} {σ : dS} (h : B148_2 d Q 0 σ) : B148_1 d Q σ := ut (m := M148) rfl h
theorem b148_2 {d : Nat} {Q : dR → dS → Prop} {s0 : Int} {σ : dS} (h : Q (.inl (some (.inl s0))) σ) : B148_2 d Q s0 σ := ut (m := M148) rfl h
theorem c148 {d : Nat} {Q : dR → dS → Prop} {K : Int → dS → Prop} {x1 x2 : Int} {σ : dS} (h : B148_0 d (fun res σ1 => match res with | .inl (some (.inl v)) => K v σ1 | .inl _ => False | .inr e => Q (.inr e) σ1) x1 x2 σ) : wI (d + 2) 148 [.inr (.inr 0), .inl x1, .inl x2] σ Q K := ut0 rfl (Nat.le_of_ble_eq_true rfl) h
/-- WingTrams.years(III)I, 149 -/
def M149 (lb : Nat) : List Bool := [[true, true, true, true, false, false, false, false, false, false], [false, false, false, false, false, false, false, false, false, false], [true, true, true, true, false, false, false, false, false, false], [false, false, false, false, false, false, false, false, false, false], [true, true, true, true, false, false, false, false, false, false], [true, true, true, true, true, false, false, false, false, false], [true, true, true, true, true, false, false, false, false, false], [true, false, true, true, true, true, true, true, true, false], [true, false, true, true, true, true, true, true, true, false], [true, false, true, true, true, true, true, true, true, false], [true, false, true, true, true, true, false, true, true, false], [true, false, true, true, true, true, false, true, true, false], [false, false, false, true, true, true, true, false, false, false], [false, false, false, true, false, true, true, false, false, false], [false, false, false, false, false, false, true, false, false, false], [false, false, false, false, false, false, false, false, false, false]].getD lb []
def B149_0 (d : Nat) (Q : dR → dS → Prop) (x1 x2 x3 : Int) (σ : dS) : Prop := UT d 149 Q 0 (0, 0) [some (.inr (.inr 0)), some (.inl x1), some (.inl x2), some (.inl x3), none, none, none, none, none, none] [] σ
def B149_1 (d : Nat) (Q : dR → dS → Prop) (σ : dS) : Prop := UT d 149 Q 1 (0, 0) [none, none, none, none, none, none, none, none, none, none] [] σ
def B149_2 (d : Nat) (Q : dR → dS → Prop) (x1 x2 x3 : Int) (σ : dS) : Prop := UT d 149 Q 2 (0, 0) [some (.inr (.inr 0)), some (.inl x1), some (.inl x2), some (.inl x3), none, none, none, none, none, none] [] σ
def B149_3 (d : Nat) (Q : dR → dS → Prop) (σ : dS) : Prop := UT d 149 Q 3 (0, 0) [none, none, none, none, none, none, none, none, none, none] [] σ
def B149_4 (d : Nat) (Q : dR → dS → Prop) (x1 x2 x3 : Int) (σ : dS) : Prop := UT d 149 Q 4 (0, 0) [some (.inr (.inr 0)), some (.inl x1), some (.inl x2), some (.inl x3), none, none, none, none, none, none] [] σ
def B149_5 (d : Nat) (Q : dR → dS → Prop) (x1 x2 x3 x4 : Int) (σ : dS) : Prop := UT d 149 Q 5 (0, 0) [some (.inr (.inr 0)), some (.inl x1), some (.inl x2), some (.inl x3), some (.inl x4), none, none, none, none, none] [] σ
def B149_6 (d : Nat) (Q : dR → dS → Prop) (x1 x2 x3 x4 s0 : Int) (σ : dS) : Prop := UT d 149 Q 6 (0, 0) [some (.inr (.inr 0)), some (.inl x1), some (.inl x2), some (.inl x3), some (.inl x4), none, none, none, none, none] [.inl s0] σ
def B149_7 (d : Nat) (Q : dR → dS → Prop) (x2 x3 x4 x5 x6 x7 x8 : Int) (σ : dS) : Prop := UT d 149 Q 7 (0, 0) [some (.inr (.inr 0)), none, some (.inl x2), some (.inl x3), some (.inl x4), some (.inl x5), some (.inl x6), some (.inl x7), some (.inl x8), none] [] σ
def B149_8 (d : Nat) (Q : dR → dS → Prop) (x2 x3 x4 x5 x6 x7 x8 : Int) (σ : dS) : Prop := UT d 149 Q 8 (0, 0) [some (.inr (.inr 0)), none, some (.inl x2), some (.inl x3), some (.inl x4), some (.inl x5), some (.inl x6), some (.inl x7), some (.inl x8), none] [.inr (.inr 109)] σ
def B149_9 (d : Nat) (Q : dR → dS → Prop) (x2 x3 x4 x5 x6 x7 x8 s0 : Int) (σ : dS) : Prop := UT d 149 Q 9 (0, 0) [some (.inr (.inr 0)), none, some (.inl x2), some (.inl x3), some (.inl x4), some (.inl x5), some (.inl x6), some (.inl x7), some (.inl x8), none] [.inl s0, .inr (.inr 109)] σ
def B149_10 (d : Nat) (Q : dR → dS → Prop) (x2 x3 x4 x5 x7 x8 s0 : Int) (σ : dS) : Prop := UT d 149 Q 10 (0, 0) [some (.inr (.inr 0)), none, some (.inl x2), some (.inl x3), some (.inl x4), some (.inl x5), none, some (.inl x7), some (.inl x8), none] [.inl s0] σ
def B149_11 (d : Nat) (Q : dR → dS → Prop) (x2 x3 x4 x5 x7 x8 s0 s1 : Int) (σ : dS) : Prop := UT d 149 Q 11 (0, 0) [some (.inr (.inr 0)), none, some (.inl x2), some (.inl x3), some (.inl x4), some (.inl x5), none, some (.inl x7), some (.inl x8), none] [.inl s0, .inl s1] σ
def B149_12 (d : Nat) (Q : dR → dS → Prop) (x3 x4 x5 x6 : Int) (σ : dS) : Prop := UT d 149 Q 12 (0, 0) [none, none, none, some (.inl x3), some (.inl x4), some (.inl x5), some (.inl x6), none, none, none] [] σ
def B149_13 (d : Nat) (Q : dR → dS → Prop) (x3 x5 x6 : Int) (σ : dS) : Prop := UT d 149 Q 13 (0, 0) [none, none, none, some (.inl x3), none, some (.inl x5), some (.inl x6), none, none, none] [] σ
def B149_14 (d : Nat) (Q : dR → dS → Prop) (x6 : Int) (σ : dS) : Prop := UT d 149 Q 14 (0, 0) [none, none, none, none, none, none, some (.inl x6), none, none, none] [] σ
def B149_15 (d : Nat) (Q : dR → dS → Prop) (s0 : Int) (σ : dS) : Prop := UT d 149 Q 15 (0, 0) [none, none, none, none, none, none, none, none, none, none] [.inl s0] σ
theorem b149_0 {d : Nat} {Q : dR → dS → Prop} {x1 x2 x3 : Int} {σ : dS} (h : ((x3 < 0) → B149_1 d Q σ) ∧ (¬ (x3 < 0) → ((x3 ≤ (2 : Int)) → B149_2 d Q x1 x2 x3 σ) ∧ (¬ (x3 ≤ (2 : Int)) → B149_1 d Q σ))) : B149_0 d Q x1 x2 x3 σ := ut (m := M149) rfl h
theorem b149_1 {d : Nat} {Q : dR → dS → Prop} {σ : dS} (h : Q (.inr 0) σ) : B149_1 d Q σ := ut (m := M149) rfl h
theorem b149_2 {d : Nat} {Q : dR → dS → Prop} {x1 x2 x3 : Int} {σ : dS} (h : ((x2 < 0) → B149_3 d Q σ) ∧ (¬ (x2 < 0) → ((x2 ≤ (60 : Int)) → B149_4 d Q x1 x2 x3 σ) ∧ (¬ (x2 ≤ (60 : Int)) → B149_3 d Q σ))) : B149_2 d Q x1 x2 x3 σ := ut (m := M149) rfl h
theorem b149_3 {d : Nat} {Q : dR → dS → Prop} {σ : dS} (h : Q (.inr 1) σ) : B149_3 d Q σ := ut (m := M149) rfl h
theorem b149_4 {d : Nat} {Q : dR → dS → Prop} {x1 x2 x3 : Int} {σ : dS} (h : ((x2 ≠ 0) → B149_5 d Q x1 x2 x3 0 σ) ∧ (¬ (x2 ≠ 0) → B149_6 d Q x1 x2 x3 0 0 σ)) : B149_4 d Q x1 x2 x3 σ := ut (m := M149) rfl h
theorem b149_5 {d : Nat} {Q : dR → dS → Prop} {x1 x2 x3 x4 : Int} {σ : dS} (h : B149_6 d Q x1 x2 x3 x4 8 σ) : B149_5 d Q x1 x2 x3 x4 σ := ut (m := M149) rfl h
theorem b149_6 {d : Nat} {Q : dR → dS → Prop} {x1 x2 x3 x4 s0 : Int} {σ : dS} (h : wV (d + 1) 22 [.inr (.inr 109), .inr (.inr 70)] σ Q (fun σ1 => B149_7 d Q x2 x3 x4 s0 0 x1 0 σ1)) : B149_6 d Q x1 x2 x3 x4 s0 σ := ut (m := M149) rfl h
theorem b149_7 {d : Nat} {Q : dR → dS → Prop} {x2 x3 x4 x5 x6 x7 x8 : Int} {σ : dS} (h : ((x2 ≤ x8) → B149_12 d Q x3 x4 x5 x6 σ) ∧ (¬ (x2 ≤ x8) → ((8 : Int) ≠ 0) ∧ (∀ σ1 : dS, σ1 = up σ 109 1 (irm (wr ((σ 109 1) + 1)) 8) → (((4 : Int) ≠ 0) ∧ ((((irm (ian (ush (wr ((wr (x7 * 1103515245)) + 12345)) 16) 32767) 4) ≠ 0) → B149_8 d Q x2 x3 x4 x5 x6 (wr ((wr (x7 * 1103515245)) + 12345)) x8 σ1) ∧ (¬ ((irm (ian (ush (wr ((wr (x7 * 1103515245)) + 12345)) 16) 32767) 4) ≠ 0) → B149_9 d Q x2 x3 x4 x5 x6 (wr ((wr (x7 * 1103515245)) + 12345)) x8 1 σ1)))))) : B149_7 d Q x2 x3 x4 x5 x6 x7 x8 σ := ut (m := M149) rfl h
theorem b149_8 {d : Nat} {Q : dR → dS → Prop} {x2 x3 x4 x5 x6 x7 x8 : Int} {σ : dS} (h : B149_9 d Q x2 x3 x4 x5 x6 x7 x8 0 σ) : B149_8 d Q x2 x3 x4 x5 x6 x7 x8 σ := ut (m := M149) rfl h
theorem b149_9 {d : Nat} {Q : dR → dS → Prop} {x2 x3 x4 x5 x6 x7 x8 s0 : Int} {σ : dS} (h : (s0 = 0 ∨ s0 = 1) ∧ (∀ σ1 : dS, σ1 = up σ 109 2 s0 → (wI (d + 1) 126 [.inr (.inr 0), .inr (.inr 109)] σ1 Q (fun v2 σ2 => ((v2 ≠ (σ2 5 3)) → B149_10 d Q x2 x3 (wr (x4 + v2)) (min x5 v2) x7 x8 x6 σ2) ∧ (¬ (v2 ≠ (σ2 5 3)) → B149_11 d Q x2 x3 (wr (x4 + v2)) (min x5 v2) x7 x8 1 x6 σ2))))) : B149_9 d Q x2 x3 x4 x5 x6 x7 x8 s0 σ := ut (m := M149) rfl h
theorem b149_10 {d : Nat} {Q : dR → dS → Prop} {x2 x3 x4 x5 x7 x8 s0 : Int} {σ : dS} (h : B149_11 d Q x2 x3 x4 x5 x7 x8 0 s0 σ) : B149_10 d Q x2 x3 x4 x5 x7 x8 s0 σ := ut (m := M149) rfl h
theorem b149_11 {d : Nat} {Q : dR → dS → Prop} {x2 x3 x4 x5 x7 x8 s0 s1 : Int} {σ : dS} (h : B149_7 d Q x2 x3 x4 x5 (wr (s1 + s0)) x7 (wr (x8 + 1)) σ) : B149_11 d Q x2 x3 x4 x5 x7 x8 s0 s1 σ := ut (m := M149) rfl h
theorem b149_12 {d : Nat} {Q : dR → dS → Prop} {x3 x4 x5 x6 : Int} {σ : dS} (h : ((x3 ≠ 0) → B149_13 d Q x3 x5 x6 σ) ∧ (¬ (x3 ≠ 0) → B149_15 d Q x4 σ)) : B149_12 d Q x3 x4 x5 x6 σ := ut (m := M149) rfl h
theorem b149_13 {d : Nat} {Q : dR → dS → Prop} {x3 x5 x6 : Int} {σ : dS} (h : ((x3 ≠ (1 : Int)) → B149_14 d Q x6 σ) ∧ (¬ (x3 ≠ (1 : Int)) → B149_15 d Q x5 σ)) : B149_13 d Q x3 x5 x6 σ := ut (m := M149) rfl h
theorem b149_14 {d : Nat} {Q : dR → dS → Prop} {x6 : Int} {σ : dS} (h : B149_15 d Q x6 σ) : B149_14 d Q x6 σ := ut (m := M149) rfl h
theorem b149_15 {d : Nat} {Q : dR → dS → Prop} {s0 : Int} {σ : dS} (h : Q (.inl (some (.inl s0))) σ) : B149_15 d Q s0 σ := ut (m := M149) rfl h
theorem c149 {d : Nat} {Q : dR → dS → Prop} {K : Int → dS → Prop} {x1 x2 x3 : Int} {σ : dS} (h : B149_0 d (fun res σ1 => match res with | .inl (some (.inl v)) => K v σ1 | .inl _ => False | .inr e => Q (.inr e) σ1) x1 x2 x3 σ) : wI (d + 2) 149 [.inr (.inr 0), .inl x1, .inl x2, .inl x3] σ Q K := ut0 rfl (Nat.le_of_ble_eq_true rfl) h
/-- WingTrams.late(I)I, 150 -/
def M150 (lb : Nat) : List Bool := [[true, true, false, false], [true, true, true, true], [true, true, true, true], [false, false, false, false]].getD lb []
def B150_0 (d : Nat) (Q : dR → dS → Prop) (x1 : Int) (σ : dS) : Prop := UT d 150 Q 0 (0, 0) [some (.inr (.inr 0)), some (.inl x1), none, none] [] σ
def B150_1 (d : Nat) (Q : dR → dS → Prop) (x1 x2 x3 : Int) (σ : dS) : Prop := UT d 150 Q 1 (1, 6) [some (.inr (.inr 0)), some (.inl x1), some (.inl x2), some (.inl x3)] [] σ
def B150_2 (d : Nat) (Q : dR → dS → Prop) (x1 x2 x3 : Int) (σ : dS) : Prop := UT d 150 Q 2 (1, 6) [some (.inr (.inr 0)), some (.inl x1), some (.inl x2), some (.inl x3)] [] σ
def B150_3 (d : Nat) (Q : dR → dS → Prop) (σ : dS) : Prop := UT d 150 Q 3 (1, 6) [none, none, none, none] [] σ
theorem b150_0 {d : Nat} {Q : dR → dS → Prop} {x1 : Int} {σ : dS} (h : wV (d + 1) 110 [.inr (.inr 0), .inl x1] σ Q (fun σ1 => wI (d + 1) 126 [.inr (.inr 0), .inr (.inr 70)] σ1 Q (fun v2 σ2 => B150_1 d Q x1 v2 60 σ2))) : B150_0 d Q x1 σ := ut (m := M150) rfl h
theorem b150_1 {d : Nat} {Q : dR → dS → Prop} {x1 x2 x3 : Int} {σ : dS} (h : ((x3 ≤ 0) → B150_3 d Q σ) ∧ (¬ (x3 ≤ 0) → wV (d + 1) 22 [.inr (.inr 109), .inr (.inr 70)] σ Q (fun σ1 => ∀ σ2 : dS, σ2 = rput σ1 113 5 x1 (wr ((rat σ1 113 5 x1) + x3)) → (wI (d + 1) 126 [.inr (.inr 0), .inr (.inr 109)] σ2 Q (fun v3 σ3 => ((v3 < x2) → B150_2 d Q x1 x2 x3 σ3) ∧ (¬ (v3 < x2) → Q (.inl (some (.inl x3))) σ3)))))) : B150_1 d Q x1 x2 x3 σ := ut (m := M150) rfl h
theorem b150_2 {d : Nat} {Q : dR → dS → Prop} {x1 x2 x3 : Int} {σ : dS} (h : B150_1 d Q x1 x2 (wr (x3 + (-1))) σ) : B150_2 d Q x1 x2 x3 σ := ut (m := M150) rfl h
theorem b150_3 {d : Nat} {Q : dR → dS → Prop} {σ : dS} (h : Q (.inl (some (.inl 0))) σ) : B150_3 d Q σ := ut (m := M150) rfl h
theorem c150 {d : Nat} {Q : dR → dS → Prop} {K : Int → dS → Prop} {x1 : Int} {σ : dS} (h : B150_0 d (fun res σ1 => match res with | .inl (some (.inl v)) => K v σ1 | .inl _ => False | .inr e => Q (.inr e) σ1) x1 σ) : wI (d + 2) 150 [.inr (.inr 0), .inl x1] σ Q K := ut0 rfl (Nat.le_of_ble_eq_true rfl) h
/-- WingTrams.best()I, 151 -/
def M151 (lb : Nat) : List Bool := [[true, false, false, false, false], [true, true, true, true, false], [true, true, true, true, false], [false, true, false, false, false]].getD lb []
def B151_0 (d : Nat) (Q : dR → dS → Prop) (σ : dS) : Prop := UT d 151 Q 0 (0, 0) [some (.inr (.inr 0)), none, none, none, none] [] σ
def B151_1 (d : Nat) (Q : dR → dS → Prop) (x1 x2 x3 : Int) (σ : dS) : Prop := UT d 151 Q 1 (0, 0) [some (.inr (.inr 0)), some (.inl x1), some (.inl x2), some (.inl x3), none] [] σ
def B151_2 (d : Nat) (Q : dR → dS → Prop) (x1 x2 x3 : Int) (σ : dS) : Prop := UT d 151 Q 2 (0, 0) [some (.inr (.inr 0)), some (.inl x1), some (.inl x2), some (.inl x3), none] [] σ
def B151_3 (d : Nat) (Q : dR → dS → Prop) (x1 : Int) (σ : dS) : Prop := UT d 151 Q 3 (0, 0) [none, some (.inl x1), none, none, none] [] σ
theorem b151_0 {d : Nat} {Q : dR → dS → Prop} {σ : dS} (h : wV (d + 1) 22 [.inr (.inr 109), .inr (.inr 70)] σ Q (fun σ1 => B151_1 d Q (-1) (-1) (-1) σ1)) : B151_0 d Q σ := ut (m := M151) rfl h
theorem b151_1 {d : Nat} {Q : dR → dS → Prop} {x1 x2 x3 : Int} {σ : dS} (h : (((σ 26 0) ≤ x3) → B151_3 d Q x1 σ) ∧ (¬ ((σ 26 0) ≤ x3) → ∀ σ1 : dS, σ1 = up σ 109 0 x3 → (wI (d + 1) 126 [.inr (.inr 0), .inr (.inr 109)] σ1 Q (fun v2 σ2 => ((v2 ≤ x2) → B151_2 d Q x1 x2 x3 σ2) ∧ (¬ (v2 ≤ x2) → B151_2 d Q x3 v2 x3 σ2))))) : B151_1 d Q x1 x2 x3 σ := ut (m := M151) rfl h
theorem b151_2 {d : Nat} {Q : dR → dS → Prop} {x1 x2 x3 : Int} {σ : dS} (h : B151_1 d Q x1 x2 (wr (x3 + 1)) σ) : B151_2 d Q x1 x2 x3 σ := ut (m := M151) rfl h
theorem b151_3 {d : Nat} {Q : dR → dS → Prop} {x1 : Int} {σ : dS} (h : Q (.inl (some (.inl x1))) σ) : B151_3 d Q x1 σ := ut (m := M151) rfl h
theorem c151 {d : Nat} {Q : dR → dS → Prop} {K : Int → dS → Prop} {σ : dS} (h : B151_0 d (fun res σ1 => match res with | .inl (some (.inl v)) => K v σ1 | .inl _ => False | .inr e => Q (.inr e) σ1) σ) : wI (d + 2) 151 [.inr (.inr 0)] σ Q K := ut0 rfl (Nat.le_of_ble_eq_true rfl) h
/-- WingTrams.bright()I, 152 -/
def M152 (lb : Nat) : List Bool := [[true, false, false, false, false], [true, true, true, true, false], [true, true, true, true, false], [false, true, false, false, false]].getD lb []
def B152_0 (d : Nat) (Q : dR → dS → Prop) (σ : dS) : Prop := UT d 152 Q 0 (0, 0) [some (.inr (.inr 0)), none, none, none, none] [] σ
def B152_1 (d : Nat) (Q : dR → dS → Prop) (x1 x2 x3 : Int) (σ : dS) : Prop := UT d 152 Q 1 (0, 0) [some (.inr (.inr 0)), some (.inl x1), some (.inl x2), some (.inl x3), none] [] σ
def B152_2 (d : Nat) (Q : dR → dS → Prop) (x1 x2 x3 : Int) (σ : dS) : Prop := UT d 152 Q 2 (0, 0) [some (.inr (.inr 0)), some (.inl x1), some (.inl x2), some (.inl x3), none] [] σ
def B152_3 (d : Nat) (Q : dR → dS → Prop) (x1 : Int) (σ : dS) : Prop := UT d 152 Q 3 (0, 0) [none, some (.inl x1), none, none, none] [] σ
theorem b152_0 {d : Nat} {Q : dR → dS → Prop} {σ : dS} (h : wV (d + 1) 22 [.inr (.inr 109), .inr (.inr 70)] σ Q (fun σ1 => B152_1 d Q 0 (-1) 0 σ1)) : B152_0 d Q σ := ut (m := M152) rfl h
theorem b152_1 {d : Nat} {Q : dR → dS → Prop} {x1 x2 x3 : Int} {σ : dS} (h : (((8 : Int) ≤ x3) → B152_3 d Q x1 σ) ∧ (¬ ((8 : Int) ≤ x3) → ∀ σ1 : dS, σ1 = up σ 109 1 x3 → (wI (d + 1) 126 [.inr (.inr 0), .inr (.inr 109)] σ1 Q (fun v2 σ2 => ((v2 ≤ x2) → B152_2 d Q x1 x2 x3 σ2) ∧ (¬ (v2 ≤ x2) → B152_2 d Q x3 v2 x3 σ2))))) : B152_1 d Q x1 x2 x3 σ := ut (m := M152) rfl h
theorem b152_2 {d : Nat} {Q : dR → dS → Prop} {x1 x2 x3 : Int} {σ : dS} (h : B152_1 d Q x1 x2 (wr (x3 + 1)) σ) : B152_2 d Q x1 x2 x3 σ := ut (m := M152) rfl h
theorem b152_3 {d : Nat} {Q : dR → dS → Prop} {x1 : Int} {σ : dS} (h : Q (.inl (some (.inl x1))) σ) : B152_3 d Q x1 σ := ut (m := M152) rfl h
theorem c152 {d : Nat} {Q : dR → dS → Prop} {K : Int → dS → Prop} {σ : dS} (h : B152_0 d (fun res σ1 => match res with | .inl (some (.inl v)) => K v σ1 | .inl _ => False | .inr e => Q (.inr e) σ1) σ) : wI (d + 2) 152 [.inr (.inr 0)] σ Q K := ut0 rfl (Nat.le_of_ble_eq_true rfl) h
/-- WingTrams.hunter()I, 153 -/
def M153 (lb : Nat) : List Bool := [[true, false, false, false], [true, true, true, true], [true, true, true, true], [false, true, false, false]].getD lb []
def B153_0 (d : Nat) (Q : dR → dS → Prop) (σ : dS) : Prop := UT d 153 Q 0 (0, 0) [some (.inr (.inr 0)), none, none, none] [] σ
def B153_1 (d : Nat) (Q : dR → dS → Prop) (x1 x2 x3 : Int) (σ : dS) : Prop := UT d 153 Q 1 (0, 0) [some (.inr (.inr 0)), some (.inl x1), some (.inl x2), some (.inl x3)] [] σ
def B153_2 (d : Nat) (Q : dR → dS → Prop) (x1 x2 x3 : Int) (σ : dS) : Prop := UT d 153 Q 2 (0, 0) [some (.inr (.inr 0)), some (.inl x1), some (.inl x2), some (.inl x3)] [] σ
def B153_3 (d : Nat) (Q : dR → dS → Prop) (x1 : Int) (σ : dS) : Prop := UT d 153 Q 3 (0, 0) [none, some (.inl x1), none, none] [] σ
theorem b153_0 {d : Nat} {Q : dR → dS → Prop} {σ : dS} (h : wV (d + 1) 68 [.inr (.inr 114), .inr (.inr 70)] σ Q (fun σ1 => B153_1 d Q (-1) (-1) 0 σ1)) : B153_0 d Q σ := ut (m := M153) rfl h
theorem b153_1 {d : Nat} {Q : dR → dS → Prop} {x1 x2 x3 : Int} {σ : dS} (h : (((σ 5 2) ≤ x3) → B153_3 d Q x1 σ) ∧ (¬ ((σ 5 2) ≤ x3) → (((rat σ 122 5 x3) ≤ x2) → B153_2 d Q x1 x2 x3 σ) ∧ (¬ ((rat σ 122 5 x3) ≤ x2) → B153_2 d Q x3 (rat σ 122 5 x3) x3 σ))) : B153_1 d Q x1 x2 x3 σ := ut (m := M153) rfl h
theorem b153_2 {d : Nat} {Q : dR → dS → Prop} {x1 x2 x3 : Int} {σ : dS} (h : B153_1 d Q x1 x2 (wr (x3 + 1)) σ) : B153_2 d Q x1 x2 x3 σ := ut (m := M153) rfl h
theorem b153_3 {d : Nat} {Q : dR → dS → Prop} {x1 : Int} {σ : dS} (h : Q (.inl (some (.inl x1))) σ) : B153_3 d Q x1 σ := ut (m := M153) rfl h
theorem c153 {d : Nat} {Q : dR → dS → Prop} {K : Int → dS → Prop} {σ : dS} (h : B153_0 d (fun res σ1 => match res with | .inl (some (.inl v)) => K v σ1 | .inl _ => False | .inr e => Q (.inr e) σ1) σ) : wI (d + 2) 153 [.inr (.inr 0)] σ Q K := ut0 rfl (Nat.le_of_ble_eq_true rfl) h
/-- WingTrams.image()V, 154 -/
def M154 (lb : Nat) : List Bool := [[true]].getD lb []
def B154_0 (d : Nat) (Q : dR → dS → Prop) (σ : dS) : Prop := UT d 154 Q 0 (0, 0) [some (.inr (.inr 0))] [] σ
theorem b154_0 {d : Nat} {Q : dR → dS → Prop} {σ : dS} (h : wV (d + 1) 34 [.inr (.inr 89), .inr (.inr 69)] σ Q (fun σ1 => ((1 : Int) = 0 ∨ (1 : Int) = 1) ∧ (∀ σ2 : dS, σ2 = up σ1 0 10 1 → (Q (.inl none) σ2)))) : B154_0 d Q σ := ut (m := M154) rfl h
theorem c154 {d : Nat} {Q : dR → dS → Prop} {K : dS → Prop} {σ : dS} (h : B154_0 d (fun res σ1 => match res with | .inl none => K σ1 | .inl (some _) => False | .inr e => Q (.inr e) σ1) σ) : wV (d + 2) 154 [.inr (.inr 0)] σ Q K := ut0 rfl (Nat.le_of_ble_eq_true rfl) h
/-- WingTrams.restore()Z, 155 -/
def M155 (lb : Nat) : List Bool := [[true], [true]].getD lb []
def B155_0 (d : Nat) (Q : dR → dS → Prop) (σ : dS) : Prop := UT d 155 Q 0 (0, 0) [some (.inr (.inr 0))] [] σ
def B155_1 (d : Nat) (Q : dR → dS → Prop) (σ : dS) : Prop := UT d 155 Q 1 (0, 0) [some (.inr (.inr 0))] [] σ
theorem b155_0 {d : Nat} {Q : dR → dS → Prop} {σ : dS} (h : (((σ 0 10) = 0) → B155_1 d Q σ) ∧ (¬ ((σ 0 10) = 0) → wV (d + 1) 34 [.inr (.inr 69), .inr (.inr 89)] σ Q (fun σ1 => B155_1 d Q σ1))) : B155_0 d Q σ := ut (m := M155) rfl h
theorem b155_1 {d : Nat} {Q : dR → dS → Prop} {σ : dS} (h : ((σ 0 10) = 0 ∨ (σ 0 10) = 1) ∧ Q (.inl (some (.inl (σ 0 10)))) σ) : B155_1 d Q σ := ut (m := M155) rfl h
theorem c155 {d : Nat} {Q : dR → dS → Prop} {K : Int → dS → Prop} {σ : dS} (h : B155_0 d (fun res σ1 => match res with | .inl (some (.inl v)) => K v σ1 | .inl _ => False | .inr e => Q (.inr e) σ1) σ) : wI (d + 2) 155 [.inr (.inr 0)] σ Q K := ut0 rfl (Nat.le_of_ble_eq_true rfl) h
