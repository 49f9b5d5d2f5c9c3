/-! BLOCKS AS CLEAN ROWS, by program (wip/whole/gen/g26.py) -/
/-- WingTrams$Log.add(III)V, 10_75 -/
def M10_75 (lb : Nat) : List Bool := [[true, true, true, true], [true, true, true, true]].getD lb []
def B10_75_0 (d : Nat) (Q : dR → dS → Prop) (x1 x2 x3 : Int) (σ : dS) : Prop := UT d 10 Q 0 (0, 0) [some (.inr (.inr 75)), some (.inl x1), some (.inl x2), some (.inl x3)] [] σ
def B10_75_1 (d : Nat) (Q : dR → dS → Prop) (x1 x2 x3 : Int) (σ : dS) : Prop := UT d 10 Q 1 (0, 0) [some (.inr (.inr 75)), some (.inl x1), some (.inl x2), some (.inl x3)] [] σ
theorem b10_75_0 {d : Nat} {Q : dR → dS → Prop} {x1 x2 x3 : Int} {σ : dS} (h : (((σ 75 0) < (σ 75 1)) → B10_75_1 d Q x1 x2 x3 σ) ∧ (¬ ((σ 75 0) < (σ 75 1)) → wV (d + 1) 11 [.inr (.inr 75)] σ Q (fun σ1 => B10_75_1 d Q x1 x2 x3 σ1))) : B10_75_0 d Q x1 x2 x3 σ := ut (m := M10_75) rfl h
theorem b10_75_1 {d : Nat} {Q : dR → dS → Prop} {x1 x2 x3 : Int} {σ : dS} (h : ∀ σ1 : dS, σ1 = rput σ 77 40 (σ 75 0) x1 → (∀ σ2 : dS, σ2 = rput σ1 79 40 (σ1 75 0) x2 → (∀ σ3 : dS, σ3 = rput σ2 81 40 (σ2 75 0) x3 → (∀ σ4 : dS, σ4 = up σ3 75 0 (wr ((σ3 75 0) + 1)) → (Q (.inl none) σ4))))) : B10_75_1 d Q x1 x2 x3 σ := ut (m := M10_75) rfl h
theorem c10_75 {d : Nat} {Q : dR → dS → Prop} {K : dS → Prop} {x1 x2 x3 : Int} {σ : dS} (h : B10_75_0 d (fun res σ1 => match res with | .inl none => K σ1 | .inl (some _) => False | .inr e => Q (.inr e) σ1) x1 x2 x3 σ) : wV (d + 2) 10 [.inr (.inr 75), .inl x1, .inl x2, .inl x3] σ Q K := ut0 rfl (Nat.le_of_ble_eq_true rfl) h
/-- WingTrams$Log.add(III)V, 10_82 -/
def M10_82 (lb : Nat) : List Bool := [[true, true, true, true], [true, true, true, true]].getD lb []
def B10_82_0 (d : Nat) (Q : dR → dS → Prop) (x1 x2 x3 : Int) (σ : dS) : Prop := UT d 10 Q 0 (0, 0) [some (.inr (.inr 82)), some (.inl x1), some (.inl x2), some (.inl x3)] [] σ
def B10_82_1 (d : Nat) (Q : dR → dS → Prop) (x1 x2 x3 : Int) (σ : dS) : Prop := UT d 10 Q 1 (0, 0) [some (.inr (.inr 82)), some (.inl x1), some (.inl x2), some (.inl x3)] [] σ
theorem b10_82_0 {d : Nat} {Q : dR → dS → Prop} {x1 x2 x3 : Int} {σ : dS} (h : (((σ 82 0) < (σ 82 1)) → B10_82_1 d Q x1 x2 x3 σ) ∧ (¬ ((σ 82 0) < (σ 82 1)) → wV (d + 1) 11 [.inr (.inr 82)] σ Q (fun σ1 => B10_82_1 d Q x1 x2 x3 σ1))) : B10_82_0 d Q x1 x2 x3 σ := ut (m := M10_82) rfl h
theorem b10_82_1 {d : Nat} {Q : dR → dS → Prop} {x1 x2 x3 : Int} {σ : dS} (h : ∀ σ1 : dS, σ1 = rput σ 84 8 (σ 82 0) x1 → (∀ σ2 : dS, σ2 = rput σ1 86 8 (σ1 82 0) x2 → (∀ σ3 : dS, σ3 = rput σ2 88 8 (σ2 82 0) x3 → (∀ σ4 : dS, σ4 = up σ3 82 0 (wr ((σ3 82 0) + 1)) → (Q (.inl none) σ4))))) : B10_82_1 d Q x1 x2 x3 σ := ut (m := M10_82) rfl h
theorem c10_82 {d : Nat} {Q : dR → dS → Prop} {K : dS → Prop} {x1 x2 x3 : Int} {σ : dS} (h : B10_82_0 d (fun res σ1 => match res with | .inl none => K σ1 | .inl (some _) => False | .inr e => Q (.inr e) σ1) x1 x2 x3 σ) : wV (d + 2) 10 [.inr (.inr 82), .inl x1, .inl x2, .inl x3] σ Q K := ut0 rfl (Nat.le_of_ble_eq_true rfl) h
/-- WingTrams$Log.dropFirst()V, 11 -/
def M11 (lb : Nat) : List Bool := [[true, false], [true, true], [true, false]].getD lb []
def B11_0 (d : Nat) (Q : dR → dS → Prop) (σ : dS) : Prop := UT d 11 Q 0 (0, 0) [some (.inr (.inr 75)), none] [] σ
def B11_1 (d : Nat) (Q : dR → dS → Prop) (x1 : Int) (σ : dS) : Prop := UT d 11 Q 1 (0, 0) [some (.inr (.inr 75)), some (.inl x1)] [] σ
def B11_2 (d : Nat) (Q : dR → dS → Prop) (σ : dS) : Prop := UT d 11 Q 2 (0, 0) [some (.inr (.inr 75)), none] [] σ
theorem b11_0 {d : Nat} {Q : dR → dS → Prop} {σ : dS} (h : B11_1 d Q 1 σ) : B11_0 d Q σ := ut (m := M11) rfl h
theorem b11_1 {d : Nat} {Q : dR → dS → Prop} {x1 : Int} {σ : dS} (h : (((σ 75 0) ≤ x1) → B11_2 d Q σ) ∧ (¬ ((σ 75 0) ≤ x1) → ∀ σ1 : dS, σ1 = rput σ 77 40 (wr (x1 - 1)) (rat σ 77 40 x1) → (∀ σ2 : dS, σ2 = rput σ1 79 40 (wr (x1 - 1)) (rat σ1 79 40 x1) → (∀ σ3 : dS, σ3 = rput σ2 81 40 (wr (x1 - 1)) (rat σ2 81 40 x1) → (B11_1 d Q (wr (x1 + 1)) σ3))))) : B11_1 d Q x1 σ := ut (m := M11) rfl h
theorem b11_2 {d : Nat} {Q : dR → dS → Prop} {σ : dS} (h : ∀ σ1 : dS, σ1 = up σ 75 0 (wr ((σ 75 0) - 1)) → (Q (.inl none) σ1)) : B11_2 d Q σ := ut (m := M11) rfl h
theorem c11 {d : Nat} {Q : dR → dS → Prop} {K : dS → Prop} {σ : dS} (h : B11_0 d (fun res σ1 => match res with | .inl none => K σ1 | .inl (some _) => False | .inr e => Q (.inr e) σ1) σ) : wV (d + 2) 11 [.inr (.inr 75)] σ Q K := ut0 rfl (Nat.le_of_ble_eq_true rfl) h
/-- WingTrams$Log.copy(LWingTrams$Log;)V, 12_75_95 -/
def M12_75_95 (lb : Nat) : List Bool := [[true, true]].getD lb []
def B12_75_95_0 (d : Nat) (Q : dR → dS → Prop) (σ : dS) : Prop := UT d 12 Q 0 (0, 0) [some (.inr (.inr 75)), some (.inr (.inr 95))] [] σ
theorem b12_75_95_0 {d : Nat} {Q : dR → dS → Prop} {σ : dS} (h : ∀ σ1 : dS, σ1 = up σ 75 0 (σ 95 0) → (∀ σ2 : dS, σ2 = rcopy σ1 77 40 97 40 0 → (∀ σ3 : dS, σ3 = rcopy σ2 79 40 99 40 0 → (∀ σ4 : dS, σ4 = rcopy σ3 81 40 101 40 0 → (Q (.inl none) σ4))))) : B12_75_95_0 d Q σ := ut (m := M12_75_95) rfl h
theorem c12_75_95 {d : Nat} {Q : dR → dS → Prop} {K : dS → Prop} {σ : dS} (h : B12_75_95_0 d (fun res σ1 => match res with | .inl none => K σ1 | .inl (some _) => False | .inr e => Q (.inr e) σ1) σ) : wV (d + 2) 12 [.inr (.inr 75), .inr (.inr 95)] σ Q K := ut0 rfl (Nat.le_of_ble_eq_true rfl) h
/-- WingTrams$Log.copy(LWingTrams$Log;)V, 12_95_75 -/
def M12_95_75 (lb : Nat) : List Bool := [[true, true]].getD lb []
def B12_95_75_0 (d : Nat) (Q : dR → dS → Prop) (σ : dS) : Prop := UT d 12 Q 0 (0, 0) [some (.inr (.inr 95)), some (.inr (.inr 75))] [] σ
theorem b12_95_75_0 {d : Nat} {Q : dR → dS → Prop} {σ : dS} (h : ∀ σ1 : dS, σ1 = up σ 95 0 (σ 75 0) → (∀ σ2 : dS, σ2 = rcopy σ1 97 40 77 40 0 → (∀ σ3 : dS, σ3 = rcopy σ2 99 40 79 40 0 → (∀ σ4 : dS, σ4 = rcopy σ3 101 40 81 40 0 → (Q (.inl none) σ4))))) : B12_95_75_0 d Q σ := ut (m := M12_95_75) rfl h
theorem c12_95_75 {d : Nat} {Q : dR → dS → Prop} {K : dS → Prop} {σ : dS} (h : B12_95_75_0 d (fun res σ1 => match res with | .inl none => K σ1 | .inl (some _) => False | .inr e => Q (.inr e) σ1) σ) : wV (d + 2) 12 [.inr (.inr 95), .inr (.inr 75)] σ Q K := ut0 rfl (Nat.le_of_ble_eq_true rfl) h
/-- WingTrams$Log.copy(LWingTrams$Log;)V, 12_82_102 -/
def M12_82_102 (lb : Nat) : List Bool := [[true, true]].getD lb []
def B12_82_102_0 (d : Nat) (Q : dR → dS → Prop) (σ : dS) : Prop := UT d 12 Q 0 (0, 0) [some (.inr (.inr 82)), some (.inr (.inr 102))] [] σ
theorem b12_82_102_0 {d : Nat} {Q : dR → dS → Prop} {σ : dS} (h : ∀ σ1 : dS, σ1 = up σ 82 0 (σ 102 0) → (∀ σ2 : dS, σ2 = rcopy σ1 84 8 104 8 0 → (∀ σ3 : dS, σ3 = rcopy σ2 86 8 106 8 0 → (∀ σ4 : dS, σ4 = rcopy σ3 88 8 108 8 0 → (Q (.inl none) σ4))))) : B12_82_102_0 d Q σ := ut (m := M12_82_102) rfl h
theorem c12_82_102 {d : Nat} {Q : dR → dS → Prop} {K : dS → Prop} {σ : dS} (h : B12_82_102_0 d (fun res σ1 => match res with | .inl none => K σ1 | .inl (some _) => False | .inr e => Q (.inr e) σ1) σ) : wV (d + 2) 12 [.inr (.inr 82), .inr (.inr 102)] σ Q K := ut0 rfl (Nat.le_of_ble_eq_true rfl) h
/-- WingTrams$Log.copy(LWingTrams$Log;)V, 12_102_82 -/
def M12_102_82 (lb : Nat) : List Bool := [[true, true]].getD lb []
def B12_102_82_0 (d : Nat) (Q : dR → dS → Prop) (σ : dS) : Prop := UT d 12 Q 0 (0, 0) [some (.inr (.inr 102)), some (.inr (.inr 82))] [] σ
theorem b12_102_82_0 {d : Nat} {Q : dR → dS → Prop} {σ : dS} (h : ∀ σ1 : dS, σ1 = up σ 102 0 (σ 82 0) → (∀ σ2 : dS, σ2 = rcopy σ1 104 8 84 8 0 → (∀ σ3 : dS, σ3 = rcopy σ2 106 8 86 8 0 → (∀ σ4 : dS, σ4 = rcopy σ3 108 8 88 8 0 → (Q (.inl none) σ4))))) : B12_102_82_0 d Q σ := ut (m := M12_102_82) rfl h
theorem c12_102_82 {d : Nat} {Q : dR → dS → Prop} {K : dS → Prop} {σ : dS} (h : B12_102_82_0 d (fun res σ1 => match res with | .inl none => K σ1 | .inl (some _) => False | .inr e => Q (.inr e) σ1) σ) : wV (d + 2) 12 [.inr (.inr 102), .inr (.inr 82)] σ Q K := ut0 rfl (Nat.le_of_ble_eq_true rfl) h
/-- WingTrams$Rules.clear()V, 14 -/
def M14 (lb : Nat) : List Bool := [[true]].getD lb []
def B14_0 (d : Nat) (Q : dR → dS → Prop) (σ : dS) : Prop := UT d 14 Q 0 (0, 0) [some (.inr (.inr 54))] [] σ
theorem b14_0 {d : Nat} {Q : dR → dS → Prop} {σ : dS} (h : ∀ σ1 : dS, σ1 = up σ 54 0 0 → (∀ σ2 : dS, σ2 = up σ1 54 1 0 → (Q (.inl none) σ2))) : B14_0 d Q σ := ut (m := M14) rfl h
theorem c14 {d : Nat} {Q : dR → dS → Prop} {K : dS → Prop} {σ : dS} (h : B14_0 d (fun res σ1 => match res with | .inl none => K σ1 | .inl (some _) => False | .inr e => Q (.inr e) σ1) σ) : wV (d + 2) 14 [.inr (.inr 54)] σ Q K := ut0 rfl (Nat.le_of_ble_eq_true rfl) h
/-- WingTrams$Rules.copy(LWingTrams$Rules;)V, 15 -/
def M15 (lb : Nat) : List Bool := [[true, true]].getD lb []
def B15_0 (d : Nat) (Q : dR → dS → Prop) (σ : dS) : Prop := UT d 15 Q 0 (0, 0) [some (.inr (.inr 26)), some (.inr (.inr 54))] [] σ
theorem b15_0 {d : Nat} {Q : dR → dS → Prop} {σ : dS} (h : ∀ σ1 : dS, σ1 = up σ 26 0 (σ 54 0) → (∀ σ2 : dS, σ2 = up σ1 26 1 (σ1 54 1) → (∀ σ3 : dS, σ3 = rcopy σ2 28 700 56 700 0 → (∀ σ4 : dS, σ4 = rcopy σ3 30 4 58 4 0 → (Q (.inl none) σ4))))) : B15_0 d Q σ := ut (m := M15) rfl h
theorem c15 {d : Nat} {Q : dR → dS → Prop} {K : dS → Prop} {σ : dS} (h : B15_0 d (fun res σ1 => match res with | .inl none => K σ1 | .inl (some _) => False | .inr e => Q (.inr e) σ1) σ) : wV (d + 2) 15 [.inr (.inr 26), .inr (.inr 54)] σ Q K := ut0 rfl (Nat.le_of_ble_eq_true rfl) h
/-- WingTrams$Rules.emit(I)V, 16 -/
def M16 (lb : Nat) : List Bool := [[true, true]].getD lb []
def B16_0 (d : Nat) (Q : dR → dS → Prop) (x1 : Int) (σ : dS) : Prop := UT d 16 Q 0 (0, 0) [some (.inr (.inr 54)), some (.inl x1)] [] σ
theorem b16_0 {d : Nat} {Q : dR → dS → Prop} {x1 : Int} {σ : dS} (h : ∀ σ1 : dS, σ1 = rput σ 56 700 (σ 54 1) x1 → (∀ σ2 : dS, σ2 = up σ1 54 1 (wr ((σ1 54 1) + 1)) → (Q (.inl none) σ2))) : B16_0 d Q x1 σ := ut (m := M16) rfl h
theorem c16 {d : Nat} {Q : dR → dS → Prop} {K : dS → Prop} {x1 : Int} {σ : dS} (h : B16_0 d (fun res σ1 => match res with | .inl none => K σ1 | .inl (some _) => False | .inr e => Q (.inr e) σ1) x1 σ) : wV (d + 2) 16 [.inr (.inr 54), .inl x1] σ Q K := ut0 rfl (Nat.le_of_ble_eq_true rfl) h
/-- WingTrams$Rules.close()V, 17 -/
def M17 (lb : Nat) : List Bool := [[true]].getD lb []
def B17_0 (d : Nat) (Q : dR → dS → Prop) (σ : dS) : Prop := UT d 17 Q 0 (0, 0) [some (.inr (.inr 54))] [] σ
theorem b17_0 {d : Nat} {Q : dR → dS → Prop} {σ : dS} (h : ∀ σ1 : dS, σ1 = rput σ 58 4 (σ 54 0) (σ 54 1) → (∀ σ2 : dS, σ2 = up σ1 54 0 (wr ((σ1 54 0) + 1)) → (Q (.inl none) σ2))) : B17_0 d Q σ := ut (m := M17) rfl h
theorem c17 {d : Nat} {Q : dR → dS → Prop} {K : dS → Prop} {σ : dS} (h : B17_0 d (fun res σ1 => match res with | .inl none => K σ1 | .inl (some _) => False | .inr e => Q (.inr e) σ1) σ) : wV (d + 2) 17 [.inr (.inr 54)] σ Q K := ut0 rfl (Nat.le_of_ble_eq_true rfl) h
/-- WingTrams$Sky.begin(LWingTrams$City;)V, 21 -/
def M21 (lb : Nat) : List Bool := [[true, true], [true, true], [true, true]].getD lb []
def B21_0 (d : Nat) (Q : dR → dS → Prop) (σ : dS) : Prop := UT d 21 Q 0 (0, 0) [some (.inr (.inr 70)), some (.inr (.inr 5))] [] σ
def B21_1 (d : Nat) (Q : dR → dS → Prop) (σ : dS) : Prop := UT d 21 Q 1 (0, 0) [some (.inr (.inr 70)), some (.inr (.inr 5))] [.inr (.inr 70)] σ
def B21_2 (d : Nat) (Q : dR → dS → Prop) (s0 : Int) (σ : dS) : Prop := UT d 21 Q 2 (0, 0) [some (.inr (.inr 70)), some (.inr (.inr 5))] [.inl s0, .inr (.inr 70)] σ
theorem b21_0 {d : Nat} {Q : dR → dS → Prop} {σ : dS} (h : (((σ 26 0) ≤ 0) → B21_1 d Q σ) ∧ (¬ ((σ 26 0) ≤ 0) → B21_2 d Q 0 σ)) : B21_0 d Q σ := ut (m := M21) rfl h
theorem b21_1 {d : Nat} {Q : dR → dS → Prop} {σ : dS} (h : B21_2 d Q (-1) σ) : B21_1 d Q σ := ut (m := M21) rfl h
theorem b21_2 {d : Nat} {Q : dR → dS → Prop} {s0 : Int} {σ : dS} (h : ∀ σ1 : dS, σ1 = up σ 70 0 s0 → (∀ σ2 : dS, σ2 = up σ1 70 1 0 → (((0 : Int) = 0 ∨ (0 : Int) = 1) ∧ (∀ σ3 : dS, σ3 = up σ2 70 2 0 → (∀ σ4 : dS, σ4 = up σ3 70 3 0 → (∀ σ5 : dS, σ5 = rcopy σ4 72 10 7 10 0 → (∀ σ6 : dS, σ6 = rcopy σ5 74 5 13 5 0 → (Q (.inl none) σ6)))))))) : B21_2 d Q s0 σ := ut (m := M21) rfl h
theorem c21 {d : Nat} {Q : dR → dS → Prop} {K : dS → Prop} {σ : dS} (h : B21_0 d (fun res σ1 => match res with | .inl none => K σ1 | .inl (some _) => False | .inr e => Q (.inr e) σ1) σ) : wV (d + 2) 21 [.inr (.inr 70), .inr (.inr 5)] σ Q K := ut0 rfl (Nat.le_of_ble_eq_true rfl) h
/-- WingTrams$Sky.copy(LWingTrams$Sky;)V, 22_109_70 -/
def M22_109_70 (lb : Nat) : List Bool := [[true, true]].getD lb []
def B22_109_70_0 (d : Nat) (Q : dR → dS → Prop) (σ : dS) : Prop := UT d 22 Q 0 (0, 0) [some (.inr (.inr 109)), some (.inr (.inr 70))] [] σ
theorem b22_109_70_0 {d : Nat} {Q : dR → dS → Prop} {σ : dS} (h : ∀ σ1 : dS, σ1 = up σ 109 0 (σ 70 0) → (∀ σ2 : dS, σ2 = up σ1 109 1 (σ1 70 1) → (((σ2 70 2) = 0 ∨ (σ2 70 2) = 1) ∧ (∀ σ3 : dS, σ3 = up σ2 109 2 (σ2 70 2) → (∀ σ4 : dS, σ4 = up σ3 109 3 (σ3 70 3) → (∀ σ5 : dS, σ5 = rcopy σ4 111 10 72 10 0 → (∀ σ6 : dS, σ6 = rcopy σ5 113 5 74 5 0 → (Q (.inl none) σ6)))))))) : B22_109_70_0 d Q σ := ut (m := M22_109_70) rfl h
theorem c22_109_70 {d : Nat} {Q : dR → dS → Prop} {K : dS → Prop} {σ : dS} (h : B22_109_70_0 d (fun res σ1 => match res with | .inl none => K σ1 | .inl (some _) => False | .inr e => Q (.inr e) σ1) σ) : wV (d + 2) 22 [.inr (.inr 109), .inr (.inr 70)] σ Q K := ut0 rfl (Nat.le_of_ble_eq_true rfl) h
/-- WingTrams$Sky.copy(LWingTrams$Sky;)V, 22_70_90 -/
def M22_70_90 (lb : Nat) : List Bool := [[true, true]].getD lb []
def B22_70_90_0 (d : Nat) (Q : dR → dS → Prop) (σ : dS) : Prop := UT d 22 Q 0 (0, 0) [some (.inr (.inr 70)), some (.inr (.inr 90))] [] σ
theorem b22_70_90_0 {d : Nat} {Q : dR → dS → Prop} {σ : dS} (h : ∀ σ1 : dS, σ1 = up σ 70 0 (σ 90 0) → (∀ σ2 : dS, σ2 = up σ1 70 1 (σ1 90 1) → (((σ2 90 2) = 0 ∨ (σ2 90 2) = 1) ∧ (∀ σ3 : dS, σ3 = up σ2 70 2 (σ2 90 2) → (∀ σ4 : dS, σ4 = up σ3 70 3 (σ3 90 3) → (∀ σ5 : dS, σ5 = rcopy σ4 72 10 92 10 0 → (∀ σ6 : dS, σ6 = rcopy σ5 74 5 94 5 0 → (Q (.inl none) σ6)))))))) : B22_70_90_0 d Q σ := ut (m := M22_70_90) rfl h
theorem c22_70_90 {d : Nat} {Q : dR → dS → Prop} {K : dS → Prop} {σ : dS} (h : B22_70_90_0 d (fun res σ1 => match res with | .inl none => K σ1 | .inl (some _) => False | .inr e => Q (.inr e) σ1) σ) : wV (d + 2) 22 [.inr (.inr 70), .inr (.inr 90)] σ Q K := ut0 rfl (Nat.le_of_ble_eq_true rfl) h
/-- WingTrams$Sky.copy(LWingTrams$Sky;)V, 22_90_70 -/
def M22_90_70 (lb : Nat) : List Bool := [[true, true]].getD lb []
def B22_90_70_0 (d : Nat) (Q : dR → dS → Prop) (σ : dS) : Prop := UT d 22 Q 0 (0, 0) [some (.inr (.inr 90)), some (.inr (.inr 70))] [] σ
theorem b22_90_70_0 {d : Nat} {Q : dR → dS → Prop} {σ : dS} (h : ∀ σ1 : dS, σ1 = up σ 90 0 (σ 70 0) → (∀ σ2 : dS, σ2 = up σ1 90 1 (σ1 70 1) → (((σ2 70 2) = 0 ∨ (σ2 70 2) = 1) ∧ (∀ σ3 : dS, σ3 = up σ2 90 2 (σ2 70 2) → (∀ σ4 : dS, σ4 = up σ3 90 3 (σ3 70 3) → (∀ σ5 : dS, σ5 = rcopy σ4 92 10 72 10 0 → (∀ σ6 : dS, σ6 = rcopy σ5 94 5 74 5 0 → (Q (.inl none) σ6)))))))) : B22_90_70_0 d Q σ := ut (m := M22_90_70) rfl h
theorem c22_90_70 {d : Nat} {Q : dR → dS → Prop} {K : dS → Prop} {σ : dS} (h : B22_90_70_0 d (fun res σ1 => match res with | .inl none => K σ1 | .inl (some _) => False | .inr e => Q (.inr e) σ1) σ) : wV (d + 2) 22 [.inr (.inr 90), .inr (.inr 70)] σ Q K := ut0 rfl (Nat.le_of_ble_eq_true rfl) h
/-- WingTrams$City.clear()V, 25 -/
def M25 (lb : Nat) : List Bool := [[true]].getD lb []
def B25_0 (d : Nat) (Q : dR → dS → Prop) (σ : dS) : Prop := UT d 25 Q 0 (0, 0) [some (.inr (.inr 33))] [] σ
theorem b25_0 {d : Nat} {Q : dR → dS → Prop} {σ : dS} (h : ∀ σ1 : dS, σ1 = up σ 33 0 0 → (∀ σ2 : dS, σ2 = up σ1 33 1 0 → (∀ σ3 : dS, σ3 = up σ2 33 2 0 → (∀ σ4 : dS, σ4 = up σ3 33 3 0 → (∀ σ5 : dS, σ5 = up σ4 33 4 360 → (∀ σ6 : dS, σ6 = rfill σ5 37 100 0 0 → (wV (d + 1) 14 [.inr (.inr 54)] σ6 Q (fun σ7 => Q (.inl none) σ7)))))))) : B25_0 d Q σ := ut (m := M25) rfl h
theorem c25 {d : Nat} {Q : dR → dS → Prop} {K : dS → Prop} {σ : dS} (h : B25_0 d (fun res σ1 => match res with | .inl none => K σ1 | .inl (some _) => False | .inr e => Q (.inr e) σ1) σ) : wV (d + 2) 25 [.inr (.inr 33)] σ Q K := ut0 rfl (Nat.le_of_ble_eq_true rfl) h
/-- WingTrams$City.copy(LWingTrams$City;)V, 26 -/
def M26 (lb : Nat) : List Bool := [[true, true]].getD lb []
def B26_0 (d : Nat) (Q : dR → dS → Prop) (σ : dS) : Prop := UT d 26 Q 0 (0, 0) [some (.inr (.inr 5)), some (.inr (.inr 33))] [] σ
set_option maxRecDepth 20000 in
theorem b26_0 {d : Nat} {Q : dR → dS → Prop} {σ : dS} (h : ∀ σ1 : dS, σ1 = up σ 5 0 (σ 33 0) → (∀ σ2 : dS, σ2 = up σ1 5 1 (σ1 33 1) → (∀ σ3 : dS, σ3 = up σ2 5 2 (σ2 33 2) → (∀ σ4 : dS, σ4 = up σ3 5 3 (σ3 33 3) → (∀ σ5 : dS, σ5 = up σ4 5 4 (σ4 33 4) → (∀ σ6 : dS, σ6 = rcopy σ5 7 10 35 10 0 → (∀ σ7 : dS, σ7 = rcopy σ6 9 100 37 100 0 → (∀ σ8 : dS, σ8 = rcopy σ7 11 5 39 5 0 → (∀ σ9 : dS, σ9 = rcopy σ8 13 5 41 5 0 → (∀ σ10 : dS, σ10 = rcopy σ9 15 5 43 5 0 → (∀ σ11 : dS, σ11 = rcopy σ10 17 40 45 40 0 → (∀ σ12 : dS, σ12 = rcopy σ11 19 8 47 8 0 → (∀ σ13 : dS, σ13 = rcopy σ12 21 8 49 8 0 → (∀ σ14 : dS, σ14 = rcopy σ13 23 8 51 8 0 → (∀ σ15 : dS, σ15 = rcopy σ14 25 8 53 8 0 → (wV (d + 1) 15 [.inr (.inr 26), .inr (.inr 54)] σ15 Q (fun σ16 => Q (.inl none) σ16))))))))))))))))) : B26_0 d Q σ := ut (m := M26) rfl h
theorem c26 {d : Nat} {Q : dR → dS → Prop} {K : dS → Prop} {σ : dS} (h : B26_0 d (fun res σ1 => match res with | .inl none => K σ1 | .inl (some _) => False | .inr e => Q (.inr e) σ1) σ) : wV (d + 2) 26 [.inr (.inr 5), .inr (.inr 33)] σ Q K := ut0 rfl (Nat.le_of_ble_eq_true rfl) h
/-- WingTrams$City.addFlight(III)V, 27 -/
def M27 (lb : Nat) : List Bool := [[true, true, true, true]].getD lb []
def B27_0 (d : Nat) (Q : dR → dS → Prop) (x1 x2 x3 : Int) (σ : dS) : Prop := UT d 27 Q 0 (0, 0) [some (.inr (.inr 33)), some (.inl x1), some (.inl x2), some (.inl x3)] [] σ
theorem b27_0 {d : Nat} {Q : dR → dS → Prop} {x1 x2 x3 : Int} {σ : dS} (h : ∀ σ1 : dS, σ1 = rput σ 37 100 (wr ((wr (x1 * 10)) + x2)) x3 → (∀ σ2 : dS, σ2 = rput σ1 37 100 (wr ((wr (x2 * 10)) + x1)) x3 → (∀ σ3 : dS, σ3 = up σ2 33 1 (wr ((σ2 33 1) + 1)) → (Q (.inl none) σ3)))) : B27_0 d Q x1 x2 x3 σ := ut (m := M27) rfl h
theorem c27 {d : Nat} {Q : dR → dS → Prop} {K : dS → Prop} {x1 x2 x3 : Int} {σ : dS} (h : B27_0 d (fun res σ1 => match res with | .inl none => K σ1 | .inl (some _) => False | .inr e => Q (.inr e) σ1) x1 x2 x3 σ) : wV (d + 2) 27 [.inr (.inr 33), .inl x1, .inl x2, .inl x3] σ Q K := ut0 rfl (Nat.le_of_ble_eq_true rfl) h
/-- WingTrams$State.begin(LWingTrams$City;)V, 33 -/
def M33 (lb : Nat) : List Bool := [[true, true]].getD lb []
def B33_0 (d : Nat) (Q : dR → dS → Prop) (σ : dS) : Prop := UT d 33 Q 0 (0, 0) [some (.inr (.inr 69)), some (.inr (.inr 5))] [] σ
theorem b33_0 {d : Nat} {Q : dR → dS → Prop} {σ : dS} (h : wV (d + 1) 21 [.inr (.inr 70), .inr (.inr 5)] σ Q (fun σ1 => ∀ σ2 : dS, σ2 = up σ1 75 0 0 → (∀ σ3 : dS, σ3 = up σ2 82 0 0 → (Q (.inl none) σ3)))) : B33_0 d Q σ := ut (m := M33) rfl h
theorem c33 {d : Nat} {Q : dR → dS → Prop} {K : dS → Prop} {σ : dS} (h : B33_0 d (fun res σ1 => match res with | .inl none => K σ1 | .inl (some _) => False | .inr e => Q (.inr e) σ1) σ) : wV (d + 2) 33 [.inr (.inr 69), .inr (.inr 5)] σ Q K := ut0 rfl (Nat.le_of_ble_eq_true rfl) h
/-- WingTrams$State.copy(LWingTrams$State;)V, 34_69_89 -/
def M34_69_89 (lb : Nat) : List Bool := [[true, true]].getD lb []
def B34_69_89_0 (d : Nat) (Q : dR → dS → Prop) (σ : dS) : Prop := UT d 34 Q 0 (0, 0) [some (.inr (.inr 69)), some (.inr (.inr 89))] [] σ
theorem b34_69_89_0 {d : Nat} {Q : dR → dS → Prop} {σ : dS} (h : wV (d + 1) 22 [.inr (.inr 70), .inr (.inr 90)] σ Q (fun σ1 => wV (d + 1) 12 [.inr (.inr 75), .inr (.inr 95)] σ1 Q (fun σ2 => wV (d + 1) 12 [.inr (.inr 82), .inr (.inr 102)] σ2 Q (fun σ3 => Q (.inl none) σ3)))) : B34_69_89_0 d Q σ := ut (m := M34_69_89) rfl h
theorem c34_69_89 {d : Nat} {Q : dR → dS → Prop} {K : dS → Prop} {σ : dS} (h : B34_69_89_0 d (fun res σ1 => match res with | .inl none => K σ1 | .inl (some _) => False | .inr e => Q (.inr e) σ1) σ) : wV (d + 2) 34 [.inr (.inr 69), .inr (.inr 89)] σ Q K := ut0 rfl (Nat.le_of_ble_eq_true rfl) h
/-- WingTrams$State.copy(LWingTrams$State;)V, 34_89_69 -/
def M34_89_69 (lb : Nat) : List Bool := [[true, true]].getD lb []
def B34_89_69_0 (d : Nat) (Q : dR → dS → Prop) (σ : dS) : Prop := UT d 34 Q 0 (0, 0) [some (.inr (.inr 89)), some (.inr (.inr 69))] [] σ
theorem b34_89_69_0 {d : Nat} {Q : dR → dS → Prop} {σ : dS} (h : wV (d + 1) 22 [.inr (.inr 90), .inr (.inr 70)] σ Q (fun σ1 => wV (d + 1) 12 [.inr (.inr 95), .inr (.inr 75)] σ1 Q (fun σ2 => wV (d + 1) 12 [.inr (.inr 102), .inr (.inr 82)] σ2 Q (fun σ3 => Q (.inl none) σ3)))) : B34_89_69_0 d Q σ := ut (m := M34_89_69) rfl h
theorem c34_89_69 {d : Nat} {Q : dR → dS → Prop} {K : dS → Prop} {σ : dS} (h : B34_89_69_0 d (fun res σ1 => match res with | .inl none => K σ1 | .inl (some _) => False | .inr e => Q (.inr e) σ1) σ) : wV (d + 2) 34 [.inr (.inr 89), .inr (.inr 69)] σ Q K := ut0 rfl (Nat.le_of_ble_eq_true rfl) h
/-- WingTrams$State.takeBack()I, 35 -/
def M35 (lb : Nat) : List Bool := [[true, false, false], [true, false, false], [true, false, true], [true, false, true], [true, false, true], [true, false, false], [true, false, false], [true, false, true], [true, true, true], [true, true, true], [true, false, false]].getD lb []
def B35_0 (d : Nat) (Q : dR → dS → Prop) (σ : dS) : Prop := UT d 35 Q 0 (0, 0) [some (.inr (.inr 69)), none, none] [] σ
def B35_1 (d : Nat) (Q : dR → dS → Prop) (σ : dS) : Prop := UT d 35 Q 1 (0, 0) [some (.inr (.inr 69)), none, none] [] σ
def B35_2 (d : Nat) (Q : dR → dS → Prop) (x2 : Int) (σ : dS) : Prop := UT d 35 Q 2 (0, 0) [some (.inr (.inr 69)), none, some (.inl x2)] [] σ
def B35_3 (d : Nat) (Q : dR → dS → Prop) (x2 : Int) (σ : dS) : Prop := UT d 35 Q 3 (0, 0) [some (.inr (.inr 69)), none, some (.inl x2)] [] σ
def B35_4 (d : Nat) (Q : dR → dS → Prop) (x2 : Int) (σ : dS) : Prop := UT d 35 Q 4 (0, 0) [some (.inr (.inr 69)), none, some (.inl x2)] [] σ
def B35_5 (d : Nat) (Q : dR → dS → Prop) (σ : dS) : Prop := UT d 35 Q 5 (0, 0) [some (.inr (.inr 69)), none, none] [.inr (.inr 70)] σ
def B35_6 (d : Nat) (Q : dR → dS → Prop) (s0 : Int) (σ : dS) : Prop := UT d 35 Q 6 (0, 0) [some (.inr (.inr 69)), none, none] [.inl s0, .inr (.inr 70)] σ
def B35_7 (d : Nat) (Q : dR → dS → Prop) (x2 : Int) (σ : dS) : Prop := UT d 35 Q 7 (0, 0) [some (.inr (.inr 69)), none, some (.inl x2)] [] σ
def B35_8 (d : Nat) (Q : dR → dS → Prop) (x1 x2 : Int) (σ : dS) : Prop := UT d 35 Q 8 (0, 0) [some (.inr (.inr 69)), some (.inl x1), some (.inl x2)] [] σ
def B35_9 (d : Nat) (Q : dR → dS → Prop) (x1 x2 : Int) (σ : dS) : Prop := UT d 35 Q 9 (0, 0) [some (.inr (.inr 69)), some (.inl x1), some (.inl x2)] [] σ
def B35_10 (d : Nat) (Q : dR → dS → Prop) (σ : dS) : Prop := UT d 35 Q 10 (0, 0) [some (.inr (.inr 69)), none, none] [] σ
theorem b35_0 {d : Nat} {Q : dR → dS → Prop} {σ : dS} (h : (((σ 75 0) ≠ 0) → B35_1 d Q σ) ∧ (¬ ((σ 75 0) ≠ 0) → Q (.inl (some (.inl (-1)))) σ)) : B35_0 d Q σ := ut (m := M35) rfl h
set_option maxRecDepth 20000 in
theorem b35_1 {d : Nat} {Q : dR → dS → Prop} {σ : dS} (h : ∀ σ1 : dS, σ1 = up σ 75 0 (wr ((σ 75 0) - 1)) → ((((rat σ1 77 40 (σ1 75 0)) = 0) → B35_2 d Q (rat σ1 81 40 (σ1 75 0)) σ1) ∧ (¬ ((rat σ1 77 40 (σ1 75 0)) = 0) → (((rat σ1 77 40 (σ1 75 0)) = 1) → B35_3 d Q (rat σ1 81 40 (σ1 75 0)) σ1) ∧ (¬ ((rat σ1 77 40 (σ1 75 0)) = 1) → (((rat σ1 77 40 (σ1 75 0)) = 2) → B35_4 d Q (rat σ1 81 40 (σ1 75 0)) σ1) ∧ (¬ ((rat σ1 77 40 (σ1 75 0)) = 2) → (((rat σ1 77 40 (σ1 75 0)) = 3) → B35_7 d Q (rat σ1 81 40 (σ1 75 0)) σ1) ∧ (¬ ((rat σ1 77 40 (σ1 75 0)) = 3) → (((rat σ1 77 40 (σ1 75 0)) = 4) → B35_8 d Q (rat σ1 79 40 (σ1 75 0)) (rat σ1 81 40 (σ1 75 0)) σ1) ∧ (¬ ((rat σ1 77 40 (σ1 75 0)) = 4) → B35_9 d Q (rat σ1 79 40 (σ1 75 0)) (rat σ1 81 40 (σ1 75 0)) σ1))))))) : B35_1 d Q σ := ut (m := M35) rfl h
theorem b35_2 {d : Nat} {Q : dR → dS → Prop} {x2 : Int} {σ : dS} (h : ∀ σ1 : dS, σ1 = up σ 70 0 x2 → (B35_10 d Q σ1)) : B35_2 d Q x2 σ := ut (m := M35) rfl h
theorem b35_3 {d : Nat} {Q : dR → dS → Prop} {x2 : Int} {σ : dS} (h : ∀ σ1 : dS, σ1 = up σ 70 1 x2 → (B35_10 d Q σ1)) : B35_3 d Q x2 σ := ut (m := M35) rfl h
theorem b35_4 {d : Nat} {Q : dR → dS → Prop} {x2 : Int} {σ : dS} (h : ((x2 ≠ (1 : Int)) → B35_5 d Q σ) ∧ (¬ (x2 ≠ (1 : Int)) → B35_6 d Q 1 σ)) : B35_4 d Q x2 σ := ut (m := M35) rfl h
theorem b35_5 {d : Nat} {Q : dR → dS → Prop} {σ : dS} (h : B35_6 d Q 0 σ) : B35_5 d Q σ := ut (m := M35) rfl h
theorem b35_6 {d : Nat} {Q : dR → dS → Prop} {s0 : Int} {σ : dS} (h : (s0 = 0 ∨ s0 = 1) ∧ (∀ σ1 : dS, σ1 = up σ 70 2 s0 → (B35_10 d Q σ1))) : B35_6 d Q s0 σ := ut (m := M35) rfl h
theorem b35_7 {d : Nat} {Q : dR → dS → Prop} {x2 : Int} {σ : dS} (h : ∀ σ1 : dS, σ1 = up σ 70 3 x2 → (B35_10 d Q σ1)) : B35_7 d Q x2 σ := ut (m := M35) rfl h
theorem b35_8 {d : Nat} {Q : dR → dS → Prop} {x1 x2 : Int} {σ : dS} (h : ∀ σ1 : dS, σ1 = rput σ 72 10 x1 x2 → (B35_10 d Q σ1)) : B35_8 d Q x1 x2 σ := ut (m := M35) rfl h
theorem b35_9 {d : Nat} {Q : dR → dS → Prop} {x1 x2 : Int} {σ : dS} (h : ∀ σ1 : dS, σ1 = rput σ 74 5 x1 x2 → (B35_10 d Q σ1)) : B35_9 d Q x1 x2 σ := ut (m := M35) rfl h
theorem b35_10 {d : Nat} {Q : dR → dS → Prop} {σ : dS} (h : Q (.inl (some (.inl (σ 75 0)))) σ) : B35_10 d Q σ := ut (m := M35) rfl h
theorem c35 {d : Nat} {Q : dR → dS → Prop} {K : Int → dS → Prop} {σ : dS} (h : B35_0 d (fun res σ1 => match res with | .inl (some (.inl v)) => K v σ1 | .inl _ => False | .inr e => Q (.inr e) σ1) σ) : wI (d + 2) 35 [.inr (.inr 69)] σ Q K := ut0 rfl (Nat.le_of_ble_eq_true rfl) h
