/-! BLOCKS AS CLEAN ROWS, by program (wip/whole/gen/g26.py) -/
/-- WingTrams.feed(IIIII)I, 98 -/
def M98 (lb : Nat) : List Bool := [[true, true, true, true, true, true], [true, true, true, true, true, true]].getD lb []
def B98_0 (d : Nat) (Q : dR → dS → Prop) (x1 x2 x3 x4 x5 : Int) (σ : dS) : Prop := UT d 98 Q 0 (0, 0) [some (.inr (.inr 0)), some (.inl x1), some (.inl x2), some (.inl x3), some (.inl x4), some (.inl x5)] [] σ
def B98_1 (d : Nat) (Q : dR → dS → Prop) (x1 x2 x3 x4 x5 : Int) (σ : dS) : Prop := UT d 98 Q 1 (0, 0) [some (.inr (.inr 0)), some (.inl x1), some (.inl x2), some (.inl x3), some (.inl x4), some (.inl x5)] [] σ
theorem b98_0 {d : Nat} {Q : dR → dS → Prop} {x1 x2 x3 x4 x5 : Int} {σ : dS} (h : (((wr ((σ 0 1) + 20)) ≤ (700 : Int)) → B98_1 d Q x1 x2 x3 x4 x5 σ) ∧ (¬ ((wr ((σ 0 1) + 20)) ≤ (700 : Int)) → Q (.inl (some (.inl (-1)))) σ)) : B98_0 d Q x1 x2 x3 x4 x5 σ := ut (m := M98) rfl h
theorem b98_1 {d : Nat} {Q : dR → dS → Prop} {x1 x2 x3 x4 x5 : Int} {σ : dS} (h : wV (d + 1) 99 [.inr (.inr 0), .inl x1] σ Q (fun σ1 => wV (d + 1) 99 [.inr (.inr 0), .inl x2] σ1 Q (fun σ2 => wV (d + 1) 99 [.inr (.inr 0), .inl x3] σ2 Q (fun σ3 => wV (d + 1) 99 [.inr (.inr 0), .inl x4] σ3 Q (fun σ4 => wV (d + 1) 99 [.inr (.inr 0), .inl x5] σ4 Q (fun σ5 => Q (.inl (some (.inl (σ5 0 1)))) σ5)))))) : B98_1 d Q x1 x2 x3 x4 x5 σ := ut (m := M98) rfl h
theorem c98 {d : Nat} {Q : dR → dS → Prop} {K : Int → dS → Prop} {x1 x2 x3 x4 x5 : Int} {σ : dS} (h : B98_0 d (fun res σ1 => match res with | .inl (some (.inl v)) => K v σ1 | .inl _ => False | .inr e => Q (.inr e) σ1) x1 x2 x3 x4 x5 σ) : wI (d + 2) 98 [.inr (.inr 0), .inl x1, .inl x2, .inl x3, .inl x4, .inl x5] σ Q K := ut0 rfl (Nat.le_of_ble_eq_true rfl) h
/-- WingTrams.putBytes(I)V, 99 -/
def M99 (lb : Nat) : List Bool := [[true, true, false], [true, true, true], [false, false, false]].getD lb []
def B99_0 (d : Nat) (Q : dR → dS → Prop) (x1 : Int) (σ : dS) : Prop := UT d 99 Q 0 (0, 0) [some (.inr (.inr 0)), some (.inl x1), none] [] σ
def B99_1 (d : Nat) (Q : dR → dS → Prop) (x1 x2 : Int) (σ : dS) : Prop := UT d 99 Q 1 (0, 0) [some (.inr (.inr 0)), some (.inl x1), some (.inl x2)] [] σ
def B99_2 (d : Nat) (Q : dR → dS → Prop) (σ : dS) : Prop := UT d 99 Q 2 (0, 0) [none, none, none] [] σ
theorem b99_0 {d : Nat} {Q : dR → dS → Prop} {x1 : Int} {σ : dS} (h : B99_1 d Q x1 24 σ) : B99_0 d Q x1 σ := ut (m := M99) rfl h
theorem b99_1 {d : Nat} {Q : dR → dS → Prop} {x1 x2 : Int} {σ : dS} (h : ((x2 < 0) → B99_2 d Q σ) ∧ (¬ (x2 < 0) → ∀ σ1 : dS, σ1 = rput σ 2 700 (σ 0 1) (ian (ush x1 x2) 255) → (∀ σ2 : dS, σ2 = up σ1 0 1 (wr ((σ1 0 1) + 1)) → (B99_1 d Q x1 (wr (x2 + (-8))) σ2)))) : B99_1 d Q x1 x2 σ := ut (m := M99) rfl h
theorem b99_2 {d : Nat} {Q : dR → dS → Prop} {σ : dS} (h : Q (.inl none) σ) : B99_2 d Q σ := ut (m := M99) rfl h
theorem c99 {d : Nat} {Q : dR → dS → Prop} {K : dS → Prop} {x1 : Int} {σ : dS} (h : B99_0 d (fun res σ1 => match res with | .inl none => K σ1 | .inl (some _) => False | .inr e => Q (.inr e) σ1) x1 σ) : wV (d + 2) 99 [.inr (.inr 0), .inl x1] σ Q K := ut0 rfl (Nat.le_of_ble_eq_true rfl) h
/-- WingTrams.city(I)I, 100 -/
def M100 (lb : Nat) : List Bool := [[true, true, false], [false, false, false], [true, true, false], [true, false, false]].getD lb []
def B100_0 (d : Nat) (Q : dR → dS → Prop) (x1 : Int) (σ : dS) : Prop := UT d 100 Q 0 (0, 0) [some (.inr (.inr 0)), some (.inl x1), none] [] σ
def B100_1 (d : Nat) (Q : dR → dS → Prop) (σ : dS) : Prop := UT d 100 Q 1 (0, 0) [none, none, none] [] σ
def B100_2 (d : Nat) (Q : dR → dS → Prop) (x1 : Int) (σ : dS) : Prop := UT d 100 Q 2 (0, 0) [some (.inr (.inr 0)), some (.inl x1), none] [] σ
def B100_3 (d : Nat) (Q : dR → dS → Prop) (σ : dS) : Prop := UT d 100 Q 3 (0, 0) [some (.inr (.inr 0)), none, none] [] σ
theorem b100_0 {d : Nat} {Q : dR → dS → Prop} {x1 : Int} {σ : dS} (h : ((x1 < 0) → B100_1 d Q σ) ∧ (¬ (x1 < 0) → ((x1 ≤ (σ 0 1)) → B100_2 d Q x1 σ) ∧ (¬ (x1 ≤ (σ 0 1)) → B100_1 d Q σ))) : B100_0 d Q x1 σ := ut (m := M100) rfl h
theorem b100_1 {d : Nat} {Q : dR → dS → Prop} {σ : dS} (h : Q (.inr 1) σ) : B100_1 d Q σ := ut (m := M100) rfl h
theorem b100_2 {d : Nat} {Q : dR → dS → Prop} {x1 : Int} {σ : dS} (h : wV (d + 1) 37 [.inr (.inr 61), .inr (.inr 1), .inl x1] σ Q (fun σ1 => ∀ σ2 : dS, σ2 = up σ1 0 1 0 → (wI (d + 1) 46 [.inr (.inr 68)] σ2 Q (fun v3 σ3 => ∀ σ4 : dS, σ4 = up σ3 0 2 (σ3 68 4) → (((v3 = 0) → B100_3 d Q σ4) ∧ (¬ (v3 = 0) → wI (d + 1) 112 [.inr (.inr 0), .inl 0] σ4 Q (fun v5 σ5 => Q (.inl (some (.inl v3))) σ5))))))) : B100_2 d Q x1 σ := ut (m := M100) rfl h
theorem b100_3 {d : Nat} {Q : dR → dS → Prop} {σ : dS} (h : wV (d + 1) 26 [.inr (.inr 5), .inr (.inr 33)] σ Q (fun σ1 => wV (d + 1) 33 [.inr (.inr 69), .inr (.inr 5)] σ1 Q (fun σ2 => ((0 : Int) = 0 ∨ (0 : Int) = 1) ∧ (∀ σ3 : dS, σ3 = up σ2 0 10 0 → (((0 : Int) = 0 ∨ (0 : Int) = 1) ∧ (∀ σ4 : dS, σ4 = up σ3 0 17 0 → (Q (.inl (some (.inl 0))) σ4))))))) : B100_3 d Q σ := ut (m := M100) rfl h
theorem c100 {d : Nat} {Q : dR → dS → Prop} {K : Int → dS → Prop} {x1 : Int} {σ : dS} (h : B100_0 d (fun res σ1 => match res with | .inl (some (.inl v)) => K v σ1 | .inl _ => False | .inr e => Q (.inr e) σ1) x1 σ) : wI (d + 2) 100 [.inr (.inr 0), .inl x1] σ Q K := ut0 rfl (Nat.le_of_ble_eq_true rfl) h
/-- WingTrams.fault()I, 101 -/
def M101 (lb : Nat) : List Bool := [[true]].getD lb []
def B101_0 (d : Nat) (Q : dR → dS → Prop) (σ : dS) : Prop := UT d 101 Q 0 (0, 0) [some (.inr (.inr 0))] [] σ
theorem b101_0 {d : Nat} {Q : dR → dS → Prop} {σ : dS} (h : Q (.inl (some (.inl (σ 0 2)))) σ) : B101_0 d Q σ := ut (m := M101) rfl h
theorem c101 {d : Nat} {Q : dR → dS → Prop} {K : Int → dS → Prop} {σ : dS} (h : B101_0 d (fun res σ1 => match res with | .inl (some (.inl v)) => K v σ1 | .inl _ => False | .inr e => Q (.inr e) σ1) σ) : wI (d + 2) 101 [.inr (.inr 0)] σ Q K := ut0 rfl (Nat.le_of_ble_eq_true rfl) h
/-- WingTrams.count(I)I, 102 -/
def M102 (lb : Nat) : List Bool := [[true, true], [true, false], [true, false], [true, false], [true, false], [true, false], [true, false], [true, false], [true, false], [true, false], [false, false], [false, false], [true, false], [true, false], [true, false], [true, false], [true, false], [true, false], [true, false], [true, false], [false, false]].getD lb []
def B102_0 (d : Nat) (Q : dR → dS → Prop) (x1 : Int) (σ : dS) : Prop := UT d 102 Q 0 (0, 0) [some (.inr (.inr 0)), some (.inl x1)] [] σ
def B102_1 (d : Nat) (Q : dR → dS → Prop) (σ : dS) : Prop := UT d 102 Q 1 (0, 0) [some (.inr (.inr 0)), none] [] σ
def B102_2 (d : Nat) (Q : dR → dS → Prop) (σ : dS) : Prop := UT d 102 Q 2 (0, 0) [some (.inr (.inr 0)), none] [] σ
def B102_3 (d : Nat) (Q : dR → dS → Prop) (σ : dS) : Prop := UT d 102 Q 3 (0, 0) [some (.inr (.inr 0)), none] [] σ
def B102_4 (d : Nat) (Q : dR → dS → Prop) (σ : dS) : Prop := UT d 102 Q 4 (0, 0) [some (.inr (.inr 0)), none] [] σ
def B102_5 (d : Nat) (Q : dR → dS → Prop) (σ : dS) : Prop := UT d 102 Q 5 (0, 0) [some (.inr (.inr 0)), none] [] σ
def B102_6 (d : Nat) (Q : dR → dS → Prop) (σ : dS) : Prop := UT d 102 Q 6 (0, 0) [some (.inr (.inr 0)), none] [] σ
def B102_7 (d : Nat) (Q : dR → dS → Prop) (σ : dS) : Prop := UT d 102 Q 7 (0, 0) [some (.inr (.inr 0)), none] [] σ
def B102_8 (d : Nat) (Q : dR → dS → Prop) (σ : dS) : Prop := UT d 102 Q 8 (0, 0) [some (.inr (.inr 0)), none] [] σ
def B102_9 (d : Nat) (Q : dR → dS → Prop) (σ : dS) : Prop := UT d 102 Q 9 (0, 0) [some (.inr (.inr 0)), none] [] σ
def B102_10 (d : Nat) (Q : dR → dS → Prop) (σ : dS) : Prop := UT d 102 Q 10 (0, 0) [none, none] [] σ
def B102_11 (d : Nat) (Q : dR → dS → Prop) (s0 : Int) (σ : dS) : Prop := UT d 102 Q 11 (0, 0) [none, none] [.inl s0] σ
def B102_12 (d : Nat) (Q : dR → dS → Prop) (σ : dS) : Prop := UT d 102 Q 12 (0, 0) [some (.inr (.inr 0)), none] [] σ
def B102_13 (d : Nat) (Q : dR → dS → Prop) (σ : dS) : Prop := UT d 102 Q 13 (0, 0) [some (.inr (.inr 0)), none] [] σ
def B102_14 (d : Nat) (Q : dR → dS → Prop) (σ : dS) : Prop := UT d 102 Q 14 (0, 0) [some (.inr (.inr 0)), none] [] σ
def B102_15 (d : Nat) (Q : dR → dS → Prop) (σ : dS) : Prop := UT d 102 Q 15 (0, 0) [some (.inr (.inr 0)), none] [] σ
def B102_16 (d : Nat) (Q : dR → dS → Prop) (σ : dS) : Prop := UT d 102 Q 16 (0, 0) [some (.inr (.inr 0)), none] [] σ
def B102_17 (d : Nat) (Q : dR → dS → Prop) (σ : dS) : Prop := UT d 102 Q 17 (0, 0) [some (.inr (.inr 0)), none] [] σ
def B102_18 (d : Nat) (Q : dR → dS → Prop) (σ : dS) : Prop := UT d 102 Q 18 (0, 0) [some (.inr (.inr 0)), none] [] σ
def B102_19 (d : Nat) (Q : dR → dS → Prop) (σ : dS) : Prop := UT d 102 Q 19 (0, 0) [some (.inr (.inr 0)), none] [] σ
def B102_20 (d : Nat) (Q : dR → dS → Prop) (σ : dS) : Prop := UT d 102 Q 20 (0, 0) [none, none] [] σ
set_option maxRecDepth 20000 in
theorem b102_0 {d : Nat} {Q : dR → dS → Prop} {x1 : Int} {σ : dS} (h : ((x1 = 0) → B102_1 d Q σ) ∧ (¬ (x1 = 0) → ((x1 = 1) → B102_2 d Q σ) ∧ (¬ (x1 = 1) → ((x1 = 2) → B102_3 d Q σ) ∧ (¬ (x1 = 2) → ((x1 = 3) → B102_4 d Q σ) ∧ (¬ (x1 = 3) → ((x1 = 4) → B102_5 d Q σ) ∧ (¬ (x1 = 4) → ((x1 = 5) → B102_6 d Q σ) ∧ (¬ (x1 = 5) → ((x1 = 6) → B102_7 d Q σ) ∧ (¬ (x1 = 6) → ((x1 = 7) → B102_8 d Q σ) ∧ (¬ (x1 = 7) → ((x1 = 8) → B102_9 d Q σ) ∧ (¬ (x1 = 8) → ((x1 = 9) → B102_12 d Q σ) ∧ (¬ (x1 = 9) → ((x1 = 10) → B102_13 d Q σ) ∧ (¬ (x1 = 10) → ((x1 = 11) → B102_14 d Q σ) ∧ (¬ (x1 = 11) → ((x1 = 12) → B102_15 d Q σ) ∧ (¬ (x1 = 12) → ((x1 = 13) → B102_16 d Q σ) ∧ (¬ (x1 = 13) → ((x1 = 14) → B102_17 d Q σ) ∧ (¬ (x1 = 14) → ((x1 = 15) → B102_18 d Q σ) ∧ (¬ (x1 = 15) → ((x1 = 16) → B102_19 d Q σ) ∧ (¬ (x1 = 16) → B102_20 d Q σ)))))))))))))))))) : B102_0 d Q x1 σ := ut (m := M102) rfl h
theorem b102_1 {d : Nat} {Q : dR → dS → Prop} {σ : dS} (h : Q (.inl (some (.inl (σ 5 0)))) σ) : B102_1 d Q σ := ut (m := M102) rfl h
theorem b102_2 {d : Nat} {Q : dR → dS → Prop} {σ : dS} (h : Q (.inl (some (.inl (σ 5 1)))) σ) : B102_2 d Q σ := ut (m := M102) rfl h
theorem b102_3 {d : Nat} {Q : dR → dS → Prop} {σ : dS} (h : Q (.inl (some (.inl (σ 5 2)))) σ) : B102_3 d Q σ := ut (m := M102) rfl h
theorem b102_4 {d : Nat} {Q : dR → dS → Prop} {σ : dS} (h : Q (.inl (some (.inl (σ 5 3)))) σ) : B102_4 d Q σ := ut (m := M102) rfl h
theorem b102_5 {d : Nat} {Q : dR → dS → Prop} {σ : dS} (h : Q (.inl (some (.inl (σ 26 0)))) σ) : B102_5 d Q σ := ut (m := M102) rfl h
theorem b102_6 {d : Nat} {Q : dR → dS → Prop} {σ : dS} (h : Q (.inl (some (.inl (σ 70 0)))) σ) : B102_6 d Q σ := ut (m := M102) rfl h
theorem b102_7 {d : Nat} {Q : dR → dS → Prop} {σ : dS} (h : Q (.inl (some (.inl (σ 5 4)))) σ) : B102_7 d Q σ := ut (m := M102) rfl h
theorem b102_8 {d : Nat} {Q : dR → dS → Prop} {σ : dS} (h : Q (.inl (some (.inl (σ 70 1)))) σ) : B102_8 d Q σ := ut (m := M102) rfl h
theorem b102_9 {d : Nat} {Q : dR → dS → Prop} {σ : dS} (h : (((σ 70 2) = 0) → B102_10 d Q σ) ∧ (¬ ((σ 70 2) = 0) → B102_11 d Q 1 σ)) : B102_9 d Q σ := ut (m := M102) rfl h
theorem b102_10 {d : Nat} {Q : dR → dS → Prop} {σ : dS} (h : B102_11 d Q 0 σ) : B102_10 d Q σ := ut (m := M102) rfl h
theorem b102_11 {d : Nat} {Q : dR → dS → Prop} {s0 : Int} {σ : dS} (h : Q (.inl (some (.inl s0))) σ) : B102_11 d Q s0 σ := ut (m := M102) rfl h
theorem b102_12 {d : Nat} {Q : dR → dS → Prop} {σ : dS} (h : Q (.inl (some (.inl (σ 70 3)))) σ) : B102_12 d Q σ := ut (m := M102) rfl h
theorem b102_13 {d : Nat} {Q : dR → dS → Prop} {σ : dS} (h : wI (d + 1) 126 [.inr (.inr 0), .inr (.inr 70)] σ Q (fun v1 σ1 => Q (.inl (some (.inl v1))) σ1)) : B102_13 d Q σ := ut (m := M102) rfl h
theorem b102_14 {d : Nat} {Q : dR → dS → Prop} {σ : dS} (h : Q (.inl (some (.inl (σ 75 0)))) σ) : B102_14 d Q σ := ut (m := M102) rfl h
theorem b102_15 {d : Nat} {Q : dR → dS → Prop} {σ : dS} (h : Q (.inl (some (.inl (σ 82 0)))) σ) : B102_15 d Q σ := ut (m := M102) rfl h
theorem b102_16 {d : Nat} {Q : dR → dS → Prop} {σ : dS} (h : Q (.inl (some (.inl (σ 0 1)))) σ) : B102_16 d Q σ := ut (m := M102) rfl h
theorem b102_17 {d : Nat} {Q : dR → dS → Prop} {σ : dS} (h : Q (.inl (some (.inl (rat σ 4 3 0)))) σ) : B102_17 d Q σ := ut (m := M102) rfl h
theorem b102_18 {d : Nat} {Q : dR → dS → Prop} {σ : dS} (h : Q (.inl (some (.inl (rat σ 4 3 1)))) σ) : B102_18 d Q σ := ut (m := M102) rfl h
theorem b102_19 {d : Nat} {Q : dR → dS → Prop} {σ : dS} (h : Q (.inl (some (.inl (rat σ 4 3 2)))) σ) : B102_19 d Q σ := ut (m := M102) rfl h
theorem b102_20 {d : Nat} {Q : dR → dS → Prop} {σ : dS} (h : Q (.inr 0) σ) : B102_20 d Q σ := ut (m := M102) rfl h
theorem c102 {d : Nat} {Q : dR → dS → Prop} {K : Int → dS → Prop} {x1 : Int} {σ : dS} (h : B102_0 d (fun res σ1 => match res with | .inl (some (.inl v)) => K v σ1 | .inl _ => False | .inr e => Q (.inr e) σ1) x1 σ) : wI (d + 2) 102 [.inr (.inr 0), .inl x1] σ Q K := ut0 rfl (Nat.le_of_ble_eq_true rfl) h
/-- WingTrams.roof(II)I, 103 -/
def M103 (lb : Nat) : List Bool := [[true, true, true], [true, true, false], [true, true, false], [true, true, false], [true, true, false], [true, true, false], [false, false, false]].getD lb []
def B103_0 (d : Nat) (Q : dR → dS → Prop) (x1 x2 : Int) (σ : dS) : Prop := UT d 103 Q 0 (0, 0) [some (.inr (.inr 0)), some (.inl x1), some (.inl x2)] [] σ
def B103_1 (d : Nat) (Q : dR → dS → Prop) (x1 : Int) (σ : dS) : Prop := UT d 103 Q 1 (1, 6) [some (.inr (.inr 0)), some (.inl x1), none] [] σ
def B103_2 (d : Nat) (Q : dR → dS → Prop) (x1 : Int) (σ : dS) : Prop := UT d 103 Q 2 (1, 6) [some (.inr (.inr 0)), some (.inl x1), none] [] σ
def B103_3 (d : Nat) (Q : dR → dS → Prop) (x1 : Int) (σ : dS) : Prop := UT d 103 Q 3 (1, 6) [some (.inr (.inr 0)), some (.inl x1), none] [] σ
def B103_4 (d : Nat) (Q : dR → dS → Prop) (x1 : Int) (σ : dS) : Prop := UT d 103 Q 4 (1, 6) [some (.inr (.inr 0)), some (.inl x1), none] [] σ
def B103_5 (d : Nat) (Q : dR → dS → Prop) (x1 : Int) (σ : dS) : Prop := UT d 103 Q 5 (1, 6) [some (.inr (.inr 0)), some (.inl x1), none] [] σ
def B103_6 (d : Nat) (Q : dR → dS → Prop) (σ : dS) : Prop := UT d 103 Q 6 (1, 6) [none, none, none] [] σ
theorem b103_0 {d : Nat} {Q : dR → dS → Prop} {x1 x2 : Int} {σ : dS} (h : wV (d + 1) 109 [.inr (.inr 0), .inl x1] σ Q (fun σ1 => ((x2 = 0) → B103_1 d Q x1 σ1) ∧ (¬ (x2 = 0) → ((x2 = 1) → B103_2 d Q x1 σ1) ∧ (¬ (x2 = 1) → ((x2 = 2) → B103_3 d Q x1 σ1) ∧ (¬ (x2 = 2) → ((x2 = 3) → B103_4 d Q x1 σ1) ∧ (¬ (x2 = 3) → ((x2 = 4) → B103_5 d Q x1 σ1) ∧ (¬ (x2 = 4) → B103_6 d Q σ1))))))) : B103_0 d Q x1 x2 σ := ut (m := M103) rfl h
theorem b103_1 {d : Nat} {Q : dR → dS → Prop} {x1 : Int} {σ : dS} (h : Q (.inl (some (.inl (rat σ 72 10 x1)))) σ) : B103_1 d Q x1 σ := ut (m := M103) rfl h
theorem b103_2 {d : Nat} {Q : dR → dS → Prop} {x1 : Int} {σ : dS} (h : Q (.inl (some (.inl (wr (2 * (rat σ 72 10 x1)))))) σ) : B103_2 d Q x1 σ := ut (m := M103) rfl h
theorem b103_3 {d : Nat} {Q : dR → dS → Prop} {x1 : Int} {σ : dS} (h : wV (d + 1) 68 [.inr (.inr 114), .inr (.inr 70)] σ Q (fun σ1 => Q (.inl (some (.inl (rat σ1 120 10 x1)))) σ1)) : B103_3 d Q x1 σ := ut (m := M103) rfl h
theorem b103_4 {d : Nat} {Q : dR → dS → Prop} {x1 : Int} {σ : dS} (h : wI (d + 1) 30 [.inr (.inr 5), .inl x1] σ Q (fun v1 σ1 => Q (.inl (some (.inl v1))) σ1)) : B103_4 d Q x1 σ := ut (m := M103) rfl h
theorem b103_5 {d : Nat} {Q : dR → dS → Prop} {x1 : Int} {σ : dS} (h : wI (d + 1) 29 [.inr (.inr 5), .inl x1] σ Q (fun v1 σ1 => Q (.inl (some (.inl v1))) σ1)) : B103_5 d Q x1 σ := ut (m := M103) rfl h
theorem b103_6 {d : Nat} {Q : dR → dS → Prop} {σ : dS} (h : Q (.inr 0) σ) : B103_6 d Q σ := ut (m := M103) rfl h
theorem c103 {d : Nat} {Q : dR → dS → Prop} {K : Int → dS → Prop} {x1 x2 : Int} {σ : dS} (h : B103_0 d (fun res σ1 => match res with | .inl (some (.inl v)) => K v σ1 | .inl _ => False | .inr e => Q (.inr e) σ1) x1 x2 σ) : wI (d + 2) 103 [.inr (.inr 0), .inl x1, .inl x2] σ Q K := ut0 rfl (Nat.le_of_ble_eq_true rfl) h
/-- WingTrams.flight(II)I, 104 -/
def M104 (lb : Nat) : List Bool := [[true, true, true]].getD lb []
def B104_0 (d : Nat) (Q : dR → dS → Prop) (x1 x2 : Int) (σ : dS) : Prop := UT d 104 Q 0 (0, 0) [some (.inr (.inr 0)), some (.inl x1), some (.inl x2)] [] σ
theorem b104_0 {d : Nat} {Q : dR → dS → Prop} {x1 x2 : Int} {σ : dS} (h : wV (d + 1) 109 [.inr (.inr 0), .inl x1] σ Q (fun σ1 => wV (d + 1) 109 [.inr (.inr 0), .inl x2] σ1 Q (fun σ2 => wI (d + 1) 28 [.inr (.inr 5), .inl x1, .inl x2] σ2 Q (fun v3 σ3 => Q (.inl (some (.inl v3))) σ3)))) : B104_0 d Q x1 x2 σ := ut (m := M104) rfl h
theorem c104 {d : Nat} {Q : dR → dS → Prop} {K : Int → dS → Prop} {x1 x2 : Int} {σ : dS} (h : B104_0 d (fun res σ1 => match res with | .inl (some (.inl v)) => K v σ1 | .inl _ => False | .inr e => Q (.inr e) σ1) x1 x2 σ) : wI (d + 2) 104 [.inr (.inr 0), .inl x1, .inl x2] σ Q K := ut0 rfl (Nat.le_of_ble_eq_true rfl) h
/-- WingTrams.owl(II)I, 105 -/
def M105 (lb : Nat) : List Bool := [[true, true, true], [true, true, false], [true, true, false], [true, true, false], [true, true, false], [true, true, false], [false, false, false], [false, false, false], [true, true, false], [false, false, false]].getD lb []
def B105_0 (d : Nat) (Q : dR → dS → Prop) (x1 x2 : Int) (σ : dS) : Prop := UT d 105 Q 0 (0, 0) [some (.inr (.inr 0)), some (.inl x1), some (.inl x2)] [] σ
def B105_1 (d : Nat) (Q : dR → dS → Prop) (x1 : Int) (σ : dS) : Prop := UT d 105 Q 1 (1, 6) [some (.inr (.inr 0)), some (.inl x1), none] [] σ
def B105_2 (d : Nat) (Q : dR → dS → Prop) (x1 : Int) (σ : dS) : Prop := UT d 105 Q 2 (1, 6) [some (.inr (.inr 0)), some (.inl x1), none] [] σ
def B105_3 (d : Nat) (Q : dR → dS → Prop) (x1 : Int) (σ : dS) : Prop := UT d 105 Q 3 (1, 6) [some (.inr (.inr 0)), some (.inl x1), none] [] σ
def B105_4 (d : Nat) (Q : dR → dS → Prop) (x1 : Int) (σ : dS) : Prop := UT d 105 Q 4 (1, 6) [some (.inr (.inr 0)), some (.inl x1), none] [] σ
def B105_5 (d : Nat) (Q : dR → dS → Prop) (x1 : Int) (σ : dS) : Prop := UT d 105 Q 5 (1, 6) [some (.inr (.inr 0)), some (.inl x1), none] [] σ
def B105_6 (d : Nat) (Q : dR → dS → Prop) (σ : dS) : Prop := UT d 105 Q 6 (1, 6) [none, none, none] [] σ
def B105_7 (d : Nat) (Q : dR → dS → Prop) (s0 : Int) (σ : dS) : Prop := UT d 105 Q 7 (1, 6) [none, none, none] [.inl s0] σ
def B105_8 (d : Nat) (Q : dR → dS → Prop) (x1 : Int) (σ : dS) : Prop := UT d 105 Q 8 (1, 6) [some (.inr (.inr 0)), some (.inl x1), none] [] σ
def B105_9 (d : Nat) (Q : dR → dS → Prop) (σ : dS) : Prop := UT d 105 Q 9 (1, 6) [none, none, none] [] σ
theorem b105_0 {d : Nat} {Q : dR → dS → Prop} {x1 x2 : Int} {σ : dS} (h : wV (d + 1) 110 [.inr (.inr 0), .inl x1] σ Q (fun σ1 => ((x2 = 0) → B105_1 d Q x1 σ1) ∧ (¬ (x2 = 0) → ((x2 = 1) → B105_2 d Q x1 σ1) ∧ (¬ (x2 = 1) → ((x2 = 2) → B105_3 d Q x1 σ1) ∧ (¬ (x2 = 2) → ((x2 = 3) → B105_4 d Q x1 σ1) ∧ (¬ (x2 = 3) → ((x2 = 4) → B105_5 d Q x1 σ1) ∧ (¬ (x2 = 4) → ((x2 = 5) → B105_8 d Q x1 σ1) ∧ (¬ (x2 = 5) → B105_9 d Q σ1)))))))) : B105_0 d Q x1 x2 σ := ut (m := M105) rfl h
theorem b105_1 {d : Nat} {Q : dR → dS → Prop} {x1 : Int} {σ : dS} (h : Q (.inl (some (.inl (rat σ 11 5 x1)))) σ) : B105_1 d Q x1 σ := ut (m := M105) rfl h
theorem b105_2 {d : Nat} {Q : dR → dS → Prop} {x1 : Int} {σ : dS} (h : Q (.inl (some (.inl (rat σ 74 5 x1)))) σ) : B105_2 d Q x1 σ := ut (m := M105) rfl h
theorem b105_3 {d : Nat} {Q : dR → dS → Prop} {x1 : Int} {σ : dS} (h : Q (.inl (some (.inl (rat σ 15 5 x1)))) σ) : B105_3 d Q x1 σ := ut (m := M105) rfl h
theorem b105_4 {d : Nat} {Q : dR → dS → Prop} {x1 : Int} {σ : dS} (h : wV (d + 1) 68 [.inr (.inr 114), .inr (.inr 70)] σ Q (fun σ1 => Q (.inl (some (.inl (rat σ1 122 5 x1)))) σ1)) : B105_4 d Q x1 σ := ut (m := M105) rfl h
theorem b105_5 {d : Nat} {Q : dR → dS → Prop} {x1 : Int} {σ : dS} (h : wI (d + 1) 23 [.inr (.inr 70), .inl x1] σ Q (fun v1 σ1 => ((v1 = 0) → B105_6 d Q σ1) ∧ (¬ (v1 = 0) → B105_7 d Q 1 σ1))) : B105_5 d Q x1 σ := ut (m := M105) rfl h
theorem b105_6 {d : Nat} {Q : dR → dS → Prop} {σ : dS} (h : B105_7 d Q 0 σ) : B105_6 d Q σ := ut (m := M105) rfl h
theorem b105_7 {d : Nat} {Q : dR → dS → Prop} {s0 : Int} {σ : dS} (h : Q (.inl (some (.inl s0))) σ) : B105_7 d Q s0 σ := ut (m := M105) rfl h
theorem b105_8 {d : Nat} {Q : dR → dS → Prop} {x1 : Int} {σ : dS} (h : wV (d + 1) 68 [.inr (.inr 114), .inr (.inr 70)] σ Q (fun σ1 => wI (d + 1) 75 [.inr (.inr 114), .inl x1] σ1 Q (fun v2 σ2 => Q (.inl (some (.inl v2))) σ2))) : B105_8 d Q x1 σ := ut (m := M105) rfl h
theorem b105_9 {d : Nat} {Q : dR → dS → Prop} {σ : dS} (h : Q (.inr 0) σ) : B105_9 d Q σ := ut (m := M105) rfl h
theorem c105 {d : Nat} {Q : dR → dS → Prop} {K : Int → dS → Prop} {x1 x2 : Int} {σ : dS} (h : B105_0 d (fun res σ1 => match res with | .inl (some (.inl v)) => K v σ1 | .inl _ => False | .inr e => Q (.inr e) σ1) x1 x2 σ) : wI (d + 2) 105 [.inr (.inr 0), .inl x1, .inl x2] σ Q K := ut0 rfl (Nat.le_of_ble_eq_true rfl) h
/-- WingTrams.stop(III)I, 106 -/
def M106 (lb : Nat) : List Bool := [[true, true, true, true], [false, false, false, false], [true, true, true, true], [true, true, true, true], [true, true, true, true], [true, true, true, false], [false, false, false, false]].getD lb []
def B106_0 (d : Nat) (Q : dR → dS → Prop) (x1 x2 x3 : Int) (σ : dS) : Prop := UT d 106 Q 0 (0, 0) [some (.inr (.inr 0)), some (.inl x1), some (.inl x2), some (.inl x3)] [] σ
def B106_1 (d : Nat) (Q : dR → dS → Prop) (σ : dS) : Prop := UT d 106 Q 1 (1, 6) [none, none, none, none] [] σ
def B106_2 (d : Nat) (Q : dR → dS → Prop) (x1 x2 x3 : Int) (σ : dS) : Prop := UT d 106 Q 2 (1, 6) [some (.inr (.inr 0)), some (.inl x1), some (.inl x2), some (.inl x3)] [] σ
def B106_3 (d : Nat) (Q : dR → dS → Prop) (x1 x2 x3 : Int) (σ : dS) : Prop := UT d 106 Q 3 (1, 6) [some (.inr (.inr 0)), some (.inl x1), some (.inl x2), some (.inl x3)] [] σ
def B106_4 (d : Nat) (Q : dR → dS → Prop) (x1 x2 x3 : Int) (σ : dS) : Prop := UT d 106 Q 4 (1, 6) [some (.inr (.inr 0)), some (.inl x1), some (.inl x2), some (.inl x3)] [] σ
def B106_5 (d : Nat) (Q : dR → dS → Prop) (x1 x2 : Int) (σ : dS) : Prop := UT d 106 Q 5 (1, 6) [some (.inr (.inr 0)), some (.inl x1), some (.inl x2), none] [] σ
def B106_6 (d : Nat) (Q : dR → dS → Prop) (s0 : Int) (σ : dS) : Prop := UT d 106 Q 6 (1, 6) [none, none, none, none] [.inl s0] σ
theorem b106_0 {d : Nat} {Q : dR → dS → Prop} {x1 x2 x3 : Int} {σ : dS} (h : wV (d + 1) 110 [.inr (.inr 0), .inl x1] σ Q (fun σ1 => ((x2 < 0) → B106_1 d Q σ1) ∧ (¬ (x2 < 0) → (((rat σ1 15 5 x1) ≤ x2) → B106_1 d Q σ1) ∧ (¬ ((rat σ1 15 5 x1) ≤ x2) → ((x3 < 0) → B106_1 d Q σ1) ∧ (¬ (x3 < 0) → ((x3 ≤ (2 : Int)) → B106_2 d Q x1 x2 x3 σ1) ∧ (¬ (x3 ≤ (2 : Int)) → B106_1 d Q σ1)))))) : B106_0 d Q x1 x2 x3 σ := ut (m := M106) rfl h
theorem b106_1 {d : Nat} {Q : dR → dS → Prop} {σ : dS} (h : Q (.inr 0) σ) : B106_1 d Q σ := ut (m := M106) rfl h
theorem b106_2 {d : Nat} {Q : dR → dS → Prop} {x1 x2 x3 : Int} {σ : dS} (h : ((x3 ≠ 0) → B106_3 d Q x1 x2 x3 σ) ∧ (¬ (x3 ≠ 0) → Q (.inl (some (.inl (rat σ 17 40 (wr ((wr (x1 * 8)) + x2)))))) σ)) : B106_2 d Q x1 x2 x3 σ := ut (m := M106) rfl h
theorem b106_3 {d : Nat} {Q : dR → dS → Prop} {x1 x2 x3 : Int} {σ : dS} (h : wI (d + 1) 23 [.inr (.inr 70), .inl x1] σ Q (fun v1 σ1 => ((v1 = 0) → B106_4 d Q x1 x2 x3 σ1) ∧ (¬ (v1 = 0) → Q (.inl (some (.inl (-1)))) σ1))) : B106_3 d Q x1 x2 x3 σ := ut (m := M106) rfl h
theorem b106_4 {d : Nat} {Q : dR → dS → Prop} {x1 x2 x3 : Int} {σ : dS} (h : wV (d + 1) 68 [.inr (.inr 114), .inr (.inr 70)] σ Q (fun σ1 => ((x3 ≠ (1 : Int)) → B106_5 d Q x1 x2 σ1) ∧ (¬ (x3 ≠ (1 : Int)) → B106_6 d Q (rat σ1 116 40 (wr ((wr (x1 * 8)) + x2))) σ1))) : B106_4 d Q x1 x2 x3 σ := ut (m := M106) rfl h
theorem b106_5 {d : Nat} {Q : dR → dS → Prop} {x1 x2 : Int} {σ : dS} (h : B106_6 d Q (rat σ 118 40 (wr ((wr (x1 * 8)) + x2))) σ) : B106_5 d Q x1 x2 σ := ut (m := M106) rfl h
theorem b106_6 {d : Nat} {Q : dR → dS → Prop} {s0 : Int} {σ : dS} (h : Q (.inl (some (.inl s0))) σ) : B106_6 d Q s0 σ := ut (m := M106) rfl h
theorem c106 {d : Nat} {Q : dR → dS → Prop} {K : Int → dS → Prop} {x1 x2 x3 : Int} {σ : dS} (h : B106_0 d (fun res σ1 => match res with | .inl (some (.inl v)) => K v σ1 | .inl _ => False | .inr e => Q (.inr e) σ1) x1 x2 x3 σ) : wI (d + 2) 106 [.inr (.inr 0), .inl x1, .inl x2, .inl x3] σ Q K := ut0 rfl (Nat.le_of_ble_eq_true rfl) h
/-- WingTrams.rider(II)I, 107 -/
def M107 (lb : Nat) : List Bool := [[true, true, true], [true, true, false], [true, true, false], [true, true, false], [true, true, false], [false, false, false]].getD lb []
def B107_0 (d : Nat) (Q : dR → dS → Prop) (x1 x2 : Int) (σ : dS) : Prop := UT d 107 Q 0 (0, 0) [some (.inr (.inr 0)), some (.inl x1), some (.inl x2)] [] σ
def B107_1 (d : Nat) (Q : dR → dS → Prop) (x1 : Int) (σ : dS) : Prop := UT d 107 Q 1 (1, 6) [some (.inr (.inr 0)), some (.inl x1), none] [] σ
def B107_2 (d : Nat) (Q : dR → dS → Prop) (x1 : Int) (σ : dS) : Prop := UT d 107 Q 2 (1, 6) [some (.inr (.inr 0)), some (.inl x1), none] [] σ
def B107_3 (d : Nat) (Q : dR → dS → Prop) (x1 : Int) (σ : dS) : Prop := UT d 107 Q 3 (1, 6) [some (.inr (.inr 0)), some (.inl x1), none] [] σ
def B107_4 (d : Nat) (Q : dR → dS → Prop) (x1 : Int) (σ : dS) : Prop := UT d 107 Q 4 (1, 6) [some (.inr (.inr 0)), some (.inl x1), none] [] σ
def B107_5 (d : Nat) (Q : dR → dS → Prop) (σ : dS) : Prop := UT d 107 Q 5 (1, 6) [none, none, none] [] σ
theorem b107_0 {d : Nat} {Q : dR → dS → Prop} {x1 x2 : Int} {σ : dS} (h : wV (d + 1) 111 [.inr (.inr 0), .inl x1] σ Q (fun σ1 => ((x2 = 0) → B107_1 d Q x1 σ1) ∧ (¬ (x2 = 0) → ((x2 = 1) → B107_2 d Q x1 σ1) ∧ (¬ (x2 = 1) → ((x2 = 2) → B107_3 d Q x1 σ1) ∧ (¬ (x2 = 2) → ((x2 = 3) → B107_4 d Q x1 σ1) ∧ (¬ (x2 = 3) → B107_5 d Q σ1)))))) : B107_0 d Q x1 x2 σ := ut (m := M107) rfl h
theorem b107_1 {d : Nat} {Q : dR → dS → Prop} {x1 : Int} {σ : dS} (h : Q (.inl (some (.inl (rat σ 19 8 x1)))) σ) : B107_1 d Q x1 σ := ut (m := M107) rfl h
theorem b107_2 {d : Nat} {Q : dR → dS → Prop} {x1 : Int} {σ : dS} (h : Q (.inl (some (.inl (rat σ 21 8 x1)))) σ) : B107_2 d Q x1 σ := ut (m := M107) rfl h
theorem b107_3 {d : Nat} {Q : dR → dS → Prop} {x1 : Int} {σ : dS} (h : Q (.inl (some (.inl (rat σ 23 8 x1)))) σ) : B107_3 d Q x1 σ := ut (m := M107) rfl h
theorem b107_4 {d : Nat} {Q : dR → dS → Prop} {x1 : Int} {σ : dS} (h : Q (.inl (some (.inl (rat σ 25 8 x1)))) σ) : B107_4 d Q x1 σ := ut (m := M107) rfl h
theorem b107_5 {d : Nat} {Q : dR → dS → Prop} {σ : dS} (h : Q (.inr 0) σ) : B107_5 d Q σ := ut (m := M107) rfl h
theorem c107 {d : Nat} {Q : dR → dS → Prop} {K : Int → dS → Prop} {x1 x2 : Int} {σ : dS} (h : B107_0 d (fun res σ1 => match res with | .inl (some (.inl v)) => K v σ1 | .inl _ => False | .inr e => Q (.inr e) σ1) x1 x2 σ) : wI (d + 2) 107 [.inr (.inr 0), .inl x1, .inl x2] σ Q K := ut0 rfl (Nat.le_of_ble_eq_true rfl) h
/-- WingTrams.where(II)I, 108 -/
def M108 (lb : Nat) : List Bool := [[true, true, true]].getD lb []
def B108_0 (d : Nat) (Q : dR → dS → Prop) (x1 x2 : Int) (σ : dS) : Prop := UT d 108 Q 0 (0, 0) [some (.inr (.inr 0)), some (.inl x1), some (.inl x2)] [] σ
theorem b108_0 {d : Nat} {Q : dR → dS → Prop} {x1 x2 : Int} {σ : dS} (h : wV (d + 1) 110 [.inr (.inr 0), .inl x1] σ Q (fun σ1 => wV (d + 1) 68 [.inr (.inr 114), .inr (.inr 70)] σ1 Q (fun σ2 => wI (d + 1) 74 [.inr (.inr 114), .inl x1, .inl x2] σ2 Q (fun v3 σ3 => Q (.inl (some (.inl v3))) σ3)))) : B108_0 d Q x1 x2 σ := ut (m := M108) rfl h
theorem c108 {d : Nat} {Q : dR → dS → Prop} {K : Int → dS → Prop} {x1 x2 : Int} {σ : dS} (h : B108_0 d (fun res σ1 => match res with | .inl (some (.inl v)) => K v σ1 | .inl _ => False | .inr e => Q (.inr e) σ1) x1 x2 σ) : wI (d + 2) 108 [.inr (.inr 0), .inl x1, .inl x2] σ Q K := ut0 rfl (Nat.le_of_ble_eq_true rfl) h
/-- WingTrams.needRoof(I)V, 109 -/
def M109 (lb : Nat) : List Bool := [[true, true], [false, false], [false, false]].getD lb []
def B109_0 (d : Nat) (Q : dR → dS → Prop) (x1 : Int) (σ : dS) : Prop := UT d 109 Q 0 (0, 0) [some (.inr (.inr 0)), some (.inl x1)] [] σ
def B109_1 (d : Nat) (Q : dR → dS → Prop) (σ : dS) : Prop := UT d 109 Q 1 (0, 0) [none, none] [] σ
def B109_2 (d : Nat) (Q : dR → dS → Prop) (σ : dS) : Prop := UT d 109 Q 2 (0, 0) [none, none] [] σ
theorem b109_0 {d : Nat} {Q : dR → dS → Prop} {x1 : Int} {σ : dS} (h : ((x1 < 0) → B109_1 d Q σ) ∧ (¬ (x1 < 0) → ((x1 < (σ 5 0)) → B109_2 d Q σ) ∧ (¬ (x1 < (σ 5 0)) → B109_1 d Q σ))) : B109_0 d Q x1 σ := ut (m := M109) rfl h
theorem b109_1 {d : Nat} {Q : dR → dS → Prop} {σ : dS} (h : Q (.inr 0) σ) : B109_1 d Q σ := ut (m := M109) rfl h
theorem b109_2 {d : Nat} {Q : dR → dS → Prop} {σ : dS} (h : Q (.inl none) σ) : B109_2 d Q σ := ut (m := M109) rfl h
theorem c109 {d : Nat} {Q : dR → dS → Prop} {K : dS → Prop} {x1 : Int} {σ : dS} (h : B109_0 d (fun res σ1 => match res with | .inl none => K σ1 | .inl (some _) => False | .inr e => Q (.inr e) σ1) x1 σ) : wV (d + 2) 109 [.inr (.inr 0), .inl x1] σ Q K := ut0 rfl (Nat.le_of_ble_eq_true rfl) h
/-- WingTrams.needOwl(I)V, 110 -/
def M110 (lb : Nat) : List Bool := [[true, true], [false, false], [false, false]].getD lb []
def B110_0 (d : Nat) (Q : dR → dS → Prop) (x1 : Int) (σ : dS) : Prop := UT d 110 Q 0 (0, 0) [some (.inr (.inr 0)), some (.inl x1)] [] σ
def B110_1 (d : Nat) (Q : dR → dS → Prop) (σ : dS) : Prop := UT d 110 Q 1 (0, 0) [none, none] [] σ
def B110_2 (d : Nat) (Q : dR → dS → Prop) (σ : dS) : Prop := UT d 110 Q 2 (0, 0) [none, none] [] σ
theorem b110_0 {d : Nat} {Q : dR → dS → Prop} {x1 : Int} {σ : dS} (h : ((x1 < 0) → B110_1 d Q σ) ∧ (¬ (x1 < 0) → ((x1 < (σ 5 2)) → B110_2 d Q σ) ∧ (¬ (x1 < (σ 5 2)) → B110_1 d Q σ))) : B110_0 d Q x1 σ := ut (m := M110) rfl h
theorem b110_1 {d : Nat} {Q : dR → dS → Prop} {σ : dS} (h : Q (.inr 0) σ) : B110_1 d Q σ := ut (m := M110) rfl h
theorem b110_2 {d : Nat} {Q : dR → dS → Prop} {σ : dS} (h : Q (.inl none) σ) : B110_2 d Q σ := ut (m := M110) rfl h
theorem c110 {d : Nat} {Q : dR → dS → Prop} {K : dS → Prop} {x1 : Int} {σ : dS} (h : B110_0 d (fun res σ1 => match res with | .inl none => K σ1 | .inl (some _) => False | .inr e => Q (.inr e) σ1) x1 σ) : wV (d + 2) 110 [.inr (.inr 0), .inl x1] σ Q K := ut0 rfl (Nat.le_of_ble_eq_true rfl) h
/-- WingTrams.needRider(I)V, 111 -/
def M111 (lb : Nat) : List Bool := [[true, true], [false, false], [false, false]].getD lb []
def B111_0 (d : Nat) (Q : dR → dS → Prop) (x1 : Int) (σ : dS) : Prop := UT d 111 Q 0 (0, 0) [some (.inr (.inr 0)), some (.inl x1)] [] σ
def B111_1 (d : Nat) (Q : dR → dS → Prop) (σ : dS) : Prop := UT d 111 Q 1 (0, 0) [none, none] [] σ
def B111_2 (d : Nat) (Q : dR → dS → Prop) (σ : dS) : Prop := UT d 111 Q 2 (0, 0) [none, none] [] σ
theorem b111_0 {d : Nat} {Q : dR → dS → Prop} {x1 : Int} {σ : dS} (h : ((x1 < 0) → B111_1 d Q σ) ∧ (¬ (x1 < 0) → ((x1 < (σ 5 3)) → B111_2 d Q σ) ∧ (¬ (x1 < (σ 5 3)) → B111_1 d Q σ))) : B111_0 d Q x1 σ := ut (m := M111) rfl h
theorem b111_1 {d : Nat} {Q : dR → dS → Prop} {σ : dS} (h : Q (.inr 0) σ) : B111_1 d Q σ := ut (m := M111) rfl h
theorem b111_2 {d : Nat} {Q : dR → dS → Prop} {σ : dS} (h : Q (.inl none) σ) : B111_2 d Q σ := ut (m := M111) rfl h
theorem c111 {d : Nat} {Q : dR → dS → Prop} {K : dS → Prop} {x1 : Int} {σ : dS} (h : B111_0 d (fun res σ1 => match res with | .inl none => K σ1 | .inl (some _) => False | .inr e => Q (.inr e) σ1) x1 σ) : wV (d + 2) 111 [.inr (.inr 0), .inl x1] σ Q K := ut0 rfl (Nat.le_of_ble_eq_true rfl) h
/-- WingTrams.refuse(I)I, 112 -/
def M112 (lb : Nat) : List Bool := [[true, true]].getD lb []
def B112_0 (d : Nat) (Q : dR → dS → Prop) (x1 : Int) (σ : dS) : Prop := UT d 112 Q 0 (0, 0) [some (.inr (.inr 0)), some (.inl x1)] [] σ
theorem b112_0 {d : Nat} {Q : dR → dS → Prop} {x1 : Int} {σ : dS} (h : ∀ σ1 : dS, σ1 = rput σ 4 3 x1 (wr ((rat σ 4 3 x1) + 1)) → (Q (.inl (some (.inl (-1)))) σ1)) : B112_0 d Q x1 σ := ut (m := M112) rfl h
theorem c112 {d : Nat} {Q : dR → dS → Prop} {K : Int → dS → Prop} {x1 : Int} {σ : dS} (h : B112_0 d (fun res σ1 => match res with | .inl (some (.inl v)) => K v σ1 | .inl _ => False | .inr e => Q (.inr e) σ1) x1 σ) : wI (d + 2) 112 [.inr (.inr 0), .inl x1] σ Q K := ut0 rfl (Nat.le_of_ble_eq_true rfl) h
/-- WingTrams.obey(I)Z, 113 -/
def M113 (lb : Nat) : List Bool := [[true, true], [true, false], [true, true]].getD lb []
def B113_0 (d : Nat) (Q : dR → dS → Prop) (x1 : Int) (σ : dS) : Prop := UT d 113 Q 0 (0, 0) [some (.inr (.inr 0)), some (.inl x1)] [] σ
def B113_1 (d : Nat) (Q : dR → dS → Prop) (σ : dS) : Prop := UT d 113 Q 1 (0, 0) [some (.inr (.inr 0)), none] [] σ
def B113_2 (d : Nat) (Q : dR → dS → Prop) (x1 : Int) (σ : dS) : Prop := UT d 113 Q 2 (0, 0) [some (.inr (.inr 0)), some (.inl x1)] [] σ
theorem b113_0 {d : Nat} {Q : dR → dS → Prop} {x1 : Int} {σ : dS} (h : ((x1 < (-1 : Int)) → B113_1 d Q σ) ∧ (¬ (x1 < (-1 : Int)) → ((x1 < (σ 26 0)) → B113_2 d Q x1 σ) ∧ (¬ (x1 < (σ 26 0)) → B113_1 d Q σ))) : B113_0 d Q x1 σ := ut (m := M113) rfl h
theorem b113_1 {d : Nat} {Q : dR → dS → Prop} {σ : dS} (h : wI (d + 1) 112 [.inr (.inr 0), .inl 1] σ Q (fun v1 σ1 => ((0 : Int) = 0 ∨ (0 : Int) = 1) ∧ Q (.inl (some (.inl 0))) σ1)) : B113_1 d Q σ := ut (m := M113) rfl h
theorem b113_2 {d : Nat} {Q : dR → dS → Prop} {x1 : Int} {σ : dS} (h : wV (d + 1) 10 [.inr (.inr 75), .inl 0, .inl 0, .inl (σ 70 0)] σ Q (fun σ1 => ∀ σ2 : dS, σ2 = up σ1 70 0 x1 → (((1 : Int) = 0 ∨ (1 : Int) = 1) ∧ Q (.inl (some (.inl 1))) σ2))) : B113_2 d Q x1 σ := ut (m := M113) rfl h
theorem c113 {d : Nat} {Q : dR → dS → Prop} {K : Int → dS → Prop} {x1 : Int} {σ : dS} (h : B113_0 d (fun res σ1 => match res with | .inl (some (.inl v)) => K v σ1 | .inl _ => False | .inr e => Q (.inr e) σ1) x1 σ) : wI (d + 2) 113 [.inr (.inr 0), .inl x1] σ Q K := ut0 rfl (Nat.le_of_ble_eq_true rfl) h
/-- WingTrams.moon(I)I, 114 -/
def M114 (lb : Nat) : List Bool := [[true, true, false], [true, false, false], [true, true, false]].getD lb []
def B114_0 (d : Nat) (Q : dR → dS → Prop) (x1 : Int) (σ : dS) : Prop := UT d 114 Q 0 (0, 0) [some (.inr (.inr 0)), some (.inl x1), none] [] σ
def B114_1 (d : Nat) (Q : dR → dS → Prop) (σ : dS) : Prop := UT d 114 Q 1 (0, 0) [some (.inr (.inr 0)), none, none] [] σ
def B114_2 (d : Nat) (Q : dR → dS → Prop) (x1 : Int) (σ : dS) : Prop := UT d 114 Q 2 (0, 0) [some (.inr (.inr 0)), some (.inl x1), none] [] σ
theorem b114_0 {d : Nat} {Q : dR → dS → Prop} {x1 : Int} {σ : dS} (h : ((x1 < 0) → B114_1 d Q σ) ∧ (¬ (x1 < 0) → ((x1 < (8 : Int)) → B114_2 d Q x1 σ) ∧ (¬ (x1 < (8 : Int)) → B114_1 d Q σ))) : B114_0 d Q x1 σ := ut (m := M114) rfl h
theorem b114_1 {d : Nat} {Q : dR → dS → Prop} {σ : dS} (h : wI (d + 1) 112 [.inr (.inr 0), .inl 1] σ Q (fun v1 σ1 => Q (.inl (some (.inl v1))) σ1)) : B114_1 d Q σ := ut (m := M114) rfl h
theorem b114_2 {d : Nat} {Q : dR → dS → Prop} {x1 : Int} {σ : dS} (h : wV (d + 1) 10 [.inr (.inr 75), .inl 1, .inl 0, .inl (σ 70 1)] σ Q (fun σ1 => ∀ σ2 : dS, σ2 = up σ1 70 1 x1 → (Q (.inl (some (.inl (σ 70 1)))) σ2))) : B114_2 d Q x1 σ := ut (m := M114) rfl h
theorem c114 {d : Nat} {Q : dR → dS → Prop} {K : Int → dS → Prop} {x1 : Int} {σ : dS} (h : B114_0 d (fun res σ1 => match res with | .inl (some (.inl v)) => K v σ1 | .inl _ => False | .inr e => Q (.inr e) σ1) x1 σ) : wI (d + 2) 114 [.inr (.inr 0), .inl x1] σ Q K := ut0 rfl (Nat.le_of_ble_eq_true rfl) h
/-- WingTrams.wet(Z)Z, 115 -/
def M115 (lb : Nat) : List Bool := [[true, true, false], [true, true, true], [true, true, true]].getD lb []
def B115_0 (d : Nat) (Q : dR → dS → Prop) (x1 : Int) (σ : dS) : Prop := UT d 115 Q 0 (0, 0) [some (.inr (.inr 0)), some (.inl x1), none] [] σ
def B115_1 (d : Nat) (Q : dR → dS → Prop) (x1 x2 s0 s1 : Int) (σ : dS) : Prop := UT d 115 Q 1 (0, 0) [some (.inr (.inr 0)), some (.inl x1), some (.inl x2)] [.inl s0, .inl s1, .inr (.inr 75)] σ
def B115_2 (d : Nat) (Q : dR → dS → Prop) (x1 x2 s0 s1 s2 : Int) (σ : dS) : Prop := UT d 115 Q 2 (0, 0) [some (.inr (.inr 0)), some (.inl x1), some (.inl x2)] [.inl s0, .inl s1, .inl s2, .inr (.inr 75)] σ
theorem b115_0 {d : Nat} {Q : dR → dS → Prop} {x1 : Int} {σ : dS} (h : (((σ 70 2) = 0) → B115_1 d Q x1 (σ 70 2) 0 2 σ) ∧ (¬ ((σ 70 2) = 0) → B115_2 d Q x1 (σ 70 2) 1 0 2 σ)) : B115_0 d Q x1 σ := ut (m := M115) rfl h
theorem b115_1 {d : Nat} {Q : dR → dS → Prop} {x1 x2 s0 s1 : Int} {σ : dS} (h : B115_2 d Q x1 x2 0 s0 s1 σ) : B115_1 d Q x1 x2 s0 s1 σ := ut (m := M115) rfl h
theorem b115_2 {d : Nat} {Q : dR → dS → Prop} {x1 x2 s0 s1 s2 : Int} {σ : dS} (h : wV (d + 1) 10 [.inr (.inr 75), .inl s2, .inl s1, .inl s0] σ Q (fun σ1 => (x1 = 0 ∨ x1 = 1) ∧ (∀ σ2 : dS, σ2 = up σ1 70 2 x1 → ((x2 = 0 ∨ x2 = 1) ∧ Q (.inl (some (.inl x2))) σ2)))) : B115_2 d Q x1 x2 s0 s1 s2 σ := ut (m := M115) rfl h
theorem c115 {d : Nat} {Q : dR → dS → Prop} {K : Int → dS → Prop} {x1 : Int} {σ : dS} (h : B115_0 d (fun res σ1 => match res with | .inl (some (.inl v)) => K v σ1 | .inl _ => False | .inr e => Q (.inr e) σ1) x1 σ) : wI (d + 2) 115 [.inr (.inr 0), .inl x1] σ Q K := ut0 rfl (Nat.le_of_ble_eq_true rfl) h
/-- WingTrams.nest(IZ)Z, 116 -/
def M116 (lb : Nat) : List Bool := [[true, true, true], [true, true, false]].getD lb []
def B116_0 (d : Nat) (Q : dR → dS → Prop) (x1 x2 : Int) (σ : dS) : Prop := UT d 116 Q 0 (0, 0) [some (.inr (.inr 0)), some (.inl x1), some (.inl x2)] [] σ
def B116_1 (d : Nat) (Q : dR → dS → Prop) (x1 : Int) (σ : dS) : Prop := UT d 116 Q 1 (1, 6) [some (.inr (.inr 0)), some (.inl x1), none] [] σ
theorem b116_0 {d : Nat} {Q : dR → dS → Prop} {x1 x2 : Int} {σ : dS} (h : wV (d + 1) 110 [.inr (.inr 0), .inl x1] σ Q (fun σ1 => wI (d + 1) 23 [.inr (.inr 70), .inl x1] σ1 Q (fun v2 σ2 => ((v2 ≠ x2) → B116_1 d Q x1 σ2) ∧ (¬ (v2 ≠ x2) → wI (d + 1) 112 [.inr (.inr 0), .inl 1] σ2 Q (fun v3 σ3 => ((0 : Int) = 0 ∨ (0 : Int) = 1) ∧ Q (.inl (some (.inl 0))) σ3))))) : B116_0 d Q x1 x2 σ := ut (m := M116) rfl h
theorem b116_1 {d : Nat} {Q : dR → dS → Prop} {x1 : Int} {σ : dS} (h : wV (d + 1) 10 [.inr (.inr 75), .inl 3, .inl 0, .inl (σ 70 3)] σ Q (fun σ1 => ∀ σ2 : dS, σ2 = up σ1 70 3 (ixr (σ1 70 3) (shl 1 x1)) → (((1 : Int) = 0 ∨ (1 : Int) = 1) ∧ Q (.inl (some (.inl 1))) σ2))) : B116_1 d Q x1 σ := ut (m := M116) rfl h
theorem c116 {d : Nat} {Q : dR → dS → Prop} {K : Int → dS → Prop} {x1 x2 : Int} {σ : dS} (h : B116_0 d (fun res σ1 => match res with | .inl (some (.inl v)) => K v σ1 | .inl _ => False | .inr e => Q (.inr e) σ1) x1 x2 σ) : wI (d + 2) 116 [.inr (.inr 0), .inl x1, .inl x2] σ Q K := ut0 rfl (Nat.le_of_ble_eq_true rfl) h
/-- WingTrams.grain(II)I, 117 -/
def M117 (lb : Nat) : List Bool := [[true, true, true, false], [true, false, false, false], [true, true, true, false]].getD lb []
def B117_0 (d : Nat) (Q : dR → dS → Prop) (x1 x2 : Int) (σ : dS) : Prop := UT d 117 Q 0 (0, 0) [some (.inr (.inr 0)), some (.inl x1), some (.inl x2), none] [] σ
def B117_1 (d : Nat) (Q : dR → dS → Prop) (σ : dS) : Prop := UT d 117 Q 1 (1, 6) [some (.inr (.inr 0)), none, none, none] [] σ
def B117_2 (d : Nat) (Q : dR → dS → Prop) (x1 x2 : Int) (σ : dS) : Prop := UT d 117 Q 2 (1, 6) [some (.inr (.inr 0)), some (.inl x1), some (.inl x2), none] [] σ
theorem b117_0 {d : Nat} {Q : dR → dS → Prop} {x1 x2 : Int} {σ : dS} (h : wV (d + 1) 109 [.inr (.inr 0), .inl x1] σ Q (fun σ1 => ((x2 < 0) → B117_1 d Q σ1) ∧ (¬ (x2 < 0) → ((x2 ≤ (9 : Int)) → B117_2 d Q x1 x2 σ1) ∧ (¬ (x2 ≤ (9 : Int)) → B117_1 d Q σ1)))) : B117_0 d Q x1 x2 σ := ut (m := M117) rfl h
theorem b117_1 {d : Nat} {Q : dR → dS → Prop} {σ : dS} (h : wI (d + 1) 112 [.inr (.inr 0), .inl 1] σ Q (fun v1 σ1 => Q (.inl (some (.inl v1))) σ1)) : B117_1 d Q σ := ut (m := M117) rfl h
theorem b117_2 {d : Nat} {Q : dR → dS → Prop} {x1 x2 : Int} {σ : dS} (h : wV (d + 1) 10 [.inr (.inr 75), .inl 4, .inl x1, .inl (rat σ 72 10 x1)] σ Q (fun σ1 => ∀ σ2 : dS, σ2 = rput σ1 72 10 x1 x2 → (Q (.inl (some (.inl (rat σ 72 10 x1)))) σ2))) : B117_2 d Q x1 x2 σ := ut (m := M117) rfl h
theorem c117 {d : Nat} {Q : dR → dS → Prop} {K : Int → dS → Prop} {x1 x2 : Int} {σ : dS} (h : B117_0 d (fun res σ1 => match res with | .inl (some (.inl v)) => K v σ1 | .inl _ => False | .inr e => Q (.inr e) σ1) x1 x2 σ) : wI (d + 2) 117 [.inr (.inr 0), .inl x1, .inl x2] σ Q K := ut0 rfl (Nat.le_of_ble_eq_true rfl) h
/-- WingTrams.start(II)I, 118 -/
def M118 (lb : Nat) : List Bool := [[true, true, true, false], [true, false, false, false], [true, true, true, false]].getD lb []
def B118_0 (d : Nat) (Q : dR → dS → Prop) (x1 x2 : Int) (σ : dS) : Prop := UT d 118 Q 0 (0, 0) [some (.inr (.inr 0)), some (.inl x1), some (.inl x2), none] [] σ
def B118_1 (d : Nat) (Q : dR → dS → Prop) (σ : dS) : Prop := UT d 118 Q 1 (1, 6) [some (.inr (.inr 0)), none, none, none] [] σ
def B118_2 (d : Nat) (Q : dR → dS → Prop) (x1 x2 : Int) (σ : dS) : Prop := UT d 118 Q 2 (1, 6) [some (.inr (.inr 0)), some (.inl x1), some (.inl x2), none] [] σ
theorem b118_0 {d : Nat} {Q : dR → dS → Prop} {x1 x2 : Int} {σ : dS} (h : wV (d + 1) 110 [.inr (.inr 0), .inl x1] σ Q (fun σ1 => ((x2 < 0) → B118_1 d Q σ1) ∧ (¬ (x2 < 0) → ((x2 ≤ (300 : Int)) → B118_2 d Q x1 x2 σ1) ∧ (¬ (x2 ≤ (300 : Int)) → B118_1 d Q σ1)))) : B118_0 d Q x1 x2 σ := ut (m := M118) rfl h
theorem b118_1 {d : Nat} {Q : dR → dS → Prop} {σ : dS} (h : wI (d + 1) 112 [.inr (.inr 0), .inl 1] σ Q (fun v1 σ1 => Q (.inl (some (.inl v1))) σ1)) : B118_1 d Q σ := ut (m := M118) rfl h
theorem b118_2 {d : Nat} {Q : dR → dS → Prop} {x1 x2 : Int} {σ : dS} (h : wV (d + 1) 10 [.inr (.inr 75), .inl 5, .inl x1, .inl (rat σ 74 5 x1)] σ Q (fun σ1 => ∀ σ2 : dS, σ2 = rput σ1 74 5 x1 x2 → (Q (.inl (some (.inl (rat σ 74 5 x1)))) σ2))) : B118_2 d Q x1 x2 σ := ut (m := M118) rfl h
theorem c118 {d : Nat} {Q : dR → dS → Prop} {K : Int → dS → Prop} {x1 x2 : Int} {σ : dS} (h : B118_0 d (fun res σ1 => match res with | .inl (some (.inl v)) => K v σ1 | .inl _ => False | .inr e => Q (.inr e) σ1) x1 x2 σ) : wI (d + 2) 118 [.inr (.inr 0), .inl x1, .inl x2] σ Q K := ut0 rfl (Nat.le_of_ble_eq_true rfl) h
/-- WingTrams.undo()I, 119 -/
def M119 (lb : Nat) : List Bool := [[true]].getD lb []
def B119_0 (d : Nat) (Q : dR → dS → Prop) (σ : dS) : Prop := UT d 119 Q 0 (0, 0) [some (.inr (.inr 0))] [] σ
theorem b119_0 {d : Nat} {Q : dR → dS → Prop} {σ : dS} (h : wI (d + 1) 35 [.inr (.inr 69)] σ Q (fun v1 σ1 => Q (.inl (some (.inl v1))) σ1)) : B119_0 d Q σ := ut (m := M119) rfl h
theorem c119 {d : Nat} {Q : dR → dS → Prop} {K : Int → dS → Prop} {σ : dS} (h : B119_0 d (fun res σ1 => match res with | .inl (some (.inl v)) => K v σ1 | .inl _ => False | .inr e => Q (.inr e) σ1) σ) : wI (d + 2) 119 [.inr (.inr 0)] σ Q K := ut0 rfl (Nat.le_of_ble_eq_true rfl) h
/-- WingTrams.home(I)I, 120 -/
def M120 (lb : Nat) : List Bool := [[true, true]].getD lb []
def B120_0 (d : Nat) (Q : dR → dS → Prop) (x1 : Int) (σ : dS) : Prop := UT d 120 Q 0 (0, 0) [some (.inr (.inr 0)), some (.inl x1)] [] σ
theorem b120_0 {d : Nat} {Q : dR → dS → Prop} {x1 : Int} {σ : dS} (h : wV (d + 1) 111 [.inr (.inr 0), .inl x1] σ Q (fun σ1 => wV (d + 1) 68 [.inr (.inr 114), .inr (.inr 70)] σ1 Q (fun σ2 => wI (d + 1) 79 [.inr (.inr 133), .inl x1] σ2 Q (fun v3 σ3 => Q (.inl (some (.inl v3))) σ3)))) : B120_0 d Q x1 σ := ut (m := M120) rfl h
theorem c120 {d : Nat} {Q : dR → dS → Prop} {K : Int → dS → Prop} {x1 : Int} {σ : dS} (h : B120_0 d (fun res σ1 => match res with | .inl (some (.inl v)) => K v σ1 | .inl _ => False | .inr e => Q (.inr e) σ1) x1 σ) : wI (d + 2) 120 [.inr (.inr 0), .inl x1] σ Q K := ut0 rfl (Nat.le_of_ble_eq_true rfl) h
/-- WingTrams.changes(I)I, 121 -/
def M121 (lb : Nat) : List Bool := [[true, true, false], [false, false, true], [false, false, false]].getD lb []
def B121_0 (d : Nat) (Q : dR → dS → Prop) (x1 : Int) (σ : dS) : Prop := UT d 121 Q 0 (0, 0) [some (.inr (.inr 0)), some (.inl x1), none] [] σ
def B121_1 (d : Nat) (Q : dR → dS → Prop) (x2 : Int) (σ : dS) : Prop := UT d 121 Q 1 (1, 6) [none, none, some (.inl x2)] [] σ
def B121_2 (d : Nat) (Q : dR → dS → Prop) (s0 : Int) (σ : dS) : Prop := UT d 121 Q 2 (1, 6) [none, none, none] [.inl s0] σ
theorem b121_0 {d : Nat} {Q : dR → dS → Prop} {x1 : Int} {σ : dS} (h : wV (d + 1) 111 [.inr (.inr 0), .inl x1] σ Q (fun σ1 => wV (d + 1) 68 [.inr (.inr 114), .inr (.inr 70)] σ1 Q (fun σ2 => wI (d + 1) 85 [.inr (.inr 133), .inl x1, .inl 0] σ2 Q (fun v3 σ3 => ((v3 ≤ 0) → B121_1 d Q v3 σ3) ∧ (¬ (v3 ≤ 0) → B121_2 d Q (wr (v3 - 1)) σ3))))) : B121_0 d Q x1 σ := ut (m := M121) rfl h
theorem b121_1 {d : Nat} {Q : dR → dS → Prop} {x2 : Int} {σ : dS} (h : B121_2 d Q x2 σ) : B121_1 d Q x2 σ := ut (m := M121) rfl h
theorem b121_2 {d : Nat} {Q : dR → dS → Prop} {s0 : Int} {σ : dS} (h : Q (.inl (some (.inl s0))) σ) : B121_2 d Q s0 σ := ut (m := M121) rfl h
theorem c121 {d : Nat} {Q : dR → dS → Prop} {K : Int → dS → Prop} {x1 : Int} {σ : dS} (h : B121_0 d (fun res σ1 => match res with | .inl (some (.inl v)) => K v σ1 | .inl _ => False | .inr e => Q (.inr e) σ1) x1 σ) : wI (d + 2) 121 [.inr (.inr 0), .inl x1] σ Q K := ut0 rfl (Nat.le_of_ble_eq_true rfl) h
/-- WingTrams.cheapest(I)I, 122 -/
def M122 (lb : Nat) : List Bool := [[true, true]].getD lb []
def B122_0 (d : Nat) (Q : dR → dS → Prop) (x1 : Int) (σ : dS) : Prop := UT d 122 Q 0 (0, 0) [some (.inr (.inr 0)), some (.inl x1)] [] σ
theorem b122_0 {d : Nat} {Q : dR → dS → Prop} {x1 : Int} {σ : dS} (h : wV (d + 1) 111 [.inr (.inr 0), .inl x1] σ Q (fun σ1 => wV (d + 1) 68 [.inr (.inr 114), .inr (.inr 70)] σ1 Q (fun σ2 => wI (d + 1) 85 [.inr (.inr 133), .inl x1, .inl 1] σ2 Q (fun v3 σ3 => Q (.inl (some (.inl v3))) σ3)))) : B122_0 d Q x1 σ := ut (m := M122) rfl h
theorem c122 {d : Nat} {Q : dR → dS → Prop} {K : Int → dS → Prop} {x1 : Int} {σ : dS} (h : B122_0 d (fun res σ1 => match res with | .inl (some (.inl v)) => K v σ1 | .inl _ => False | .inr e => Q (.inr e) σ1) x1 σ) : wI (d + 2) 122 [.inr (.inr 0), .inl x1] σ Q K := ut0 rfl (Nat.le_of_ble_eq_true rfl) h
/-- WingTrams.last(I)I, 123 -/
def M123 (lb : Nat) : List Bool := [[true, true]].getD lb []
def B123_0 (d : Nat) (Q : dR → dS → Prop) (x1 : Int) (σ : dS) : Prop := UT d 123 Q 0 (0, 0) [some (.inr (.inr 0)), some (.inl x1)] [] σ
theorem b123_0 {d : Nat} {Q : dR → dS → Prop} {x1 : Int} {σ : dS} (h : wV (d + 1) 111 [.inr (.inr 0), .inl x1] σ Q (fun σ1 => wV (d + 1) 68 [.inr (.inr 114), .inr (.inr 70)] σ1 Q (fun σ2 => wI (d + 1) 83 [.inr (.inr 133), .inl x1] σ2 Q (fun v3 σ3 => Q (.inl (some (.inl v3))) σ3)))) : B123_0 d Q x1 σ := ut (m := M123) rfl h
theorem c123 {d : Nat} {Q : dR → dS → Prop} {K : Int → dS → Prop} {x1 : Int} {σ : dS} (h : B123_0 d (fun res σ1 => match res with | .inl (some (.inl v)) => K v σ1 | .inl _ => False | .inr e => Q (.inr e) σ1) x1 σ) : wI (d + 2) 123 [.inr (.inr 0), .inl x1] σ Q K := ut0 rfl (Nat.le_of_ble_eq_true rfl) h
/-- WingTrams.never()I, 124 -/
def M124 (lb : Nat) : List Bool := [[true, false, false], [true, true, true], [true, true, true], [false, true, false]].getD lb []
def B124_0 (d : Nat) (Q : dR → dS → Prop) (σ : dS) : Prop := UT d 124 Q 0 (0, 0) [some (.inr (.inr 0)), none, none] [] σ
def B124_1 (d : Nat) (Q : dR → dS → Prop) (x1 x2 : Int) (σ : dS) : Prop := UT d 124 Q 1 (0, 0) [some (.inr (.inr 0)), some (.inl x1), some (.inl x2)] [] σ
def B124_2 (d : Nat) (Q : dR → dS → Prop) (x1 x2 : Int) (σ : dS) : Prop := UT d 124 Q 2 (0, 0) [some (.inr (.inr 0)), some (.inl x1), some (.inl x2)] [] σ
def B124_3 (d : Nat) (Q : dR → dS → Prop) (x1 : Int) (σ : dS) : Prop := UT d 124 Q 3 (0, 0) [none, some (.inl x1), none] [] σ
theorem b124_0 {d : Nat} {Q : dR → dS → Prop} {σ : dS} (h : wV (d + 1) 68 [.inr (.inr 114), .inr (.inr 70)] σ Q (fun σ1 => B124_1 d Q 0 0 σ1)) : B124_0 d Q σ := ut (m := M124) rfl h
theorem b124_1 {d : Nat} {Q : dR → dS → Prop} {x1 x2 : Int} {σ : dS} (h : (((σ 5 3) ≤ x2) → B124_3 d Q x1 σ) ∧ (¬ ((σ 5 3) ≤ x2) → wI (d + 1) 79 [.inr (.inr 133), .inl x2] σ Q (fun v1 σ1 => ((v1 ≠ (-1 : Int)) → B124_2 d Q x1 x2 σ1) ∧ (¬ (v1 ≠ (-1 : Int)) → B124_2 d Q (ior x1 (shl 1 x2)) x2 σ1)))) : B124_1 d Q x1 x2 σ := ut (m := M124) rfl h
theorem b124_2 {d : Nat} {Q : dR → dS → Prop} {x1 x2 : Int} {σ : dS} (h : B124_1 d Q x1 (wr (x2 + 1)) σ) : B124_2 d Q x1 x2 σ := ut (m := M124) rfl h
theorem b124_3 {d : Nat} {Q : dR → dS → Prop} {x1 : Int} {σ : dS} (h : Q (.inl (some (.inl x1))) σ) : B124_3 d Q x1 σ := ut (m := M124) rfl h
theorem c124 {d : Nat} {Q : dR → dS → Prop} {K : Int → dS → Prop} {σ : dS} (h : B124_0 d (fun res σ1 => match res with | .inl (some (.inl v)) => K v σ1 | .inl _ => False | .inr e => Q (.inr e) σ1) σ) : wI (d + 2) 124 [.inr (.inr 0)] σ Q K := ut0 rfl (Nat.le_of_ble_eq_true rfl) h
/-- WingTrams.reach(II)I, 125 -/
def M125 (lb : Nat) : List Bool := [[true, true, true]].getD lb []
def B125_0 (d : Nat) (Q : dR → dS → Prop) (x1 x2 : Int) (σ : dS) : Prop := UT d 125 Q 0 (0, 0) [some (.inr (.inr 0)), some (.inl x1), some (.inl x2)] [] σ
theorem b125_0 {d : Nat} {Q : dR → dS → Prop} {x1 x2 : Int} {σ : dS} (h : wV (d + 1) 111 [.inr (.inr 0), .inl x1] σ Q (fun σ1 => wV (d + 1) 68 [.inr (.inr 114), .inr (.inr 70)] σ1 Q (fun σ2 => wI (d + 1) 82 [.inr (.inr 133), .inl x1, .inl x2] σ2 Q (fun v3 σ3 => Q (.inl (some (.inl v3))) σ3)))) : B125_0 d Q x1 x2 σ := ut (m := M125) rfl h
theorem c125 {d : Nat} {Q : dR → dS → Prop} {K : Int → dS → Prop} {x1 x2 : Int} {σ : dS} (h : B125_0 d (fun res σ1 => match res with | .inl (some (.inl v)) => K v σ1 | .inl _ => False | .inr e => Q (.inr e) σ1) x1 x2 σ) : wI (d + 2) 125 [.inr (.inr 0), .inl x1, .inl x2] σ Q K := ut0 rfl (Nat.le_of_ble_eq_true rfl) h
/-- WingTrams.homes(LWingTrams$Sky;)I, 126_70 -/
def M126_70 (lb : Nat) : List Bool := [[true, true]].getD lb []
def B126_70_0 (d : Nat) (Q : dR → dS → Prop) (σ : dS) : Prop := UT d 126 Q 0 (0, 0) [some (.inr (.inr 0)), some (.inr (.inr 70))] [] σ
theorem b126_70_0 {d : Nat} {Q : dR → dS → Prop} {σ : dS} (h : wV (d + 1) 68 [.inr (.inr 114), .inr (.inr 70)] σ Q (fun σ1 => wI (d + 1) 80 [.inr (.inr 133)] σ1 Q (fun v2 σ2 => Q (.inl (some (.inl v2))) σ2))) : B126_70_0 d Q σ := ut (m := M126_70) rfl h
theorem c126_70 {d : Nat} {Q : dR → dS → Prop} {K : Int → dS → Prop} {σ : dS} (h : B126_70_0 d (fun res σ1 => match res with | .inl (some (.inl v)) => K v σ1 | .inl _ => False | .inr e => Q (.inr e) σ1) σ) : wI (d + 2) 126 [.inr (.inr 0), .inr (.inr 70)] σ Q K := ut0 rfl (Nat.le_of_ble_eq_true rfl) h
/-- WingTrams.homes(LWingTrams$Sky;)I, 126_109 -/
def M126_109 (lb : Nat) : List Bool := [[true, true]].getD lb []
def B126_109_0 (d : Nat) (Q : dR → dS → Prop) (σ : dS) : Prop := UT d 126 Q 0 (0, 0) [some (.inr (.inr 0)), some (.inr (.inr 109))] [] σ
theorem b126_109_0 {d : Nat} {Q : dR → dS → Prop} {σ : dS} (h : wV (d + 1) 68 [.inr (.inr 114), .inr (.inr 109)] σ Q (fun σ1 => wI (d + 1) 80 [.inr (.inr 133)] σ1 Q (fun v2 σ2 => Q (.inl (some (.inl v2))) σ2))) : B126_109_0 d Q σ := ut (m := M126_109) rfl h
theorem c126_109 {d : Nat} {Q : dR → dS → Prop} {K : Int → dS → Prop} {σ : dS} (h : B126_109_0 d (fun res σ1 => match res with | .inl (some (.inl v)) => K v σ1 | .inl _ => False | .inr e => Q (.inr e) σ1) σ) : wI (d + 2) 126 [.inr (.inr 0), .inr (.inr 109)] σ Q K := ut0 rfl (Nat.le_of_ble_eq_true rfl) h
/-- WingTrams.lure(II)I, 127 -/
def M127 (lb : Nat) : List Bool := [[true, true, true, false], [false, false, false, false], [true, true, true, false], [false, false, false, true]].getD lb []
def B127_0 (d : Nat) (Q : dR → dS → Prop) (x1 x2 : Int) (σ : dS) : Prop := UT d 127 Q 0 (0, 0) [some (.inr (.inr 0)), some (.inl x1), some (.inl x2), none] [] σ
def B127_1 (d : Nat) (Q : dR → dS → Prop) (σ : dS) : Prop := UT d 127 Q 1 (0, 0) [none, none, none, none] [] σ
def B127_2 (d : Nat) (Q : dR → dS → Prop) (x1 x2 : Int) (σ : dS) : Prop := UT d 127 Q 2 (0, 0) [some (.inr (.inr 0)), some (.inl x1), some (.inl x2), none] [] σ
def B127_3 (d : Nat) (Q : dR → dS → Prop) (x3 : Int) (σ : dS) : Prop := UT d 127 Q 3 (0, 0) [none, none, none, some (.inl x3)] [] σ
theorem b127_0 {d : Nat} {Q : dR → dS → Prop} {x1 x2 : Int} {σ : dS} (h : ((x1 < 0) → B127_1 d Q σ) ∧ (¬ (x1 < 0) → (((ush x1 (σ 5 3)) ≠ 0) → B127_1 d Q σ) ∧ (¬ ((ush x1 (σ 5 3)) ≠ 0) → ((0 ≤ x2) → B127_2 d Q x1 x2 σ) ∧ (¬ (0 ≤ x2) → B127_1 d Q σ)))) : B127_0 d Q x1 x2 σ := ut (m := M127) rfl h
theorem b127_1 {d : Nat} {Q : dR → dS → Prop} {σ : dS} (h : Q (.inr 1) σ) : B127_1 d Q σ := ut (m := M127) rfl h
theorem b127_2 {d : Nat} {Q : dR → dS → Prop} {x1 x2 : Int} {σ : dS} (h : wI (d + 1) 129 [.inr (.inr 0), .inl x1, .inl (min x2 (σ 5 4))] σ Q (fun v1 σ1 => ((v1 = (-1 : Int)) → B127_3 d Q v1 σ1) ∧ (¬ (v1 = (-1 : Int)) → ∀ σ2 : dS, σ2 = rcopy σ1 148 10 150 10 0 → (((1 : Int) = 0 ∨ (1 : Int) = 1) ∧ (∀ σ3 : dS, σ3 = up σ2 0 17 1 → (B127_3 d Q v1 σ3)))))) : B127_2 d Q x1 x2 σ := ut (m := M127) rfl h
theorem b127_3 {d : Nat} {Q : dR → dS → Prop} {x3 : Int} {σ : dS} (h : Q (.inl (some (.inl x3))) σ) : B127_3 d Q x3 σ := ut (m := M127) rfl h
theorem c127 {d : Nat} {Q : dR → dS → Prop} {K : Int → dS → Prop} {x1 x2 : Int} {σ : dS} (h : B127_0 d (fun res σ1 => match res with | .inl (some (.inl v)) => K v σ1 | .inl _ => False | .inr e => Q (.inr e) σ1) x1 x2 σ) : wI (d + 2) 127 [.inr (.inr 0), .inl x1, .inl x2] σ Q K := ut0 rfl (Nat.le_of_ble_eq_true rfl) h
/-- WingTrams.more(I)I, 128 -/
def M128 (lb : Nat) : List Bool := [[true, true], [true, true]].getD lb []
def B128_0 (d : Nat) (Q : dR → dS → Prop) (x1 : Int) (σ : dS) : Prop := UT d 128 Q 0 (0, 0) [some (.inr (.inr 0)), some (.inl x1)] [] σ
def B128_1 (d : Nat) (Q : dR → dS → Prop) (x1 : Int) (σ : dS) : Prop := UT d 128 Q 1 (1, 6) [some (.inr (.inr 0)), some (.inl x1)] [] σ
theorem b128_0 {d : Nat} {Q : dR → dS → Prop} {x1 : Int} {σ : dS} (h : wV (d + 1) 109 [.inr (.inr 0), .inl x1] σ Q (fun σ1 => (((σ1 0 17) ≠ 0) → B128_1 d Q x1 σ1) ∧ (¬ ((σ1 0 17) ≠ 0) → Q (.inr 0) σ1))) : B128_0 d Q x1 σ := ut (m := M128) rfl h
theorem b128_1 {d : Nat} {Q : dR → dS → Prop} {x1 : Int} {σ : dS} (h : Q (.inl (some (.inl (rat σ 148 10 x1)))) σ) : B128_1 d Q x1 σ := ut (m := M128) rfl h
theorem c128 {d : Nat} {Q : dR → dS → Prop} {K : Int → dS → Prop} {x1 : Int} {σ : dS} (h : B128_0 d (fun res σ1 => match res with | .inl (some (.inl v)) => K v σ1 | .inl _ => False | .inr e => Q (.inr e) σ1) x1 σ) : wI (d + 2) 128 [.inr (.inr 0), .inl x1] σ Q K := ut0 rfl (Nat.le_of_ble_eq_true rfl) h
/-- WingTrams.fewestGrains(II)I, 129 -/
def M129 (lb : Nat) : List Bool := [[true, true, true, false, false], [true, true, true, false, false], [true, true, true, true, false], [true, true, true, true, true], [true, true, true, true, true], [true, true, true, true, true], [true, true, true, true, false], [false, false, false, false, false]].getD lb []
def B129_0 (d : Nat) (Q : dR → dS → Prop) (x1 x2 : Int) (σ : dS) : Prop := UT d 129 Q 0 (0, 0) [some (.inr (.inr 0)), some (.inl x1), some (.inl x2), none, none] [] σ
def B129_1 (d : Nat) (Q : dR → dS → Prop) (x1 x2 : Int) (σ : dS) : Prop := UT d 129 Q 1 (0, 0) [some (.inr (.inr 0)), some (.inl x1), some (.inl x2), none, none] [] σ
def B129_2 (d : Nat) (Q : dR → dS → Prop) (x1 x2 x3 : Int) (σ : dS) : Prop := UT d 129 Q 2 (0, 0) [some (.inr (.inr 0)), some (.inl x1), some (.inl x2), some (.inl x3), none] [] σ
def B129_3 (d : Nat) (Q : dR → dS → Prop) (x1 x2 x3 x4 : Int) (σ : dS) : Prop := UT d 129 Q 3 (0, 0) [some (.inr (.inr 0)), some (.inl x1), some (.inl x2), some (.inl x3), some (.inl x4)] [] σ
def B129_4 (d : Nat) (Q : dR → dS → Prop) (x1 x2 x3 x4 : Int) (σ : dS) : Prop := UT d 129 Q 4 (0, 0) [some (.inr (.inr 0)), some (.inl x1), some (.inl x2), some (.inl x3), some (.inl x4)] [] σ
def B129_5 (d : Nat) (Q : dR → dS → Prop) (x1 x2 x3 x4 : Int) (σ : dS) : Prop := UT d 129 Q 5 (0, 0) [some (.inr (.inr 0)), some (.inl x1), some (.inl x2), some (.inl x3), some (.inl x4)] [] σ
def B129_6 (d : Nat) (Q : dR → dS → Prop) (x1 x2 x3 : Int) (σ : dS) : Prop := UT d 129 Q 6 (0, 0) [some (.inr (.inr 0)), some (.inl x1), some (.inl x2), some (.inl x3), none] [] σ
def B129_7 (d : Nat) (Q : dR → dS → Prop) (σ : dS) : Prop := UT d 129 Q 7 (0, 0) [none, none, none, none, none] [] σ
theorem b129_0 {d : Nat} {Q : dR → dS → Prop} {x1 x2 : Int} {σ : dS} (h : ∀ σ1 : dS, σ1 = rfill σ 150 10 0 0 → (wI (d + 1) 131 [.inr (.inr 0), .inl x1, .inl x2] σ1 Q (fun v2 σ2 => ((v2 = 0) → B129_1 d Q x1 x2 σ2) ∧ (¬ (v2 = 0) → Q (.inl (some (.inl 0))) σ2)))) : B129_0 d Q x1 x2 σ := ut (m := M129) rfl h
theorem b129_1 {d : Nat} {Q : dR → dS → Prop} {x1 x2 : Int} {σ : dS} (h : B129_2 d Q x1 x2 1 σ) : B129_1 d Q x1 x2 σ := ut (m := M129) rfl h
theorem b129_2 {d : Nat} {Q : dR → dS → Prop} {x1 x2 x3 : Int} {σ : dS} (h : (((3 : Int) < x3) → B129_7 d Q σ) ∧ (¬ ((3 : Int) < x3) → (((σ 5 0) ≤ 0) → B129_7 d Q σ) ∧ (¬ ((σ 5 0) ≤ 0) → ∀ σ1 : dS, σ1 = rfill σ 150 10 0 0 → (∀ σ2 : dS, σ2 = rput σ1 150 10 (wr ((σ1 5 0) - 1)) x3 → (B129_3 d Q x1 x2 x3 0 σ2))))) : B129_2 d Q x1 x2 x3 σ := ut (m := M129) rfl h
theorem b129_3 {d : Nat} {Q : dR → dS → Prop} {x1 x2 x3 x4 : Int} {σ : dS} (h : (((1000 : Int) ≤ x4) → B129_6 d Q x1 x2 x3 σ) ∧ (¬ ((1000 : Int) ≤ x4) → wI (d + 1) 131 [.inr (.inr 0), .inl x1, .inl x2] σ Q (fun v1 σ1 => ((v1 = 0) → B129_4 d Q x1 x2 x3 x4 σ1) ∧ (¬ (v1 = 0) → Q (.inl (some (.inl x3))) σ1)))) : B129_3 d Q x1 x2 x3 x4 σ := ut (m := M129) rfl h
theorem b129_4 {d : Nat} {Q : dR → dS → Prop} {x1 x2 x3 x4 : Int} {σ : dS} (h : wI (d + 1) 130 [.inr (.inr 0)] σ Q (fun v1 σ1 => ((v1 ≠ 0) → B129_5 d Q x1 x2 x3 x4 σ1) ∧ (¬ (v1 ≠ 0) → B129_6 d Q x1 x2 x3 σ1))) : B129_4 d Q x1 x2 x3 x4 σ := ut (m := M129) rfl h
theorem b129_5 {d : Nat} {Q : dR → dS → Prop} {x1 x2 x3 x4 : Int} {σ : dS} (h : B129_3 d Q x1 x2 x3 (wr (x4 + 1)) σ) : B129_5 d Q x1 x2 x3 x4 σ := ut (m := M129) rfl h
theorem b129_6 {d : Nat} {Q : dR → dS → Prop} {x1 x2 x3 : Int} {σ : dS} (h : B129_2 d Q x1 x2 (wr (x3 + 1)) σ) : B129_6 d Q x1 x2 x3 σ := ut (m := M129) rfl h
theorem b129_7 {d : Nat} {Q : dR → dS → Prop} {σ : dS} (h : Q (.inl (some (.inl (-1)))) σ) : B129_7 d Q σ := ut (m := M129) rfl h
theorem c129 {d : Nat} {Q : dR → dS → Prop} {K : Int → dS → Prop} {x1 x2 : Int} {σ : dS} (h : B129_0 d (fun res σ1 => match res with | .inl (some (.inl v)) => K v σ1 | .inl _ => False | .inr e => Q (.inr e) σ1) x1 x2 σ) : wI (d + 2) 129 [.inr (.inr 0), .inl x1, .inl x2] σ Q K := ut0 rfl (Nat.le_of_ble_eq_true rfl) h
