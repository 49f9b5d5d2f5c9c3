/-! BLOCKS AS CLEAN ROWS, by program (wip/whole/gen/g26.py) -/
/-- WingTrams$Tokens.cut(LWingTrams$Row;I)V, 37 -/
def M37 (lb : Nat) : List Bool := [[true, true, true, false, false, false], [true, true, true, true, true, false], [true, true, true, true, true, true], [true, true, true, true, true, true], [true, true, true, true, true, true], [true, true, true, true, true, false], [true, true, true, true, true, false], [true, true, true, true, true, false], [true, false, true, false, false, false]].getD lb []
def B37_0 (d : Nat) (Q : dR → dS → Prop) (x2 : Int) (σ : dS) : Prop := UT d 37 Q 0 (0, 0) [some (.inr (.inr 61)), some (.inr (.inr 1)), some (.inl x2), none, none, none] [] σ
def B37_1 (d : Nat) (Q : dR → dS → Prop) (x2 x3 x4 : Int) (σ : dS) : Prop := UT d 37 Q 1 (0, 0) [some (.inr (.inr 61)), some (.inr (.inr 1)), some (.inl x2), some (.inl x3), some (.inl x4), none] [] σ
def B37_2 (d : Nat) (Q : dR → dS → Prop) (x2 x3 x4 x5 : Int) (σ : dS) : Prop := UT d 37 Q 2 (0, 0) [some (.inr (.inr 61)), some (.inr (.inr 1)), some (.inl x2), some (.inl x3), some (.inl x4), some (.inl x5)] [] σ
def B37_3 (d : Nat) (Q : dR → dS → Prop) (x2 x3 x4 x5 : Int) (σ : dS) : Prop := UT d 37 Q 3 (0, 0) [some (.inr (.inr 61)), some (.inr (.inr 1)), some (.inl x2), some (.inl x3), some (.inl x4), some (.inl x5)] [] σ
def B37_4 (d : Nat) (Q : dR → dS → Prop) (x2 x3 x4 x5 : Int) (σ : dS) : Prop := UT d 37 Q 4 (0, 0) [some (.inr (.inr 61)), some (.inr (.inr 1)), some (.inl x2), some (.inl x3), some (.inl x4), some (.inl x5)] [] σ
def B37_5 (d : Nat) (Q : dR → dS → Prop) (x2 x3 x4 : Int) (σ : dS) : Prop := UT d 37 Q 5 (0, 0) [some (.inr (.inr 61)), some (.inr (.inr 1)), some (.inl x2), some (.inl x3), some (.inl x4), none] [.inr (.inr 61)] σ
def B37_6 (d : Nat) (Q : dR → dS → Prop) (x2 x3 x4 s0 : Int) (σ : dS) : Prop := UT d 37 Q 6 (0, 0) [some (.inr (.inr 61)), some (.inr (.inr 1)), some (.inl x2), some (.inl x3), some (.inl x4), none] [.inl s0, .inr (.inr 61)] σ
def B37_7 (d : Nat) (Q : dR → dS → Prop) (x2 x3 x4 : Int) (σ : dS) : Prop := UT d 37 Q 7 (0, 0) [some (.inr (.inr 61)), some (.inr (.inr 1)), some (.inl x2), some (.inl x3), some (.inl x4), none] [] σ
def B37_8 (d : Nat) (Q : dR → dS → Prop) (x2 : Int) (σ : dS) : Prop := UT d 37 Q 8 (0, 0) [some (.inr (.inr 61)), none, some (.inl x2), none, none, none] [] σ
theorem b37_0 {d : Nat} {Q : dR → dS → Prop} {x2 : Int} {σ : dS} (h : ∀ σ1 : dS, σ1 = up σ 61 3 0 → (B37_1 d Q x2 0 0 σ1)) : B37_0 d Q x2 σ := ut (m := M37) rfl h
theorem b37_1 {d : Nat} {Q : dR → dS → Prop} {x2 x3 x4 : Int} {σ : dS} (h : ((x2 ≤ x4) → B37_8 d Q x2 σ) ∧ (¬ (x2 ≤ x4) → ((x4 < x3) → B37_7 d Q x2 x3 x4 σ) ∧ (¬ (x4 < x3) → (((rat σ 2 700 x4) = (32 : Int)) → B37_7 d Q x2 x3 x4 σ) ∧ (¬ ((rat σ 2 700 x4) = (32 : Int)) → (((rat σ 2 700 x4) ≠ (10 : Int)) → B37_2 d Q x2 x3 x4 (rat σ 2 700 x4) σ) ∧ (¬ ((rat σ 2 700 x4) ≠ (10 : Int)) → B37_7 d Q x2 x3 x4 σ))))) : B37_1 d Q x2 x3 x4 σ := ut (m := M37) rfl h
theorem b37_2 {d : Nat} {Q : dR → dS → Prop} {x2 x3 x4 x5 : Int} {σ : dS} (h : wI (d + 1) 39 [.inl x5] σ Q (fun v1 σ1 => ((v1 = 0) → B37_3 d Q x2 x3 x4 x5 σ1) ∧ (¬ (v1 = 0) → wI (d + 1) 41 [.inr (.inr 1), .inl x4, .inl x2] σ1 Q (fun v2 σ2 => wI (d + 1) 44 [.inr (.inr 1), .inl x4, .inl v2] σ2 Q (fun v3 σ3 => wV (d + 1) 38 [.inr (.inr 61), .inl v3, .inl x4, .inl 0] σ3 Q (fun σ4 => B37_7 d Q x2 v2 x4 σ4)))))) : B37_2 d Q x2 x3 x4 x5 σ := ut (m := M37) rfl h
theorem b37_3 {d : Nat} {Q : dR → dS → Prop} {x2 x3 x4 x5 : Int} {σ : dS} (h : wI (d + 1) 40 [.inl x5] σ Q (fun v1 σ1 => ((v1 = 0) → B37_4 d Q x2 x3 x4 x5 σ1) ∧ (¬ (v1 = 0) → wI (d + 1) 42 [.inr (.inr 1), .inl x4, .inl x2] σ1 Q (fun v2 σ2 => wI (d + 1) 43 [.inr (.inr 1), .inl x4, .inl v2] σ2 Q (fun v3 σ3 => wV (d + 1) 38 [.inr (.inr 61), .inl 1, .inl x4, .inl v3] σ3 Q (fun σ4 => B37_7 d Q x2 v2 x4 σ4)))))) : B37_3 d Q x2 x3 x4 x5 σ := ut (m := M37) rfl h
theorem b37_4 {d : Nat} {Q : dR → dS → Prop} {x2 x3 x4 x5 : Int} {σ : dS} (h : (0 ≤ x5) ∧ (x5 ≤ 255) ∧ ((((tx_ix 0 x5) < 0) → B37_5 d Q x2 x3 x4 σ) ∧ (¬ ((tx_ix 0 x5) < 0) → B37_6 d Q x2 x3 x4 x5 σ))) : B37_4 d Q x2 x3 x4 x5 σ := ut (m := M37) rfl h
theorem b37_5 {d : Nat} {Q : dR → dS → Prop} {x2 x3 x4 : Int} {σ : dS} (h : B37_6 d Q x2 x3 x4 2 σ) : B37_5 d Q x2 x3 x4 σ := ut (m := M37) rfl h
theorem b37_6 {d : Nat} {Q : dR → dS → Prop} {x2 x3 x4 s0 : Int} {σ : dS} (h : wV (d + 1) 38 [.inr (.inr 61), .inl s0, .inl x4, .inl 0] σ Q (fun σ1 => B37_7 d Q x2 x3 x4 σ1)) : B37_6 d Q x2 x3 x4 s0 σ := ut (m := M37) rfl h
theorem b37_7 {d : Nat} {Q : dR → dS → Prop} {x2 x3 x4 : Int} {σ : dS} (h : B37_1 d Q x2 x3 (wr (x4 + 1)) σ) : B37_7 d Q x2 x3 x4 σ := ut (m := M37) rfl h
theorem b37_8 {d : Nat} {Q : dR → dS → Prop} {x2 : Int} {σ : dS} (h : wV (d + 1) 38 [.inr (.inr 61), .inl 0, .inl x2, .inl 0] σ Q (fun σ1 => Q (.inl none) σ1)) : B37_8 d Q x2 σ := ut (m := M37) rfl h
theorem c37 {d : Nat} {Q : dR → dS → Prop} {K : dS → Prop} {x2 : Int} {σ : dS} (h : B37_0 d (fun res σ1 => match res with | .inl none => K σ1 | .inl (some _) => False | .inr e => Q (.inr e) σ1) x2 σ) : wV (d + 2) 37 [.inr (.inr 61), .inr (.inr 1), .inl x2] σ Q K := ut0 rfl (Nat.le_of_ble_eq_true rfl) h
/-- WingTrams$Tokens.add(III)V, 38 -/
def M38 (lb : Nat) : List Bool := [[true, true, true, true]].getD lb []
def B38_0 (d : Nat) (Q : dR → dS → Prop) (x1 x2 x3 : Int) (σ : dS) : Prop := UT d 38 Q 0 (0, 0) [some (.inr (.inr 61)), some (.inl x1), some (.inl x2), some (.inl x3)] [] σ
theorem b38_0 {d : Nat} {Q : dR → dS → Prop} {x1 x2 x3 : Int} {σ : dS} (h : ∀ σ1 : dS, σ1 = rput σ 63 701 (σ 61 3) x1 → (∀ σ2 : dS, σ2 = rput σ1 65 701 (σ1 61 3) x2 → (∀ σ3 : dS, σ3 = rput σ2 67 701 (σ2 61 3) x3 → (∀ σ4 : dS, σ4 = up σ3 61 3 (wr ((σ3 61 3) + 1)) → (Q (.inl none) σ4))))) : B38_0 d Q x1 x2 x3 σ := ut (m := M38) rfl h
theorem c38 {d : Nat} {Q : dR → dS → Prop} {K : dS → Prop} {x1 x2 x3 : Int} {σ : dS} (h : B38_0 d (fun res σ1 => match res with | .inl none => K σ1 | .inl (some _) => False | .inr e => Q (.inr e) σ1) x1 x2 x3 σ) : wV (d + 2) 38 [.inr (.inr 61), .inl x1, .inl x2, .inl x3] σ Q K := ut0 rfl (Nat.le_of_ble_eq_true rfl) h
/-- WingTrams$Tokens.isLetter(I)Z, 39 -/
def M39 (lb : Nat) : List Bool := [[true], [false], [false]].getD lb []
def B39_0 (d : Nat) (Q : dR → dS → Prop) (x0 : Int) (σ : dS) : Prop := UT d 39 Q 0 (0, 0) [some (.inl x0)] [] σ
def B39_1 (d : Nat) (Q : dR → dS → Prop) (σ : dS) : Prop := UT d 39 Q 1 (0, 0) [none] [] σ
def B39_2 (d : Nat) (Q : dR → dS → Prop) (s0 : Int) (σ : dS) : Prop := UT d 39 Q 2 (0, 0) [none] [.inl s0] σ
theorem b39_0 {d : Nat} {Q : dR → dS → Prop} {x0 : Int} {σ : dS} (h : ((x0 < (97 : Int)) → B39_1 d Q σ) ∧ (¬ (x0 < (97 : Int)) → (((122 : Int) < x0) → B39_1 d Q σ) ∧ (¬ ((122 : Int) < x0) → B39_2 d Q 1 σ))) : B39_0 d Q x0 σ := ut (m := M39) rfl h
theorem b39_1 {d : Nat} {Q : dR → dS → Prop} {σ : dS} (h : B39_2 d Q 0 σ) : B39_1 d Q σ := ut (m := M39) rfl h
theorem b39_2 {d : Nat} {Q : dR → dS → Prop} {s0 : Int} {σ : dS} (h : (s0 = 0 ∨ s0 = 1) ∧ Q (.inl (some (.inl s0))) σ) : B39_2 d Q s0 σ := ut (m := M39) rfl h
theorem c39 {d : Nat} {Q : dR → dS → Prop} {K : Int → dS → Prop} {x0 : Int} {σ : dS} (h : B39_0 d (fun res σ1 => match res with | .inl (some (.inl v)) => K v σ1 | .inl _ => False | .inr e => Q (.inr e) σ1) x0 σ) : wI (d + 2) 39 [.inl x0] σ Q K := ut0 rfl (Nat.le_of_ble_eq_true rfl) h
/-- WingTrams$Tokens.isDigit(I)Z, 40 -/
def M40 (lb : Nat) : List Bool := [[true], [false], [false]].getD lb []
def B40_0 (d : Nat) (Q : dR → dS → Prop) (x0 : Int) (σ : dS) : Prop := UT d 40 Q 0 (0, 0) [some (.inl x0)] [] σ
def B40_1 (d : Nat) (Q : dR → dS → Prop) (σ : dS) : Prop := UT d 40 Q 1 (0, 0) [none] [] σ
def B40_2 (d : Nat) (Q : dR → dS → Prop) (s0 : Int) (σ : dS) : Prop := UT d 40 Q 2 (0, 0) [none] [.inl s0] σ
theorem b40_0 {d : Nat} {Q : dR → dS → Prop} {x0 : Int} {σ : dS} (h : ((x0 < (48 : Int)) → B40_1 d Q σ) ∧ (¬ (x0 < (48 : Int)) → (((57 : Int) < x0) → B40_1 d Q σ) ∧ (¬ ((57 : Int) < x0) → B40_2 d Q 1 σ))) : B40_0 d Q x0 σ := ut (m := M40) rfl h
theorem b40_1 {d : Nat} {Q : dR → dS → Prop} {σ : dS} (h : B40_2 d Q 0 σ) : B40_1 d Q σ := ut (m := M40) rfl h
theorem b40_2 {d : Nat} {Q : dR → dS → Prop} {s0 : Int} {σ : dS} (h : (s0 = 0 ∨ s0 = 1) ∧ Q (.inl (some (.inl s0))) σ) : B40_2 d Q s0 σ := ut (m := M40) rfl h
theorem c40 {d : Nat} {Q : dR → dS → Prop} {K : Int → dS → Prop} {x0 : Int} {σ : dS} (h : B40_0 d (fun res σ1 => match res with | .inl (some (.inl v)) => K v σ1 | .inl _ => False | .inr e => Q (.inr e) σ1) x0 σ) : wI (d + 2) 40 [.inl x0] σ Q K := ut0 rfl (Nat.le_of_ble_eq_true rfl) h
/-- WingTrams$Tokens.endOfWord(LWingTrams$Row;II)I, 41 -/
def M41 (lb : Nat) : List Bool := [[true, true, true, false], [true, false, true, true], [true, false, true, true], [false, false, true, false]].getD lb []
def B41_0 (d : Nat) (Q : dR → dS → Prop) (x1 x2 : Int) (σ : dS) : Prop := UT d 41 Q 0 (0, 0) [some (.inr (.inr 1)), some (.inl x1), some (.inl x2), none] [] σ
def B41_1 (d : Nat) (Q : dR → dS → Prop) (x2 x3 : Int) (σ : dS) : Prop := UT d 41 Q 1 (0, 0) [some (.inr (.inr 1)), none, some (.inl x2), some (.inl x3)] [] σ
def B41_2 (d : Nat) (Q : dR → dS → Prop) (x2 x3 : Int) (σ : dS) : Prop := UT d 41 Q 2 (0, 0) [some (.inr (.inr 1)), none, some (.inl x2), some (.inl x3)] [] σ
def B41_3 (d : Nat) (Q : dR → dS → Prop) (x2 : Int) (σ : dS) : Prop := UT d 41 Q 3 (0, 0) [none, none, some (.inl x2), none] [] σ
theorem b41_0 {d : Nat} {Q : dR → dS → Prop} {x1 x2 : Int} {σ : dS} (h : B41_1 d Q x2 x1 σ) : B41_0 d Q x1 x2 σ := ut (m := M41) rfl h
theorem b41_1 {d : Nat} {Q : dR → dS → Prop} {x2 x3 : Int} {σ : dS} (h : ((x2 ≤ x3) → B41_3 d Q x2 σ) ∧ (¬ (x2 ≤ x3) → wI (d + 1) 39 [.inl (rat σ 2 700 x3)] σ Q (fun v1 σ1 => ((v1 ≠ 0) → B41_2 d Q x2 x3 σ1) ∧ (¬ (v1 ≠ 0) → Q (.inl (some (.inl x3))) σ1)))) : B41_1 d Q x2 x3 σ := ut (m := M41) rfl h
theorem b41_2 {d : Nat} {Q : dR → dS → Prop} {x2 x3 : Int} {σ : dS} (h : B41_1 d Q x2 (wr (x3 + 1)) σ) : B41_2 d Q x2 x3 σ := ut (m := M41) rfl h
theorem b41_3 {d : Nat} {Q : dR → dS → Prop} {x2 : Int} {σ : dS} (h : Q (.inl (some (.inl x2))) σ) : B41_3 d Q x2 σ := ut (m := M41) rfl h
theorem c41 {d : Nat} {Q : dR → dS → Prop} {K : Int → dS → Prop} {x1 x2 : Int} {σ : dS} (h : B41_0 d (fun res σ1 => match res with | .inl (some (.inl v)) => K v σ1 | .inl _ => False | .inr e => Q (.inr e) σ1) x1 x2 σ) : wI (d + 2) 41 [.inr (.inr 1), .inl x1, .inl x2] σ Q K := ut0 rfl (Nat.le_of_ble_eq_true rfl) h
/-- WingTrams$Tokens.endOfNumber(LWingTrams$Row;II)I, 42 -/
def M42 (lb : Nat) : List Bool := [[true, true, true, false], [true, false, true, true], [true, false, true, true], [false, false, true, false]].getD lb []
def B42_0 (d : Nat) (Q : dR → dS → Prop) (x1 x2 : Int) (σ : dS) : Prop := UT d 42 Q 0 (0, 0) [some (.inr (.inr 1)), some (.inl x1), some (.inl x2), none] [] σ
def B42_1 (d : Nat) (Q : dR → dS → Prop) (x2 x3 : Int) (σ : dS) : Prop := UT d 42 Q 1 (0, 0) [some (.inr (.inr 1)), none, some (.inl x2), some (.inl x3)] [] σ
def B42_2 (d : Nat) (Q : dR → dS → Prop) (x2 x3 : Int) (σ : dS) : Prop := UT d 42 Q 2 (0, 0) [some (.inr (.inr 1)), none, some (.inl x2), some (.inl x3)] [] σ
def B42_3 (d : Nat) (Q : dR → dS → Prop) (x2 : Int) (σ : dS) : Prop := UT d 42 Q 3 (0, 0) [none, none, some (.inl x2), none] [] σ
theorem b42_0 {d : Nat} {Q : dR → dS → Prop} {x1 x2 : Int} {σ : dS} (h : B42_1 d Q x2 x1 σ) : B42_0 d Q x1 x2 σ := ut (m := M42) rfl h
theorem b42_1 {d : Nat} {Q : dR → dS → Prop} {x2 x3 : Int} {σ : dS} (h : ((x2 ≤ x3) → B42_3 d Q x2 σ) ∧ (¬ (x2 ≤ x3) → wI (d + 1) 40 [.inl (rat σ 2 700 x3)] σ Q (fun v1 σ1 => ((v1 ≠ 0) → B42_2 d Q x2 x3 σ1) ∧ (¬ (v1 ≠ 0) → Q (.inl (some (.inl x3))) σ1)))) : B42_1 d Q x2 x3 σ := ut (m := M42) rfl h
theorem b42_2 {d : Nat} {Q : dR → dS → Prop} {x2 x3 : Int} {σ : dS} (h : B42_1 d Q x2 (wr (x3 + 1)) σ) : B42_2 d Q x2 x3 σ := ut (m := M42) rfl h
theorem b42_3 {d : Nat} {Q : dR → dS → Prop} {x2 : Int} {σ : dS} (h : Q (.inl (some (.inl x2))) σ) : B42_3 d Q x2 σ := ut (m := M42) rfl h
theorem c42 {d : Nat} {Q : dR → dS → Prop} {K : Int → dS → Prop} {x1 x2 : Int} {σ : dS} (h : B42_0 d (fun res σ1 => match res with | .inl (some (.inl v)) => K v σ1 | .inl _ => False | .inr e => Q (.inr e) σ1) x1 x2 σ) : wI (d + 2) 42 [.inr (.inr 1), .inl x1, .inl x2] σ Q K := ut0 rfl (Nat.le_of_ble_eq_true rfl) h
/-- WingTrams$Tokens.numberAt(LWingTrams$Row;II)I, 43 -/
def M43 (lb : Nat) : List Bool := [[true, true, true, false, false], [true, true, true, true, false], [true, false, true, true, true], [false, false, false, true, false]].getD lb []
def B43_0 (d : Nat) (Q : dR → dS → Prop) (x1 x2 : Int) (σ : dS) : Prop := UT d 43 Q 0 (0, 0) [some (.inr (.inr 1)), some (.inl x1), some (.inl x2), none, none] [] σ
def B43_1 (d : Nat) (Q : dR → dS → Prop) (x1 x2 x3 : Int) (σ : dS) : Prop := UT d 43 Q 1 (0, 0) [some (.inr (.inr 1)), some (.inl x1), some (.inl x2), some (.inl x3), none] [] σ
def B43_2 (d : Nat) (Q : dR → dS → Prop) (x2 x3 x4 : Int) (σ : dS) : Prop := UT d 43 Q 2 (0, 0) [some (.inr (.inr 1)), none, some (.inl x2), some (.inl x3), some (.inl x4)] [] σ
def B43_3 (d : Nat) (Q : dR → dS → Prop) (x3 : Int) (σ : dS) : Prop := UT d 43 Q 3 (0, 0) [none, none, none, some (.inl x3), none] [] σ
theorem b43_0 {d : Nat} {Q : dR → dS → Prop} {x1 x2 : Int} {σ : dS} (h : (((wr (x2 - x1)) ≤ (4 : Int)) → B43_1 d Q x1 x2 0 σ) ∧ (¬ ((wr (x2 - x1)) ≤ (4 : Int)) → Q (.inl (some (.inl 10000))) σ)) : B43_0 d Q x1 x2 σ := ut (m := M43) rfl h
theorem b43_1 {d : Nat} {Q : dR → dS → Prop} {x1 x2 x3 : Int} {σ : dS} (h : B43_2 d Q x2 x3 x1 σ) : B43_1 d Q x1 x2 x3 σ := ut (m := M43) rfl h
theorem b43_2 {d : Nat} {Q : dR → dS → Prop} {x2 x3 x4 : Int} {σ : dS} (h : ((x2 ≤ x4) → B43_3 d Q x3 σ) ∧ (¬ (x2 ≤ x4) → B43_2 d Q x2 (wr ((wr ((wr (x3 * 10)) + (rat σ 2 700 x4))) - 48)) (wr (x4 + 1)) σ)) : B43_2 d Q x2 x3 x4 σ := ut (m := M43) rfl h
theorem b43_3 {d : Nat} {Q : dR → dS → Prop} {x3 : Int} {σ : dS} (h : Q (.inl (some (.inl x3))) σ) : B43_3 d Q x3 σ := ut (m := M43) rfl h
theorem c43 {d : Nat} {Q : dR → dS → Prop} {K : Int → dS → Prop} {x1 x2 : Int} {σ : dS} (h : B43_0 d (fun res σ1 => match res with | .inl (some (.inl v)) => K v σ1 | .inl _ => False | .inr e => Q (.inr e) σ1) x1 x2 σ) : wI (d + 2) 43 [.inr (.inr 1), .inl x1, .inl x2] σ Q K := ut0 rfl (Nat.le_of_ble_eq_true rfl) h
/-- WingTrams$Tokens.wordCode(LWingTrams$Row;II)I, 44 -/
def M44 (lb : Nat) : List Bool := [[true, true, true, false, false, false, false, false], [true, true, true, true, true, true, true, false], [true, true, true, true, true, false, true, false], [true, true, true, true, true, false, true, false], [true, true, true, true, true, true, true, false], [true, true, true, true, false, false, true, false], [true, true, true, true, true, true, true, false], [false, false, true, true, true, true, false, false], [false, false, false, false, false, false, false, false], [false, false, false, false, false, false, false, false]].getD lb []
def B44_0 (d : Nat) (Q : dR → dS → Prop) (x1 x2 : Int) (σ : dS) : Prop := UT d 44 Q 0 (0, 0) [some (.inr (.inr 1)), some (.inl x1), some (.inl x2), none, none, none, none, none] [] σ
def B44_1 (d : Nat) (Q : dR → dS → Prop) (x1 x2 x3 x4 x5 x6 : Int) (σ : dS) : Prop := UT d 44 Q 1 (0, 0) [some (.inr (.inr 1)), some (.inl x1), some (.inl x2), some (.inl x3), some (.inl x4), some (.inl x5), some (.inl x6), none] [] σ
def B44_2 (d : Nat) (Q : dR → dS → Prop) (x1 x2 x3 x4 x6 : Int) (σ : dS) : Prop := UT d 44 Q 2 (0, 0) [some (.inr (.inr 1)), some (.inl x1), some (.inl x2), some (.inl x3), some (.inl x4), none, some (.inl x6), none] [] σ
def B44_3 (d : Nat) (Q : dR → dS → Prop) (x1 x2 x3 x4 x6 s0 : Int) (σ : dS) : Prop := UT d 44 Q 3 (0, 0) [some (.inr (.inr 1)), some (.inl x1), some (.inl x2), some (.inl x3), some (.inl x4), none, some (.inl x6), none] [.inl s0] σ
def B44_4 (d : Nat) (Q : dR → dS → Prop) (x1 x2 x3 x4 x5 x6 : Int) (σ : dS) : Prop := UT d 44 Q 4 (0, 0) [some (.inr (.inr 1)), some (.inl x1), some (.inl x2), some (.inl x3), some (.inl x4), some (.inl x5), some (.inl x6), none] [] σ
def B44_5 (d : Nat) (Q : dR → dS → Prop) (x1 x2 x3 x6 : Int) (σ : dS) : Prop := UT d 44 Q 5 (0, 0) [some (.inr (.inr 1)), some (.inl x1), some (.inl x2), some (.inl x3), none, none, some (.inl x6), none] [] σ
def B44_6 (d : Nat) (Q : dR → dS → Prop) (x1 x2 x3 x4 x5 x6 : Int) (σ : dS) : Prop := UT d 44 Q 6 (0, 0) [some (.inr (.inr 1)), some (.inl x1), some (.inl x2), some (.inl x3), some (.inl x4), some (.inl x5), some (.inl x6), none] [] σ
def B44_7 (d : Nat) (Q : dR → dS → Prop) (x2 x3 x4 x5 : Int) (σ : dS) : Prop := UT d 44 Q 7 (0, 0) [none, none, some (.inl x2), some (.inl x3), some (.inl x4), some (.inl x5), none, none] [] σ
def B44_8 (d : Nat) (Q : dR → dS → Prop) (σ : dS) : Prop := UT d 44 Q 8 (0, 0) [none, none, none, none, none, none, none, none] [] σ
def B44_9 (d : Nat) (Q : dR → dS → Prop) (s0 : Int) (σ : dS) : Prop := UT d 44 Q 9 (0, 0) [none, none, none, none, none, none, none, none] [.inl s0] σ
theorem b44_0 {d : Nat} {Q : dR → dS → Prop} {x1 x2 : Int} {σ : dS} (h : B44_1 d Q x1 x2 129 x1 1 0 σ) : B44_0 d Q x1 x2 σ := ut (m := M44) rfl h
theorem b44_1 {d : Nat} {Q : dR → dS → Prop} {x1 x2 x3 x4 x5 x6 : Int} {σ : dS} (h : (((tx_len 1) ≤ x6) → B44_7 d Q x2 x3 x4 x5 σ) ∧ (¬ ((tx_len 1) ≤ x6) → (0 ≤ x6) ∧ (x6 < tx_len 1) ∧ ((((tx_ch 1 x6) = (32 : Int)) → B44_4 d Q x1 x2 x3 x4 x5 x6 σ) ∧ (¬ ((tx_ch 1 x6) = (32 : Int)) → ((x5 = 0) → B44_2 d Q x1 x2 x3 x4 x6 σ) ∧ (¬ (x5 = 0) → ((x2 ≤ x4) → B44_2 d Q x1 x2 x3 x4 x6 σ) ∧ (¬ (x2 ≤ x4) → (((rat σ 2 700 x4) ≠ (tx_ch 1 x6)) → B44_2 d Q x1 x2 x3 x4 x6 σ) ∧ (¬ ((rat σ 2 700 x4) ≠ (tx_ch 1 x6)) → B44_3 d Q x1 x2 x3 x4 x6 1 σ))))))) : B44_1 d Q x1 x2 x3 x4 x5 x6 σ := ut (m := M44) rfl h
theorem b44_2 {d : Nat} {Q : dR → dS → Prop} {x1 x2 x3 x4 x6 : Int} {σ : dS} (h : B44_3 d Q x1 x2 x3 x4 x6 0 σ) : B44_2 d Q x1 x2 x3 x4 x6 σ := ut (m := M44) rfl h
theorem b44_3 {d : Nat} {Q : dR → dS → Prop} {x1 x2 x3 x4 x6 s0 : Int} {σ : dS} (h : B44_6 d Q x1 x2 x3 (wr (x4 + 1)) s0 x6 σ) : B44_3 d Q x1 x2 x3 x4 x6 s0 σ := ut (m := M44) rfl h
theorem b44_4 {d : Nat} {Q : dR → dS → Prop} {x1 x2 x3 x4 x5 x6 : Int} {σ : dS} (h : ((x5 = 0) → B44_5 d Q x1 x2 x3 x6 σ) ∧ (¬ (x5 = 0) → ((x4 ≠ x2) → B44_5 d Q x1 x2 x3 x6 σ) ∧ (¬ (x4 ≠ x2) → Q (.inl (some (.inl x3))) σ))) : B44_4 d Q x1 x2 x3 x4 x5 x6 σ := ut (m := M44) rfl h
theorem b44_5 {d : Nat} {Q : dR → dS → Prop} {x1 x2 x3 x6 : Int} {σ : dS} (h : B44_6 d Q x1 x2 (wr (x3 + 1)) x1 1 x6 σ) : B44_5 d Q x1 x2 x3 x6 σ := ut (m := M44) rfl h
theorem b44_6 {d : Nat} {Q : dR → dS → Prop} {x1 x2 x3 x4 x5 x6 : Int} {σ : dS} (h : B44_1 d Q x1 x2 x3 x4 x5 (wr (x6 + 1)) σ) : B44_6 d Q x1 x2 x3 x4 x5 x6 σ := ut (m := M44) rfl h
theorem b44_7 {d : Nat} {Q : dR → dS → Prop} {x2 x3 x4 x5 : Int} {σ : dS} (h : ((x5 = 0) → B44_8 d Q σ) ∧ (¬ (x5 = 0) → ((x4 ≠ x2) → B44_8 d Q σ) ∧ (¬ (x4 ≠ x2) → B44_9 d Q x3 σ))) : B44_7 d Q x2 x3 x4 x5 σ := ut (m := M44) rfl h
theorem b44_8 {d : Nat} {Q : dR → dS → Prop} {σ : dS} (h : B44_9 d Q 128 σ) : B44_8 d Q σ := ut (m := M44) rfl h
theorem b44_9 {d : Nat} {Q : dR → dS → Prop} {s0 : Int} {σ : dS} (h : Q (.inl (some (.inl s0))) σ) : B44_9 d Q s0 σ := ut (m := M44) rfl h
theorem c44 {d : Nat} {Q : dR → dS → Prop} {K : Int → dS → Prop} {x1 x2 : Int} {σ : dS} (h : B44_0 d (fun res σ1 => match res with | .inl (some (.inl v)) => K v σ1 | .inl _ => False | .inr e => Q (.inr e) σ1) x1 x2 σ) : wI (d + 2) 44 [.inr (.inr 1), .inl x1, .inl x2] σ Q K := ut0 rfl (Nat.le_of_ble_eq_true rfl) h
/-- WingTrams$Reader.readCity()I, 46 -/
def M46 (lb : Nat) : List Bool := [[true, false], [true, true], [true, false], [true, true], [true, false]].getD lb []
def B46_0 (d : Nat) (Q : dR → dS → Prop) (σ : dS) : Prop := UT d 46 Q 0 (0, 0) [some (.inr (.inr 68)), none] [] σ
def B46_1 (d : Nat) (Q : dR → dS → Prop) (x1 : Int) (σ : dS) : Prop := UT d 46 Q 1 (0, 0) [some (.inr (.inr 68)), some (.inl x1)] [] σ
def B46_2 (d : Nat) (Q : dR → dS → Prop) (σ : dS) : Prop := UT d 46 Q 2 (0, 0) [some (.inr (.inr 68)), none] [] σ
def B46_3 (d : Nat) (Q : dR → dS → Prop) (x1 : Int) (σ : dS) : Prop := UT d 46 Q 3 (0, 0) [some (.inr (.inr 68)), some (.inl x1)] [] σ
def B46_4 (d : Nat) (Q : dR → dS → Prop) (σ : dS) : Prop := UT d 46 Q 4 (0, 0) [some (.inr (.inr 68)), none] [] σ
theorem b46_0 {d : Nat} {Q : dR → dS → Prop} {σ : dS} (h : wV (d + 1) 25 [.inr (.inr 33)] σ Q (fun σ1 => ∀ σ2 : dS, σ2 = up σ1 68 2 0 → (∀ σ3 : dS, σ3 = up σ2 68 3 0 → (∀ σ4 : dS, σ4 = up σ3 68 4 (-1) → (((0 : Int) = 0 ∨ (0 : Int) = 1) ∧ (∀ σ5 : dS, σ5 = up σ4 68 5 0 → (B46_1 d Q 0 σ5))))))) : B46_0 d Q σ := ut (m := M46) rfl h
theorem b46_1 {d : Nat} {Q : dR → dS → Prop} {x1 : Int} {σ : dS} (h : (((700 : Int) ≤ x1) → B46_4 d Q σ) ∧ (¬ ((700 : Int) ≤ x1) → wI (d + 1) 47 [.inr (.inr 68)] σ Q (fun v1 σ1 => ((v1 = 0) → B46_4 d Q σ1) ∧ (¬ (v1 = 0) → wI (d + 1) 50 [.inr (.inr 68)] σ1 Q (fun v2 σ2 => ((v2 = 0) → B46_2 d Q σ2) ∧ (¬ (v2 = 0) → wI (d + 1) 49 [.inr (.inr 68), .inl 59] σ2 Q (fun v3 σ3 => ((v3 ≠ 0) → B46_3 d Q x1 σ3) ∧ (¬ (v3 ≠ 0) → B46_2 d Q σ3)))))))) : B46_1 d Q x1 σ := ut (m := M46) rfl h
theorem b46_2 {d : Nat} {Q : dR → dS → Prop} {σ : dS} (h : Q (.inl (some (.inl (σ 68 3)))) σ) : B46_2 d Q σ := ut (m := M46) rfl h
theorem b46_3 {d : Nat} {Q : dR → dS → Prop} {x1 : Int} {σ : dS} (h : B46_1 d Q (wr (x1 + 1)) σ) : B46_3 d Q x1 σ := ut (m := M46) rfl h
theorem b46_4 {d : Nat} {Q : dR → dS → Prop} {σ : dS} (h : Q (.inl (some (.inl (σ 68 3)))) σ) : B46_4 d Q σ := ut (m := M46) rfl h
theorem c46 {d : Nat} {Q : dR → dS → Prop} {K : Int → dS → Prop} {σ : dS} (h : B46_0 d (fun res σ1 => match res with | .inl (some (.inl v)) => K v σ1 | .inl _ => False | .inr e => Q (.inr e) σ1) σ) : wI (d + 2) 46 [.inr (.inr 68)] σ Q K := ut0 rfl (Nat.le_of_ble_eq_true rfl) h
/-- WingTrams$Reader.code()I, 47 -/
def M47 (lb : Nat) : List Bool := [[true]].getD lb []
def B47_0 (d : Nat) (Q : dR → dS → Prop) (σ : dS) : Prop := UT d 47 Q 0 (0, 0) [some (.inr (.inr 68))] [] σ
theorem b47_0 {d : Nat} {Q : dR → dS → Prop} {σ : dS} (h : Q (.inl (some (.inl (rat σ 63 701 (σ 68 2))))) σ) : B47_0 d Q σ := ut (m := M47) rfl h
theorem c47 {d : Nat} {Q : dR → dS → Prop} {K : Int → dS → Prop} {σ : dS} (h : B47_0 d (fun res σ1 => match res with | .inl (some (.inl v)) => K v σ1 | .inl _ => False | .inr e => Q (.inr e) σ1) σ) : wI (d + 2) 47 [.inr (.inr 68)] σ Q K := ut0 rfl (Nat.le_of_ble_eq_true rfl) h
/-- WingTrams$Reader.fail(I)Z, 48 -/
def M48 (lb : Nat) : List Bool := [[true, true]].getD lb []
def B48_0 (d : Nat) (Q : dR → dS → Prop) (x1 : Int) (σ : dS) : Prop := UT d 48 Q 0 (0, 0) [some (.inr (.inr 68)), some (.inl x1)] [] σ
theorem b48_0 {d : Nat} {Q : dR → dS → Prop} {x1 : Int} {σ : dS} (h : ∀ σ1 : dS, σ1 = up σ 68 3 x1 → (∀ σ2 : dS, σ2 = up σ1 68 4 (rat σ1 65 701 (σ1 68 2)) → (((0 : Int) = 0 ∨ (0 : Int) = 1) ∧ Q (.inl (some (.inl 0))) σ2))) : B48_0 d Q x1 σ := ut (m := M48) rfl h
theorem c48 {d : Nat} {Q : dR → dS → Prop} {K : Int → dS → Prop} {x1 : Int} {σ : dS} (h : B48_0 d (fun res σ1 => match res with | .inl (some (.inl v)) => K v σ1 | .inl _ => False | .inr e => Q (.inr e) σ1) x1 σ) : wI (d + 2) 48 [.inr (.inr 68), .inl x1] σ Q K := ut0 rfl (Nat.le_of_ble_eq_true rfl) h
/-- WingTrams$Reader.takeSign(I)Z, 49 -/
def M49 (lb : Nat) : List Bool := [[true, true], [true, false]].getD lb []
def B49_0 (d : Nat) (Q : dR → dS → Prop) (x1 : Int) (σ : dS) : Prop := UT d 49 Q 0 (0, 0) [some (.inr (.inr 68)), some (.inl x1)] [] σ
def B49_1 (d : Nat) (Q : dR → dS → Prop) (σ : dS) : Prop := UT d 49 Q 1 (0, 0) [some (.inr (.inr 68)), none] [] σ
theorem b49_0 {d : Nat} {Q : dR → dS → Prop} {x1 : Int} {σ : dS} (h : wI (d + 1) 47 [.inr (.inr 68)] σ Q (fun v1 σ1 => ((v1 = x1) → B49_1 d Q σ1) ∧ (¬ (v1 = x1) → wI (d + 1) 48 [.inr (.inr 68), .inl 1] σ1 Q (fun v2 σ2 => (v2 = 0 ∨ v2 = 1) ∧ Q (.inl (some (.inl v2))) σ2)))) : B49_0 d Q x1 σ := ut (m := M49) rfl h
theorem b49_1 {d : Nat} {Q : dR → dS → Prop} {σ : dS} (h : ∀ σ1 : dS, σ1 = up σ 68 2 (wr ((σ 68 2) + 1)) → (((1 : Int) = 0 ∨ (1 : Int) = 1) ∧ Q (.inl (some (.inl 1))) σ1)) : B49_1 d Q σ := ut (m := M49) rfl h
theorem c49 {d : Nat} {Q : dR → dS → Prop} {K : Int → dS → Prop} {x1 : Int} {σ : dS} (h : B49_0 d (fun res σ1 => match res with | .inl (some (.inl v)) => K v σ1 | .inl _ => False | .inr e => Q (.inr e) σ1) x1 σ) : wI (d + 2) 49 [.inr (.inr 68), .inl x1] σ Q K := ut0 rfl (Nat.le_of_ble_eq_true rfl) h
/-- WingTrams$Reader.readLine()Z, 50 -/
def M50 (lb : Nat) : List Bool := [[true, false], [true, false], [true, false], [true, true], [true, false], [true, false], [true, false], [true, false]].getD lb []
def B50_0 (d : Nat) (Q : dR → dS → Prop) (σ : dS) : Prop := UT d 50 Q 0 (0, 0) [some (.inr (.inr 68)), none] [] σ
def B50_1 (d : Nat) (Q : dR → dS → Prop) (σ : dS) : Prop := UT d 50 Q 1 (0, 0) [some (.inr (.inr 68)), none] [] σ
def B50_2 (d : Nat) (Q : dR → dS → Prop) (σ : dS) : Prop := UT d 50 Q 2 (0, 0) [some (.inr (.inr 68)), none] [] σ
def B50_3 (d : Nat) (Q : dR → dS → Prop) (x1 : Int) (σ : dS) : Prop := UT d 50 Q 3 (0, 0) [some (.inr (.inr 68)), some (.inl x1)] [] σ
def B50_4 (d : Nat) (Q : dR → dS → Prop) (σ : dS) : Prop := UT d 50 Q 4 (0, 0) [some (.inr (.inr 68)), none] [] σ
def B50_5 (d : Nat) (Q : dR → dS → Prop) (σ : dS) : Prop := UT d 50 Q 5 (0, 0) [some (.inr (.inr 68)), none] [] σ
def B50_6 (d : Nat) (Q : dR → dS → Prop) (σ : dS) : Prop := UT d 50 Q 6 (0, 0) [some (.inr (.inr 68)), none] [] σ
def B50_7 (d : Nat) (Q : dR → dS → Prop) (σ : dS) : Prop := UT d 50 Q 7 (0, 0) [some (.inr (.inr 68)), none] [] σ
theorem b50_0 {d : Nat} {Q : dR → dS → Prop} {σ : dS} (h : wI (d + 1) 47 [.inr (.inr 68)] σ Q (fun v1 σ1 => ((v1 = 129) → B50_1 d Q σ1) ∧ (¬ (v1 = 129) → ((v1 = 130) → B50_2 d Q σ1) ∧ (¬ (v1 = 130) → ((v1 = 131) → B50_3 d Q v1 σ1) ∧ (¬ (v1 = 131) → ((v1 = 132) → B50_3 d Q v1 σ1) ∧ (¬ (v1 = 132) → ((v1 = 133) → B50_3 d Q v1 σ1) ∧ (¬ (v1 = 133) → ((v1 = 134) → B50_4 d Q σ1) ∧ (¬ (v1 = 134) → ((v1 = 135) → B50_5 d Q σ1) ∧ (¬ (v1 = 135) → ((v1 = 136) → B50_6 d Q σ1) ∧ (¬ (v1 = 136) → B50_7 d Q σ1)))))))))) : B50_0 d Q σ := ut (m := M50) rfl h
theorem b50_1 {d : Nat} {Q : dR → dS → Prop} {σ : dS} (h : wI (d + 1) 51 [.inr (.inr 68)] σ Q (fun v1 σ1 => (v1 = 0 ∨ v1 = 1) ∧ Q (.inl (some (.inl v1))) σ1)) : B50_1 d Q σ := ut (m := M50) rfl h
theorem b50_2 {d : Nat} {Q : dR → dS → Prop} {σ : dS} (h : wI (d + 1) 52 [.inr (.inr 68)] σ Q (fun v1 σ1 => (v1 = 0 ∨ v1 = 1) ∧ Q (.inl (some (.inl v1))) σ1)) : B50_2 d Q σ := ut (m := M50) rfl h
theorem b50_3 {d : Nat} {Q : dR → dS → Prop} {x1 : Int} {σ : dS} (h : wI (d + 1) 53 [.inr (.inr 68), .inl (wr (x1 - 131))] σ Q (fun v1 σ1 => (v1 = 0 ∨ v1 = 1) ∧ Q (.inl (some (.inl v1))) σ1)) : B50_3 d Q x1 σ := ut (m := M50) rfl h
theorem b50_4 {d : Nat} {Q : dR → dS → Prop} {σ : dS} (h : wI (d + 1) 55 [.inr (.inr 68)] σ Q (fun v1 σ1 => (v1 = 0 ∨ v1 = 1) ∧ Q (.inl (some (.inl v1))) σ1)) : B50_4 d Q σ := ut (m := M50) rfl h
theorem b50_5 {d : Nat} {Q : dR → dS → Prop} {σ : dS} (h : wI (d + 1) 56 [.inr (.inr 68)] σ Q (fun v1 σ1 => (v1 = 0 ∨ v1 = 1) ∧ Q (.inl (some (.inl v1))) σ1)) : B50_5 d Q σ := ut (m := M50) rfl h
theorem b50_6 {d : Nat} {Q : dR → dS → Prop} {σ : dS} (h : wI (d + 1) 59 [.inr (.inr 68)] σ Q (fun v1 σ1 => (v1 = 0 ∨ v1 = 1) ∧ Q (.inl (some (.inl v1))) σ1)) : B50_6 d Q σ := ut (m := M50) rfl h
theorem b50_7 {d : Nat} {Q : dR → dS → Prop} {σ : dS} (h : wI (d + 1) 48 [.inr (.inr 68), .inl 1] σ Q (fun v1 σ1 => (v1 = 0 ∨ v1 = 1) ∧ Q (.inl (some (.inl v1))) σ1)) : B50_7 d Q σ := ut (m := M50) rfl h
theorem c50 {d : Nat} {Q : dR → dS → Prop} {K : Int → dS → Prop} {σ : dS} (h : B50_0 d (fun res σ1 => match res with | .inl (some (.inl v)) => K v σ1 | .inl _ => False | .inr e => Q (.inr e) σ1) σ) : wI (d + 2) 50 [.inr (.inr 68)] σ Q K := ut0 rfl (Nat.le_of_ble_eq_true rfl) h
/-- WingTrams$Reader.readRoof()Z, 51 -/
def M51 (lb : Nat) : List Bool := [[true, false], [true, false], [false, false], [false, false]].getD lb []
def B51_0 (d : Nat) (Q : dR → dS → Prop) (σ : dS) : Prop := UT d 51 Q 0 (0, 0) [some (.inr (.inr 68)), none] [] σ
def B51_1 (d : Nat) (Q : dR → dS → Prop) (σ : dS) : Prop := UT d 51 Q 1 (0, 0) [some (.inr (.inr 68)), none] [] σ
def B51_2 (d : Nat) (Q : dR → dS → Prop) (σ : dS) : Prop := UT d 51 Q 2 (0, 0) [none, none] [] σ
def B51_3 (d : Nat) (Q : dR → dS → Prop) (s0 : Int) (σ : dS) : Prop := UT d 51 Q 3 (0, 0) [none, none] [.inl s0] σ
theorem b51_0 {d : Nat} {Q : dR → dS → Prop} {σ : dS} (h : (((σ 33 0) < (10 : Int)) → B51_1 d Q σ) ∧ (¬ ((σ 33 0) < (10 : Int)) → wI (d + 1) 48 [.inr (.inr 68), .inl 2] σ Q (fun v1 σ1 => (v1 = 0 ∨ v1 = 1) ∧ Q (.inl (some (.inl v1))) σ1))) : B51_0 d Q σ := ut (m := M51) rfl h
theorem b51_1 {d : Nat} {Q : dR → dS → Prop} {σ : dS} (h : ∀ σ1 : dS, σ1 = up σ 68 2 (wr ((σ 68 2) + 1)) → (wI (d + 1) 57 [.inr (.inr 68), .inl 0, .inl 9] σ1 Q (fun v2 σ2 => ∀ σ3 : dS, σ3 = rput σ2 35 10 (σ2 33 0) v2 → (∀ σ4 : dS, σ4 = up σ3 33 0 (wr ((σ3 33 0) + 1)) → (((v2 = (-1 : Int)) → B51_2 d Q σ4) ∧ (¬ (v2 = (-1 : Int)) → B51_3 d Q 1 σ4)))))) : B51_1 d Q σ := ut (m := M51) rfl h
theorem b51_2 {d : Nat} {Q : dR → dS → Prop} {σ : dS} (h : B51_3 d Q 0 σ) : B51_2 d Q σ := ut (m := M51) rfl h
theorem b51_3 {d : Nat} {Q : dR → dS → Prop} {s0 : Int} {σ : dS} (h : (s0 = 0 ∨ s0 = 1) ∧ Q (.inl (some (.inl s0))) σ) : B51_3 d Q s0 σ := ut (m := M51) rfl h
theorem c51 {d : Nat} {Q : dR → dS → Prop} {K : Int → dS → Prop} {σ : dS} (h : B51_0 d (fun res σ1 => match res with | .inl (some (.inl v)) => K v σ1 | .inl _ => False | .inr e => Q (.inr e) σ1) σ) : wI (d + 2) 51 [.inr (.inr 68)] σ Q K := ut0 rfl (Nat.le_of_ble_eq_true rfl) h
/-- WingTrams$Reader.readFlight()Z, 52 -/
def M52 (lb : Nat) : List Bool := [[true, false, false, false], [true, false, false, false], [true, true, false, false], [true, true, true, false], [true, false, false, false], [true, true, true, false], [true, true, true, true]].getD lb []
def B52_0 (d : Nat) (Q : dR → dS → Prop) (σ : dS) : Prop := UT d 52 Q 0 (0, 0) [some (.inr (.inr 68)), none, none, none] [] σ
def B52_1 (d : Nat) (Q : dR → dS → Prop) (σ : dS) : Prop := UT d 52 Q 1 (0, 0) [some (.inr (.inr 68)), none, none, none] [] σ
def B52_2 (d : Nat) (Q : dR → dS → Prop) (x1 : Int) (σ : dS) : Prop := UT d 52 Q 2 (0, 0) [some (.inr (.inr 68)), some (.inl x1), none, none] [] σ
def B52_3 (d : Nat) (Q : dR → dS → Prop) (x1 x2 : Int) (σ : dS) : Prop := UT d 52 Q 3 (0, 0) [some (.inr (.inr 68)), some (.inl x1), some (.inl x2), none] [] σ
def B52_4 (d : Nat) (Q : dR → dS → Prop) (σ : dS) : Prop := UT d 52 Q 4 (0, 0) [some (.inr (.inr 68)), none, none, none] [] σ
def B52_5 (d : Nat) (Q : dR → dS → Prop) (x1 x2 : Int) (σ : dS) : Prop := UT d 52 Q 5 (0, 0) [some (.inr (.inr 68)), some (.inl x1), some (.inl x2), none] [] σ
def B52_6 (d : Nat) (Q : dR → dS → Prop) (x1 x2 x3 : Int) (σ : dS) : Prop := UT d 52 Q 6 (0, 0) [some (.inr (.inr 68)), some (.inl x1), some (.inl x2), some (.inl x3)] [] σ
theorem b52_0 {d : Nat} {Q : dR → dS → Prop} {σ : dS} (h : (((σ 33 1) < (18 : Int)) → B52_1 d Q σ) ∧ (¬ ((σ 33 1) < (18 : Int)) → wI (d + 1) 48 [.inr (.inr 68), .inl 2] σ Q (fun v1 σ1 => (v1 = 0 ∨ v1 = 1) ∧ Q (.inl (some (.inl v1))) σ1))) : B52_0 d Q σ := ut (m := M52) rfl h
theorem b52_1 {d : Nat} {Q : dR → dS → Prop} {σ : dS} (h : ∀ σ1 : dS, σ1 = up σ 68 2 (wr ((σ 68 2) + 1)) → (wI (d + 1) 58 [.inr (.inr 68)] σ1 Q (fun v2 σ2 => ((v2 ≠ (-1 : Int)) → B52_2 d Q v2 σ2) ∧ (¬ (v2 ≠ (-1 : Int)) → ((0 : Int) = 0 ∨ (0 : Int) = 1) ∧ Q (.inl (some (.inl 0))) σ2)))) : B52_1 d Q σ := ut (m := M52) rfl h
theorem b52_2 {d : Nat} {Q : dR → dS → Prop} {x1 : Int} {σ : dS} (h : ∀ σ1 : dS, σ1 = up σ 68 2 (wr ((σ 68 2) + 1)) → (wI (d + 1) 58 [.inr (.inr 68)] σ1 Q (fun v2 σ2 => ((v2 ≠ (-1 : Int)) → B52_3 d Q x1 v2 σ2) ∧ (¬ (v2 ≠ (-1 : Int)) → ((0 : Int) = 0 ∨ (0 : Int) = 1) ∧ Q (.inl (some (.inl 0))) σ2)))) : B52_2 d Q x1 σ := ut (m := M52) rfl h
theorem b52_3 {d : Nat} {Q : dR → dS → Prop} {x1 x2 : Int} {σ : dS} (h : ((x2 = x1) → B52_4 d Q σ) ∧ (¬ (x2 = x1) → wI (d + 1) 28 [.inr (.inr 33), .inl x1, .inl x2] σ Q (fun v1 σ1 => ((v1 = (-1 : Int)) → B52_5 d Q x1 x2 σ1) ∧ (¬ (v1 = (-1 : Int)) → B52_4 d Q σ1)))) : B52_3 d Q x1 x2 σ := ut (m := M52) rfl h
theorem b52_4 {d : Nat} {Q : dR → dS → Prop} {σ : dS} (h : wI (d + 1) 48 [.inr (.inr 68), .inl 4] σ Q (fun v1 σ1 => (v1 = 0 ∨ v1 = 1) ∧ Q (.inl (some (.inl v1))) σ1)) : B52_4 d Q σ := ut (m := M52) rfl h
theorem b52_5 {d : Nat} {Q : dR → dS → Prop} {x1 x2 : Int} {σ : dS} (h : ∀ σ1 : dS, σ1 = up σ 68 2 (wr ((σ 68 2) + 1)) → (wI (d + 1) 57 [.inr (.inr 68), .inl 1, .inl 60] σ1 Q (fun v2 σ2 => ((v2 ≠ (-1 : Int)) → B52_6 d Q x1 x2 v2 σ2) ∧ (¬ (v2 ≠ (-1 : Int)) → ((0 : Int) = 0 ∨ (0 : Int) = 1) ∧ Q (.inl (some (.inl 0))) σ2)))) : B52_5 d Q x1 x2 σ := ut (m := M52) rfl h
theorem b52_6 {d : Nat} {Q : dR → dS → Prop} {x1 x2 x3 : Int} {σ : dS} (h : wV (d + 1) 27 [.inr (.inr 33), .inl x1, .inl x2, .inl x3] σ Q (fun σ1 => ((1 : Int) = 0 ∨ (1 : Int) = 1) ∧ Q (.inl (some (.inl 1))) σ1)) : B52_6 d Q x1 x2 x3 σ := ut (m := M52) rfl h
theorem c52 {d : Nat} {Q : dR → dS → Prop} {K : Int → dS → Prop} {σ : dS} (h : B52_0 d (fun res σ1 => match res with | .inl (some (.inl v)) => K v σ1 | .inl _ => False | .inr e => Q (.inr e) σ1) σ) : wI (d + 2) 52 [.inr (.inr 68)] σ Q K := ut0 rfl (Nat.le_of_ble_eq_true rfl) h
/-- WingTrams$Reader.readOwl(I)Z, 53 -/
def M53 (lb : Nat) : List Bool := [[true, true, false], [true, true, false], [false, false, false], [true, true, true]].getD lb []
def B53_0 (d : Nat) (Q : dR → dS → Prop) (x1 : Int) (σ : dS) : Prop := UT d 53 Q 0 (0, 0) [some (.inr (.inr 68)), some (.inl x1), none] [] σ
def B53_1 (d : Nat) (Q : dR → dS → Prop) (x1 : Int) (σ : dS) : Prop := UT d 53 Q 1 (0, 0) [some (.inr (.inr 68)), some (.inl x1), none] [] σ
def B53_2 (d : Nat) (Q : dR → dS → Prop) (σ : dS) : Prop := UT d 53 Q 2 (0, 0) [none, none, none] [] σ
def B53_3 (d : Nat) (Q : dR → dS → Prop) (x1 x2 : Int) (σ : dS) : Prop := UT d 53 Q 3 (0, 0) [some (.inr (.inr 68)), some (.inl x1), some (.inl x2)] [] σ
theorem b53_0 {d : Nat} {Q : dR → dS → Prop} {x1 : Int} {σ : dS} (h : (((σ 33 2) < (5 : Int)) → B53_1 d Q x1 σ) ∧ (¬ ((σ 33 2) < (5 : Int)) → wI (d + 1) 48 [.inr (.inr 68), .inl 2] σ Q (fun v1 σ1 => (v1 = 0 ∨ v1 = 1) ∧ Q (.inl (some (.inl v1))) σ1))) : B53_0 d Q x1 σ := ut (m := M53) rfl h
theorem b53_1 {d : Nat} {Q : dR → dS → Prop} {x1 : Int} {σ : dS} (h : ∀ σ1 : dS, σ1 = up σ 68 2 (wr ((σ 68 2) + 1)) → (wI (d + 1) 57 [.inr (.inr 68), .inl 0, .inl 300] σ1 Q (fun v2 σ2 => ((v2 = (-1 : Int)) → B53_2 d Q σ2) ∧ (¬ (v2 = (-1 : Int)) → wI (d + 1) 54 [.inr (.inr 68), .inl (σ2 33 2)] σ2 Q (fun v3 σ3 => ((v3 ≠ 0) → B53_3 d Q x1 v2 σ3) ∧ (¬ (v3 ≠ 0) → B53_2 d Q σ3)))))) : B53_1 d Q x1 σ := ut (m := M53) rfl h
theorem b53_2 {d : Nat} {Q : dR → dS → Prop} {σ : dS} (h : ((0 : Int) = 0 ∨ (0 : Int) = 1) ∧ Q (.inl (some (.inl 0))) σ) : B53_2 d Q σ := ut (m := M53) rfl h
theorem b53_3 {d : Nat} {Q : dR → dS → Prop} {x1 x2 : Int} {σ : dS} (h : ∀ σ1 : dS, σ1 = rput σ 39 5 (σ 33 2) x1 → (∀ σ2 : dS, σ2 = rput σ1 41 5 (σ1 33 2) x2 → (∀ σ3 : dS, σ3 = up σ2 33 2 (wr ((σ2 33 2) + 1)) → (((1 : Int) = 0 ∨ (1 : Int) = 1) ∧ Q (.inl (some (.inl 1))) σ3)))) : B53_3 d Q x1 x2 σ := ut (m := M53) rfl h
theorem c53 {d : Nat} {Q : dR → dS → Prop} {K : Int → dS → Prop} {x1 : Int} {σ : dS} (h : B53_0 d (fun res σ1 => match res with | .inl (some (.inl v)) => K v σ1 | .inl _ => False | .inr e => Q (.inr e) σ1) x1 σ) : wI (d + 2) 53 [.inr (.inr 68), .inl x1] σ Q K := ut0 rfl (Nat.le_of_ble_eq_true rfl) h
/-- WingTrams$Reader.readWay(I)Z, 54 -/
def M54 (lb : Nat) : List Bool := [[true, true, false, false, false], [true, true, true, true, false], [true, true, true, true, false], [true, true, true, true, false], [true, true, true, true, true], [true, true, false, true, true], [false, false, false, false, false]].getD lb []
def B54_0 (d : Nat) (Q : dR → dS → Prop) (x1 : Int) (σ : dS) : Prop := UT d 54 Q 0 (0, 0) [some (.inr (.inr 68)), some (.inl x1), none, none, none] [] σ
def B54_1 (d : Nat) (Q : dR → dS → Prop) (x1 x2 x3 : Int) (σ : dS) : Prop := UT d 54 Q 1 (0, 0) [some (.inr (.inr 68)), some (.inl x1), some (.inl x2), some (.inl x3), none] [] σ
def B54_2 (d : Nat) (Q : dR → dS → Prop) (x1 x2 x3 : Int) (σ : dS) : Prop := UT d 54 Q 2 (0, 0) [some (.inr (.inr 68)), some (.inl x1), some (.inl x2), some (.inl x3), none] [] σ
def B54_3 (d : Nat) (Q : dR → dS → Prop) (x1 x2 x3 : Int) (σ : dS) : Prop := UT d 54 Q 3 (0, 0) [some (.inr (.inr 68)), some (.inl x1), some (.inl x2), some (.inl x3), none] [] σ
def B54_4 (d : Nat) (Q : dR → dS → Prop) (x1 x2 x3 x4 : Int) (σ : dS) : Prop := UT d 54 Q 4 (0, 0) [some (.inr (.inr 68)), some (.inl x1), some (.inl x2), some (.inl x3), some (.inl x4)] [] σ
def B54_5 (d : Nat) (Q : dR → dS → Prop) (x1 x3 x4 : Int) (σ : dS) : Prop := UT d 54 Q 5 (0, 0) [some (.inr (.inr 68)), some (.inl x1), none, some (.inl x3), some (.inl x4)] [] σ
def B54_6 (d : Nat) (Q : dR → dS → Prop) (σ : dS) : Prop := UT d 54 Q 6 (0, 0) [none, none, none, none, none] [] σ
theorem b54_0 {d : Nat} {Q : dR → dS → Prop} {x1 : Int} {σ : dS} (h : B54_1 d Q x1 (-1) 0 σ) : B54_0 d Q x1 σ := ut (m := M54) rfl h
theorem b54_1 {d : Nat} {Q : dR → dS → Prop} {x1 x2 x3 : Int} {σ : dS} (h : (((8 : Int) < x3) → B54_6 d Q σ) ∧ (¬ ((8 : Int) < x3) → ((x3 ≤ 0) → B54_2 d Q x1 x2 x3 σ) ∧ (¬ (x3 ≤ 0) → wI (d + 1) 47 [.inr (.inr 68)] σ Q (fun v1 σ1 => ((v1 = (1 : Int)) → B54_2 d Q x1 x2 x3 σ1) ∧ (¬ (v1 = (1 : Int)) → ∀ σ2 : dS, σ2 = rput σ1 43 5 x1 x3 → (((1 : Int) = 0 ∨ (1 : Int) = 1) ∧ Q (.inl (some (.inl 1))) σ2)))))) : B54_1 d Q x1 x2 x3 σ := ut (m := M54) rfl h
theorem b54_2 {d : Nat} {Q : dR → dS → Prop} {x1 x2 x3 : Int} {σ : dS} (h : ((x3 ≠ (8 : Int)) → B54_3 d Q x1 x2 x3 σ) ∧ (¬ (x3 ≠ (8 : Int)) → wI (d + 1) 48 [.inr (.inr 68), .inl 2] σ Q (fun v1 σ1 => (v1 = 0 ∨ v1 = 1) ∧ Q (.inl (some (.inl v1))) σ1))) : B54_2 d Q x1 x2 x3 σ := ut (m := M54) rfl h
theorem b54_3 {d : Nat} {Q : dR → dS → Prop} {x1 x2 x3 : Int} {σ : dS} (h : wI (d + 1) 58 [.inr (.inr 68)] σ Q (fun v1 σ1 => ((v1 ≠ (-1 : Int)) → B54_4 d Q x1 x2 x3 v1 σ1) ∧ (¬ (v1 ≠ (-1 : Int)) → ((0 : Int) = 0 ∨ (0 : Int) = 1) ∧ Q (.inl (some (.inl 0))) σ1))) : B54_3 d Q x1 x2 x3 σ := ut (m := M54) rfl h
theorem b54_4 {d : Nat} {Q : dR → dS → Prop} {x1 x2 x3 x4 : Int} {σ : dS} (h : ((x3 ≤ 0) → B54_5 d Q x1 x3 x4 σ) ∧ (¬ (x3 ≤ 0) → wI (d + 1) 28 [.inr (.inr 33), .inl x2, .inl x4] σ Q (fun v1 σ1 => ((v1 ≠ (-1 : Int)) → B54_5 d Q x1 x3 x4 σ1) ∧ (¬ (v1 ≠ (-1 : Int)) → wI (d + 1) 48 [.inr (.inr 68), .inl 6] σ1 Q (fun v2 σ2 => (v2 = 0 ∨ v2 = 1) ∧ Q (.inl (some (.inl v2))) σ2))))) : B54_4 d Q x1 x2 x3 x4 σ := ut (m := M54) rfl h
theorem b54_5 {d : Nat} {Q : dR → dS → Prop} {x1 x3 x4 : Int} {σ : dS} (h : ∀ σ1 : dS, σ1 = rput σ 45 40 (wr ((wr (x1 * 8)) + x3)) x4 → (∀ σ2 : dS, σ2 = up σ1 68 2 (wr ((σ1 68 2) + 1)) → (B54_1 d Q x1 x4 (wr (x3 + 1)) σ2))) : B54_5 d Q x1 x3 x4 σ := ut (m := M54) rfl h
theorem b54_6 {d : Nat} {Q : dR → dS → Prop} {σ : dS} (h : ((0 : Int) = 0 ∨ (0 : Int) = 1) ∧ Q (.inl (some (.inl 0))) σ) : B54_6 d Q σ := ut (m := M54) rfl h
theorem c54 {d : Nat} {Q : dR → dS → Prop} {K : Int → dS → Prop} {x1 : Int} {σ : dS} (h : B54_0 d (fun res σ1 => match res with | .inl (some (.inl v)) => K v σ1 | .inl _ => False | .inr e => Q (.inr e) σ1) x1 σ) : wI (d + 2) 54 [.inr (.inr 68), .inl x1] σ Q K := ut0 rfl (Nat.le_of_ble_eq_true rfl) h
/-- WingTrams$Reader.readRider()Z, 55 -/
def M55 (lb : Nat) : List Bool := [[true, false, false, false, false], [true, false, false, false, false], [true, true, false, false, false], [true, true, true, false, false], [true, true, true, true, false], [true, true, true, true, false], [true, true, true, true, true]].getD lb []
def B55_0 (d : Nat) (Q : dR → dS → Prop) (σ : dS) : Prop := UT d 55 Q 0 (0, 0) [some (.inr (.inr 68)), none, none, none, none] [] σ
def B55_1 (d : Nat) (Q : dR → dS → Prop) (σ : dS) : Prop := UT d 55 Q 1 (0, 0) [some (.inr (.inr 68)), none, none, none, none] [] σ
def B55_2 (d : Nat) (Q : dR → dS → Prop) (x1 : Int) (σ : dS) : Prop := UT d 55 Q 2 (0, 0) [some (.inr (.inr 68)), some (.inl x1), none, none, none] [] σ
def B55_3 (d : Nat) (Q : dR → dS → Prop) (x1 x2 : Int) (σ : dS) : Prop := UT d 55 Q 3 (0, 0) [some (.inr (.inr 68)), some (.inl x1), some (.inl x2), none, none] [] σ
def B55_4 (d : Nat) (Q : dR → dS → Prop) (x1 x2 x3 : Int) (σ : dS) : Prop := UT d 55 Q 4 (0, 0) [some (.inr (.inr 68)), some (.inl x1), some (.inl x2), some (.inl x3), none] [] σ
def B55_5 (d : Nat) (Q : dR → dS → Prop) (x1 x2 x3 s0 : Int) (σ : dS) : Prop := UT d 55 Q 5 (0, 0) [some (.inr (.inr 68)), some (.inl x1), some (.inl x2), some (.inl x3), none] [.inl s0] σ
def B55_6 (d : Nat) (Q : dR → dS → Prop) (x1 x2 x3 x4 : Int) (σ : dS) : Prop := UT d 55 Q 6 (0, 0) [some (.inr (.inr 68)), some (.inl x1), some (.inl x2), some (.inl x3), some (.inl x4)] [] σ
theorem b55_0 {d : Nat} {Q : dR → dS → Prop} {σ : dS} (h : (((σ 33 3) < (8 : Int)) → B55_1 d Q σ) ∧ (¬ ((σ 33 3) < (8 : Int)) → wI (d + 1) 48 [.inr (.inr 68), .inl 2] σ Q (fun v1 σ1 => (v1 = 0 ∨ v1 = 1) ∧ Q (.inl (some (.inl v1))) σ1))) : B55_0 d Q σ := ut (m := M55) rfl h
theorem b55_1 {d : Nat} {Q : dR → dS → Prop} {σ : dS} (h : ∀ σ1 : dS, σ1 = up σ 68 2 (wr ((σ 68 2) + 1)) → (wI (d + 1) 58 [.inr (.inr 68)] σ1 Q (fun v2 σ2 => ((v2 ≠ (-1 : Int)) → B55_2 d Q v2 σ2) ∧ (¬ (v2 ≠ (-1 : Int)) → ((0 : Int) = 0 ∨ (0 : Int) = 1) ∧ Q (.inl (some (.inl 0))) σ2)))) : B55_1 d Q σ := ut (m := M55) rfl h
theorem b55_2 {d : Nat} {Q : dR → dS → Prop} {x1 : Int} {σ : dS} (h : ∀ σ1 : dS, σ1 = up σ 68 2 (wr ((σ 68 2) + 1)) → (wI (d + 1) 58 [.inr (.inr 68)] σ1 Q (fun v2 σ2 => ((v2 ≠ (-1 : Int)) → B55_3 d Q x1 v2 σ2) ∧ (¬ (v2 ≠ (-1 : Int)) → ((0 : Int) = 0 ∨ (0 : Int) = 1) ∧ Q (.inl (some (.inl 0))) σ2)))) : B55_2 d Q x1 σ := ut (m := M55) rfl h
theorem b55_3 {d : Nat} {Q : dR → dS → Prop} {x1 x2 : Int} {σ : dS} (h : ∀ σ1 : dS, σ1 = up σ 68 2 (wr ((σ 68 2) + 1)) → (wI (d + 1) 57 [.inr (.inr 68), .inl 0, .inl 400] σ1 Q (fun v2 σ2 => ((v2 ≠ (-1 : Int)) → B55_4 d Q x1 x2 v2 σ2) ∧ (¬ (v2 ≠ (-1 : Int)) → B55_5 d Q x1 x2 v2 (-1) σ2)))) : B55_3 d Q x1 x2 σ := ut (m := M55) rfl h
theorem b55_4 {d : Nat} {Q : dR → dS → Prop} {x1 x2 x3 : Int} {σ : dS} (h : wI (d + 1) 57 [.inr (.inr 68), .inl 0, .inl 9] σ Q (fun v1 σ1 => B55_5 d Q x1 x2 x3 v1 σ1)) : B55_4 d Q x1 x2 x3 σ := ut (m := M55) rfl h
theorem b55_5 {d : Nat} {Q : dR → dS → Prop} {x1 x2 x3 s0 : Int} {σ : dS} (h : ((s0 ≠ (-1 : Int)) → B55_6 d Q x1 x2 x3 s0 σ) ∧ (¬ (s0 ≠ (-1 : Int)) → ((0 : Int) = 0 ∨ (0 : Int) = 1) ∧ Q (.inl (some (.inl 0))) σ)) : B55_5 d Q x1 x2 x3 s0 σ := ut (m := M55) rfl h
theorem b55_6 {d : Nat} {Q : dR → dS → Prop} {x1 x2 x3 x4 : Int} {σ : dS} (h : ∀ σ1 : dS, σ1 = rput σ 47 8 (σ 33 3) x1 → (∀ σ2 : dS, σ2 = rput σ1 49 8 (σ1 33 3) x2 → (∀ σ3 : dS, σ3 = rput σ2 51 8 (σ2 33 3) x3 → (∀ σ4 : dS, σ4 = rput σ3 53 8 (σ3 33 3) x4 → (∀ σ5 : dS, σ5 = up σ4 33 3 (wr ((σ4 33 3) + 1)) → (((1 : Int) = 0 ∨ (1 : Int) = 1) ∧ Q (.inl (some (.inl 1))) σ5)))))) : B55_6 d Q x1 x2 x3 x4 σ := ut (m := M55) rfl h
theorem c55 {d : Nat} {Q : dR → dS → Prop} {K : Int → dS → Prop} {σ : dS} (h : B55_0 d (fun res σ1 => match res with | .inl (some (.inl v)) => K v σ1 | .inl _ => False | .inr e => Q (.inr e) σ1) σ) : wI (d + 2) 55 [.inr (.inr 68)] σ Q K := ut0 rfl (Nat.le_of_ble_eq_true rfl) h
/-- WingTrams$Reader.readDawn()Z, 56 -/
def M56 (lb : Nat) : List Bool := [[true], [true], [false], [false]].getD lb []
def B56_0 (d : Nat) (Q : dR → dS → Prop) (σ : dS) : Prop := UT d 56 Q 0 (0, 0) [some (.inr (.inr 68))] [] σ
def B56_1 (d : Nat) (Q : dR → dS → Prop) (σ : dS) : Prop := UT d 56 Q 1 (0, 0) [some (.inr (.inr 68))] [] σ
def B56_2 (d : Nat) (Q : dR → dS → Prop) (σ : dS) : Prop := UT d 56 Q 2 (0, 0) [none] [] σ
def B56_3 (d : Nat) (Q : dR → dS → Prop) (s0 : Int) (σ : dS) : Prop := UT d 56 Q 3 (0, 0) [none] [.inl s0] σ
theorem b56_0 {d : Nat} {Q : dR → dS → Prop} {σ : dS} (h : (((σ 68 5) = 0) → B56_1 d Q σ) ∧ (¬ ((σ 68 5) = 0) → wI (d + 1) 48 [.inr (.inr 68), .inl 5] σ Q (fun v1 σ1 => (v1 = 0 ∨ v1 = 1) ∧ Q (.inl (some (.inl v1))) σ1))) : B56_0 d Q σ := ut (m := M56) rfl h
theorem b56_1 {d : Nat} {Q : dR → dS → Prop} {σ : dS} (h : ∀ σ1 : dS, σ1 = up σ 68 2 (wr ((σ 68 2) + 1)) → (((1 : Int) = 0 ∨ (1 : Int) = 1) ∧ (∀ σ2 : dS, σ2 = up σ1 68 5 1 → (wI (d + 1) 57 [.inr (.inr 68), .inl 60, .inl 600] σ2 Q (fun v3 σ3 => ∀ σ4 : dS, σ4 = up σ3 33 4 v3 → ((((σ4 33 4) = (-1 : Int)) → B56_2 d Q σ4) ∧ (¬ ((σ4 33 4) = (-1 : Int)) → B56_3 d Q 1 σ4))))))) : B56_1 d Q σ := ut (m := M56) rfl h
theorem b56_2 {d : Nat} {Q : dR → dS → Prop} {σ : dS} (h : B56_3 d Q 0 σ) : B56_2 d Q σ := ut (m := M56) rfl h
theorem b56_3 {d : Nat} {Q : dR → dS → Prop} {s0 : Int} {σ : dS} (h : (s0 = 0 ∨ s0 = 1) ∧ Q (.inl (some (.inl s0))) σ) : B56_3 d Q s0 σ := ut (m := M56) rfl h
theorem c56 {d : Nat} {Q : dR → dS → Prop} {K : Int → dS → Prop} {σ : dS} (h : B56_0 d (fun res σ1 => match res with | .inl (some (.inl v)) => K v σ1 | .inl _ => False | .inr e => Q (.inr e) σ1) σ) : wI (d + 2) 56 [.inr (.inr 68)] σ Q K := ut0 rfl (Nat.le_of_ble_eq_true rfl) h
/-- WingTrams$Reader.takeNumber(II)I, 57 -/
def M57 (lb : Nat) : List Bool := [[true, true, true, false], [true, true, true, false], [true, false, false, false], [true, false, false, true]].getD lb []
def B57_0 (d : Nat) (Q : dR → dS → Prop) (x1 x2 : Int) (σ : dS) : Prop := UT d 57 Q 0 (0, 0) [some (.inr (.inr 68)), some (.inl x1), some (.inl x2), none] [] σ
def B57_1 (d : Nat) (Q : dR → dS → Prop) (x1 x2 : Int) (σ : dS) : Prop := UT d 57 Q 1 (0, 0) [some (.inr (.inr 68)), some (.inl x1), some (.inl x2), none] [] σ
def B57_2 (d : Nat) (Q : dR → dS → Prop) (σ : dS) : Prop := UT d 57 Q 2 (0, 0) [some (.inr (.inr 68)), none, none, none] [] σ
def B57_3 (d : Nat) (Q : dR → dS → Prop) (x3 : Int) (σ : dS) : Prop := UT d 57 Q 3 (0, 0) [some (.inr (.inr 68)), none, none, some (.inl x3)] [] σ
theorem b57_0 {d : Nat} {Q : dR → dS → Prop} {x1 x2 : Int} {σ : dS} (h : wI (d + 1) 47 [.inr (.inr 68)] σ Q (fun v1 σ1 => ((v1 = (1 : Int)) → B57_1 d Q x1 x2 σ1) ∧ (¬ (v1 = (1 : Int)) → wI (d + 1) 48 [.inr (.inr 68), .inl 1] σ1 Q (fun v2 σ2 => Q (.inl (some (.inl (-1)))) σ2)))) : B57_0 d Q x1 x2 σ := ut (m := M57) rfl h
theorem b57_1 {d : Nat} {Q : dR → dS → Prop} {x1 x2 : Int} {σ : dS} (h : (((rat σ 67 701 (σ 68 2)) < x1) → B57_2 d Q σ) ∧ (¬ ((rat σ 67 701 (σ 68 2)) < x1) → (((rat σ 67 701 (σ 68 2)) ≤ x2) → B57_3 d Q (rat σ 67 701 (σ 68 2)) σ) ∧ (¬ ((rat σ 67 701 (σ 68 2)) ≤ x2) → B57_2 d Q σ))) : B57_1 d Q x1 x2 σ := ut (m := M57) rfl h
theorem b57_2 {d : Nat} {Q : dR → dS → Prop} {σ : dS} (h : wI (d + 1) 48 [.inr (.inr 68), .inl 2] σ Q (fun v1 σ1 => Q (.inl (some (.inl (-1)))) σ1)) : B57_2 d Q σ := ut (m := M57) rfl h
theorem b57_3 {d : Nat} {Q : dR → dS → Prop} {x3 : Int} {σ : dS} (h : ∀ σ1 : dS, σ1 = up σ 68 2 (wr ((σ 68 2) + 1)) → (Q (.inl (some (.inl x3))) σ1)) : B57_3 d Q x3 σ := ut (m := M57) rfl h
theorem c57 {d : Nat} {Q : dR → dS → Prop} {K : Int → dS → Prop} {x1 x2 : Int} {σ : dS} (h : B57_0 d (fun res σ1 => match res with | .inl (some (.inl v)) => K v σ1 | .inl _ => False | .inr e => Q (.inr e) σ1) x1 x2 σ) : wI (d + 2) 57 [.inr (.inr 68), .inl x1, .inl x2] σ Q K := ut0 rfl (Nat.le_of_ble_eq_true rfl) h
/-- WingTrams$Reader.roofHere()I, 58 -/
def M58 (lb : Nat) : List Bool := [[true, false], [true, true], [true, true], [false, true]].getD lb []
def B58_0 (d : Nat) (Q : dR → dS → Prop) (σ : dS) : Prop := UT d 58 Q 0 (0, 0) [some (.inr (.inr 68)), none] [] σ
def B58_1 (d : Nat) (Q : dR → dS → Prop) (x1 : Int) (σ : dS) : Prop := UT d 58 Q 1 (0, 0) [some (.inr (.inr 68)), some (.inl x1)] [] σ
def B58_2 (d : Nat) (Q : dR → dS → Prop) (x1 : Int) (σ : dS) : Prop := UT d 58 Q 2 (0, 0) [some (.inr (.inr 68)), some (.inl x1)] [] σ
def B58_3 (d : Nat) (Q : dR → dS → Prop) (x1 : Int) (σ : dS) : Prop := UT d 58 Q 3 (0, 0) [none, some (.inl x1)] [] σ
theorem b58_0 {d : Nat} {Q : dR → dS → Prop} {σ : dS} (h : wI (d + 1) 47 [.inr (.inr 68)] σ Q (fun v1 σ1 => ((v1 = (1 : Int)) → B58_1 d Q (rat σ 67 701 (σ 68 2)) σ1) ∧ (¬ (v1 = (1 : Int)) → wI (d + 1) 48 [.inr (.inr 68), .inl 1] σ1 Q (fun v2 σ2 => Q (.inl (some (.inl (-1)))) σ2)))) : B58_0 d Q σ := ut (m := M58) rfl h
theorem b58_1 {d : Nat} {Q : dR → dS → Prop} {x1 : Int} {σ : dS} (h : ((x1 ≤ (9999 : Int)) → B58_2 d Q x1 σ) ∧ (¬ (x1 ≤ (9999 : Int)) → wI (d + 1) 48 [.inr (.inr 68), .inl 2] σ Q (fun v1 σ1 => Q (.inl (some (.inl (-1)))) σ1))) : B58_1 d Q x1 σ := ut (m := M58) rfl h
theorem b58_2 {d : Nat} {Q : dR → dS → Prop} {x1 : Int} {σ : dS} (h : ((x1 < (σ 33 0)) → B58_3 d Q x1 σ) ∧ (¬ (x1 < (σ 33 0)) → wI (d + 1) 48 [.inr (.inr 68), .inl 3] σ Q (fun v1 σ1 => Q (.inl (some (.inl (-1)))) σ1))) : B58_2 d Q x1 σ := ut (m := M58) rfl h
theorem b58_3 {d : Nat} {Q : dR → dS → Prop} {x1 : Int} {σ : dS} (h : Q (.inl (some (.inl x1))) σ) : B58_3 d Q x1 σ := ut (m := M58) rfl h
theorem c58 {d : Nat} {Q : dR → dS → Prop} {K : Int → dS → Prop} {σ : dS} (h : B58_0 d (fun res σ1 => match res with | .inl (some (.inl v)) => K v σ1 | .inl _ => False | .inr e => Q (.inr e) σ1) σ) : wI (d + 2) 58 [.inr (.inr 68)] σ Q K := ut0 rfl (Nat.le_of_ble_eq_true rfl) h
/-- WingTrams$Reader.readHunts()Z, 59 -/
def M59 (lb : Nat) : List Bool := [[true], [true], [true]].getD lb []
def B59_0 (d : Nat) (Q : dR → dS → Prop) (σ : dS) : Prop := UT d 59 Q 0 (0, 0) [some (.inr (.inr 68))] [] σ
def B59_1 (d : Nat) (Q : dR → dS → Prop) (σ : dS) : Prop := UT d 59 Q 1 (0, 0) [some (.inr (.inr 68))] [] σ
def B59_2 (d : Nat) (Q : dR → dS → Prop) (σ : dS) : Prop := UT d 59 Q 2 (0, 0) [some (.inr (.inr 68))] [] σ
theorem b59_0 {d : Nat} {Q : dR → dS → Prop} {σ : dS} (h : (((σ 54 0) < (4 : Int)) → B59_1 d Q σ) ∧ (¬ ((σ 54 0) < (4 : Int)) → wI (d + 1) 48 [.inr (.inr 68), .inl 2] σ Q (fun v1 σ1 => (v1 = 0 ∨ v1 = 1) ∧ Q (.inl (some (.inl v1))) σ1))) : B59_0 d Q σ := ut (m := M59) rfl h
theorem b59_1 {d : Nat} {Q : dR → dS → Prop} {σ : dS} (h : ∀ σ1 : dS, σ1 = up σ 68 2 (wr ((σ 68 2) + 1)) → (wI (d + 1) 60 [.inr (.inr 68), .inl 0] σ1 Q (fun v2 σ2 => ((v2 ≠ 0) → B59_2 d Q σ2) ∧ (¬ (v2 ≠ 0) → ((0 : Int) = 0 ∨ (0 : Int) = 1) ∧ Q (.inl (some (.inl 0))) σ2)))) : B59_1 d Q σ := ut (m := M59) rfl h
theorem b59_2 {d : Nat} {Q : dR → dS → Prop} {σ : dS} (h : wV (d + 1) 17 [.inr (.inr 54)] σ Q (fun σ1 => ((1 : Int) = 0 ∨ (1 : Int) = 1) ∧ Q (.inl (some (.inl 1))) σ1)) : B59_2 d Q σ := ut (m := M59) rfl h
theorem c59 {d : Nat} {Q : dR → dS → Prop} {K : Int → dS → Prop} {σ : dS} (h : B59_0 d (fun res σ1 => match res with | .inl (some (.inl v)) => K v σ1 | .inl _ => False | .inr e => Q (.inr e) σ1) σ) : wI (d + 2) 59 [.inr (.inr 68)] σ Q K := ut0 rfl (Nat.le_of_ble_eq_true rfl) h
/-- WingTrams$Reader.readExpr(I)Z, 60 -/
def M60 (lb : Nat) : List Bool := [[true, true, false], [true, false, false], [true, false, false], [true, false, false], [false, false, false], [false, false, false], [true, true, false], [true, true, false], [true, true, true], [true, true, true], [false, false, false]].getD lb []
def B60_0 (d : Nat) (Q : dR → dS → Prop) (x1 : Int) (σ : dS) : Prop := UT d 60 Q 0 (0, 0) [some (.inr (.inr 68)), some (.inl x1), none] [] σ
def B60_1 (d : Nat) (Q : dR → dS → Prop) (σ : dS) : Prop := UT d 60 Q 1 (0, 0) [some (.inr (.inr 68)), none, none] [] σ
def B60_2 (d : Nat) (Q : dR → dS → Prop) (σ : dS) : Prop := UT d 60 Q 2 (0, 0) [some (.inr (.inr 68)), none, none] [] σ
def B60_3 (d : Nat) (Q : dR → dS → Prop) (s0 : Int) (σ : dS) : Prop := UT d 60 Q 3 (0, 0) [some (.inr (.inr 68)), none, none] [.inl s0] σ
def B60_4 (d : Nat) (Q : dR → dS → Prop) (σ : dS) : Prop := UT d 60 Q 4 (0, 0) [none, none, none] [.inr (.inr 68)] σ
def B60_5 (d : Nat) (Q : dR → dS → Prop) (s0 : Int) (σ : dS) : Prop := UT d 60 Q 5 (0, 0) [none, none, none] [.inl s0, .inr (.inr 68)] σ
def B60_6 (d : Nat) (Q : dR → dS → Prop) (x1 : Int) (σ : dS) : Prop := UT d 60 Q 6 (0, 0) [some (.inr (.inr 68)), some (.inl x1), none] [] σ
def B60_7 (d : Nat) (Q : dR → dS → Prop) (x1 : Int) (σ : dS) : Prop := UT d 60 Q 7 (0, 0) [some (.inr (.inr 68)), some (.inl x1), none] [] σ
def B60_8 (d : Nat) (Q : dR → dS → Prop) (x1 x2 : Int) (σ : dS) : Prop := UT d 60 Q 8 (0, 0) [some (.inr (.inr 68)), some (.inl x1), some (.inl x2)] [] σ
def B60_9 (d : Nat) (Q : dR → dS → Prop) (x1 x2 : Int) (σ : dS) : Prop := UT d 60 Q 9 (0, 0) [some (.inr (.inr 68)), some (.inl x1), some (.inl x2)] [] σ
def B60_10 (d : Nat) (Q : dR → dS → Prop) (σ : dS) : Prop := UT d 60 Q 10 (0, 0) [none, none, none] [] σ
theorem b60_0 {d : Nat} {Q : dR → dS → Prop} {x1 : Int} {σ : dS} (h : ((x1 < (6 : Int)) → B60_6 d Q x1 σ) ∧ (¬ (x1 < (6 : Int)) → wI (d + 1) 47 [.inr (.inr 68)] σ Q (fun v1 σ1 => ((v1 = (1 : Int)) → B60_1 d Q σ1) ∧ (¬ (v1 = (1 : Int)) → wI (d + 1) 47 [.inr (.inr 68)] σ1 Q (fun v2 σ2 => ((v2 = (40 : Int)) → B60_1 d Q σ2) ∧ (¬ (v2 = (40 : Int)) → wI (d + 1) 47 [.inr (.inr 68)] σ2 Q (fun v3 σ3 => ((v3 < (128 : Int)) → B60_2 d Q σ3) ∧ (¬ (v3 < (128 : Int)) → B60_1 d Q σ3)))))))) : B60_0 d Q x1 σ := ut (m := M60) rfl h
theorem b60_1 {d : Nat} {Q : dR → dS → Prop} {σ : dS} (h : B60_3 d Q 1 σ) : B60_1 d Q σ := ut (m := M60) rfl h
theorem b60_2 {d : Nat} {Q : dR → dS → Prop} {σ : dS} (h : B60_3 d Q 0 σ) : B60_2 d Q σ := ut (m := M60) rfl h
theorem b60_3 {d : Nat} {Q : dR → dS → Prop} {s0 : Int} {σ : dS} (h : ((s0 = 0) → B60_4 d Q σ) ∧ (¬ (s0 = 0) → B60_5 d Q 2 σ)) : B60_3 d Q s0 σ := ut (m := M60) rfl h
theorem b60_4 {d : Nat} {Q : dR → dS → Prop} {σ : dS} (h : B60_5 d Q 1 σ) : B60_4 d Q σ := ut (m := M60) rfl h
theorem b60_5 {d : Nat} {Q : dR → dS → Prop} {s0 : Int} {σ : dS} (h : wI (d + 1) 48 [.inr (.inr 68), .inl s0] σ Q (fun v1 σ1 => (v1 = 0 ∨ v1 = 1) ∧ Q (.inl (some (.inl v1))) σ1)) : B60_5 d Q s0 σ := ut (m := M60) rfl h
theorem b60_6 {d : Nat} {Q : dR → dS → Prop} {x1 : Int} {σ : dS} (h : wI (d + 1) 61 [.inr (.inr 68), .inl x1] σ Q (fun v1 σ1 => ((v1 ≠ 0) → B60_7 d Q x1 σ1) ∧ (¬ (v1 ≠ 0) → ((0 : Int) = 0 ∨ (0 : Int) = 1) ∧ Q (.inl (some (.inl 0))) σ1))) : B60_6 d Q x1 σ := ut (m := M60) rfl h
theorem b60_7 {d : Nat} {Q : dR → dS → Prop} {x1 : Int} {σ : dS} (h : B60_8 d Q x1 0 σ) : B60_7 d Q x1 σ := ut (m := M60) rfl h
theorem b60_8 {d : Nat} {Q : dR → dS → Prop} {x1 x2 : Int} {σ : dS} (h : (((700 : Int) ≤ x2) → B60_10 d Q σ) ∧ (¬ ((700 : Int) ≤ x2) → wI (d + 1) 47 [.inr (.inr 68)] σ Q (fun v1 σ1 => ((v1 ≠ (137 : Int)) → B60_10 d Q σ1) ∧ (¬ (v1 ≠ (137 : Int)) → ∀ σ2 : dS, σ2 = up σ1 68 2 (wr ((σ1 68 2) + 1)) → (wI (d + 1) 61 [.inr (.inr 68), .inl x1] σ2 Q (fun v3 σ3 => ((v3 ≠ 0) → B60_9 d Q x1 x2 σ3) ∧ (¬ (v3 ≠ 0) → ((0 : Int) = 0 ∨ (0 : Int) = 1) ∧ Q (.inl (some (.inl 0))) σ3))))))) : B60_8 d Q x1 x2 σ := ut (m := M60) rfl h
theorem b60_9 {d : Nat} {Q : dR → dS → Prop} {x1 x2 : Int} {σ : dS} (h : wV (d + 1) 16 [.inr (.inr 54), .inl (-137)] σ Q (fun σ1 => B60_8 d Q x1 (wr (x2 + 1)) σ1)) : B60_9 d Q x1 x2 σ := ut (m := M60) rfl h
theorem b60_10 {d : Nat} {Q : dR → dS → Prop} {σ : dS} (h : ((1 : Int) = 0 ∨ (1 : Int) = 1) ∧ Q (.inl (some (.inl 1))) σ) : B60_10 d Q σ := ut (m := M60) rfl h
theorem c60 {d : Nat} {Q : dR → dS → Prop} {K : Int → dS → Prop} {x1 : Int} {σ : dS} (h : B60_0 d (fun res σ1 => match res with | .inl (some (.inl v)) => K v σ1 | .inl _ => False | .inr e => Q (.inr e) σ1) x1 σ) : wI (d + 2) 60 [.inr (.inr 68), .inl x1] σ Q K := ut0 rfl (Nat.le_of_ble_eq_true rfl) h
/-- WingTrams$Reader.readAnd(I)Z, 61 -/
def M61 (lb : Nat) : List Bool := [[true, true, false], [true, true, false], [true, true, true], [true, true, true], [false, false, false]].getD lb []
def B61_0 (d : Nat) (Q : dR → dS → Prop) (x1 : Int) (σ : dS) : Prop := UT d 61 Q 0 (0, 0) [some (.inr (.inr 68)), some (.inl x1), none] [] σ
def B61_1 (d : Nat) (Q : dR → dS → Prop) (x1 : Int) (σ : dS) : Prop := UT d 61 Q 1 (0, 0) [some (.inr (.inr 68)), some (.inl x1), none] [] σ
def B61_2 (d : Nat) (Q : dR → dS → Prop) (x1 x2 : Int) (σ : dS) : Prop := UT d 61 Q 2 (0, 0) [some (.inr (.inr 68)), some (.inl x1), some (.inl x2)] [] σ
def B61_3 (d : Nat) (Q : dR → dS → Prop) (x1 x2 : Int) (σ : dS) : Prop := UT d 61 Q 3 (0, 0) [some (.inr (.inr 68)), some (.inl x1), some (.inl x2)] [] σ
def B61_4 (d : Nat) (Q : dR → dS → Prop) (σ : dS) : Prop := UT d 61 Q 4 (0, 0) [none, none, none] [] σ
theorem b61_0 {d : Nat} {Q : dR → dS → Prop} {x1 : Int} {σ : dS} (h : wI (d + 1) 62 [.inr (.inr 68), .inl x1] σ Q (fun v1 σ1 => ((v1 ≠ 0) → B61_1 d Q x1 σ1) ∧ (¬ (v1 ≠ 0) → ((0 : Int) = 0 ∨ (0 : Int) = 1) ∧ Q (.inl (some (.inl 0))) σ1))) : B61_0 d Q x1 σ := ut (m := M61) rfl h
theorem b61_1 {d : Nat} {Q : dR → dS → Prop} {x1 : Int} {σ : dS} (h : B61_2 d Q x1 0 σ) : B61_1 d Q x1 σ := ut (m := M61) rfl h
theorem b61_2 {d : Nat} {Q : dR → dS → Prop} {x1 x2 : Int} {σ : dS} (h : (((700 : Int) ≤ x2) → B61_4 d Q σ) ∧ (¬ ((700 : Int) ≤ x2) → wI (d + 1) 47 [.inr (.inr 68)] σ Q (fun v1 σ1 => ((v1 ≠ (138 : Int)) → B61_4 d Q σ1) ∧ (¬ (v1 ≠ (138 : Int)) → ∀ σ2 : dS, σ2 = up σ1 68 2 (wr ((σ1 68 2) + 1)) → (wI (d + 1) 62 [.inr (.inr 68), .inl x1] σ2 Q (fun v3 σ3 => ((v3 ≠ 0) → B61_3 d Q x1 x2 σ3) ∧ (¬ (v3 ≠ 0) → ((0 : Int) = 0 ∨ (0 : Int) = 1) ∧ Q (.inl (some (.inl 0))) σ3))))))) : B61_2 d Q x1 x2 σ := ut (m := M61) rfl h
theorem b61_3 {d : Nat} {Q : dR → dS → Prop} {x1 x2 : Int} {σ : dS} (h : wV (d + 1) 16 [.inr (.inr 54), .inl (-138)] σ Q (fun σ1 => B61_2 d Q x1 (wr (x2 + 1)) σ1)) : B61_3 d Q x1 x2 σ := ut (m := M61) rfl h
theorem b61_4 {d : Nat} {Q : dR → dS → Prop} {σ : dS} (h : ((1 : Int) = 0 ∨ (1 : Int) = 1) ∧ Q (.inl (some (.inl 1))) σ) : B61_4 d Q σ := ut (m := M61) rfl h
theorem c61 {d : Nat} {Q : dR → dS → Prop} {K : Int → dS → Prop} {x1 : Int} {σ : dS} (h : B61_0 d (fun res σ1 => match res with | .inl (some (.inl v)) => K v σ1 | .inl _ => False | .inr e => Q (.inr e) σ1) x1 σ) : wI (d + 2) 61 [.inr (.inr 68), .inl x1] σ Q K := ut0 rfl (Nat.le_of_ble_eq_true rfl) h
/-- WingTrams$Reader.readNot(I)Z, 62 -/
def M62 (lb : Nat) : List Bool := [[true, true, false, false], [true, true, true, true], [true, true, true, true], [true, true, true, false], [true, false, true, false], [true, false, true, true], [false, false, false, false]].getD lb []
def B62_0 (d : Nat) (Q : dR → dS → Prop) (x1 : Int) (σ : dS) : Prop := UT d 62 Q 0 (0, 0) [some (.inr (.inr 68)), some (.inl x1), none, none] [] σ
def B62_1 (d : Nat) (Q : dR → dS → Prop) (x1 x2 x3 : Int) (σ : dS) : Prop := UT d 62 Q 1 (0, 0) [some (.inr (.inr 68)), some (.inl x1), some (.inl x2), some (.inl x3)] [] σ
def B62_2 (d : Nat) (Q : dR → dS → Prop) (x1 x2 x3 : Int) (σ : dS) : Prop := UT d 62 Q 2 (0, 0) [some (.inr (.inr 68)), some (.inl x1), some (.inl x2), some (.inl x3)] [] σ
def B62_3 (d : Nat) (Q : dR → dS → Prop) (x1 x2 : Int) (σ : dS) : Prop := UT d 62 Q 3 (0, 0) [some (.inr (.inr 68)), some (.inl x1), some (.inl x2), none] [] σ
def B62_4 (d : Nat) (Q : dR → dS → Prop) (x2 : Int) (σ : dS) : Prop := UT d 62 Q 4 (0, 0) [some (.inr (.inr 68)), none, some (.inl x2), none] [] σ
def B62_5 (d : Nat) (Q : dR → dS → Prop) (x2 x3 : Int) (σ : dS) : Prop := UT d 62 Q 5 (0, 0) [some (.inr (.inr 68)), none, some (.inl x2), some (.inl x3)] [] σ
def B62_6 (d : Nat) (Q : dR → dS → Prop) (σ : dS) : Prop := UT d 62 Q 6 (0, 0) [none, none, none, none] [] σ
theorem b62_0 {d : Nat} {Q : dR → dS → Prop} {x1 : Int} {σ : dS} (h : B62_1 d Q x1 0 0 σ) : B62_0 d Q x1 σ := ut (m := M62) rfl h
theorem b62_1 {d : Nat} {Q : dR → dS → Prop} {x1 x2 x3 : Int} {σ : dS} (h : (((6 : Int) < x3) → B62_3 d Q x1 x2 σ) ∧ (¬ ((6 : Int) < x3) → wI (d + 1) 47 [.inr (.inr 68)] σ Q (fun v1 σ1 => ((v1 ≠ (139 : Int)) → B62_3 d Q x1 x2 σ1) ∧ (¬ (v1 ≠ (139 : Int)) → ((x3 ≠ (6 : Int)) → B62_2 d Q x1 x2 x3 σ1) ∧ (¬ (x3 ≠ (6 : Int)) → wI (d + 1) 48 [.inr (.inr 68), .inl 2] σ1 Q (fun v2 σ2 => (v2 = 0 ∨ v2 = 1) ∧ Q (.inl (some (.inl v2))) σ2)))))) : B62_1 d Q x1 x2 x3 σ := ut (m := M62) rfl h
theorem b62_2 {d : Nat} {Q : dR → dS → Prop} {x1 x2 x3 : Int} {σ : dS} (h : ∀ σ1 : dS, σ1 = up σ 68 2 (wr ((σ 68 2) + 1)) → (B62_1 d Q x1 (wr (x2 + 1)) (wr (x3 + 1)) σ1)) : B62_2 d Q x1 x2 x3 σ := ut (m := M62) rfl h
theorem b62_3 {d : Nat} {Q : dR → dS → Prop} {x1 x2 : Int} {σ : dS} (h : wI (d + 1) 63 [.inr (.inr 68), .inl x1] σ Q (fun v1 σ1 => ((v1 ≠ 0) → B62_4 d Q x2 σ1) ∧ (¬ (v1 ≠ 0) → ((0 : Int) = 0 ∨ (0 : Int) = 1) ∧ Q (.inl (some (.inl 0))) σ1))) : B62_3 d Q x1 x2 σ := ut (m := M62) rfl h
theorem b62_4 {d : Nat} {Q : dR → dS → Prop} {x2 : Int} {σ : dS} (h : B62_5 d Q x2 0 σ) : B62_4 d Q x2 σ := ut (m := M62) rfl h
theorem b62_5 {d : Nat} {Q : dR → dS → Prop} {x2 x3 : Int} {σ : dS} (h : ((x2 ≤ x3) → B62_6 d Q σ) ∧ (¬ (x2 ≤ x3) → wV (d + 1) 16 [.inr (.inr 54), .inl (-139)] σ Q (fun σ1 => B62_5 d Q x2 (wr (x3 + 1)) σ1))) : B62_5 d Q x2 x3 σ := ut (m := M62) rfl h
theorem b62_6 {d : Nat} {Q : dR → dS → Prop} {σ : dS} (h : ((1 : Int) = 0 ∨ (1 : Int) = 1) ∧ Q (.inl (some (.inl 1))) σ) : B62_6 d Q σ := ut (m := M62) rfl h
theorem c62 {d : Nat} {Q : dR → dS → Prop} {K : Int → dS → Prop} {x1 : Int} {σ : dS} (h : B62_0 d (fun res σ1 => match res with | .inl (some (.inl v)) => K v σ1 | .inl _ => False | .inr e => Q (.inr e) σ1) x1 σ) : wI (d + 2) 62 [.inr (.inr 68), .inl x1] σ Q K := ut0 rfl (Nat.le_of_ble_eq_true rfl) h
/-- WingTrams$Reader.readTest(I)Z, 63 -/
def M63 (lb : Nat) : List Bool := [[true, true, false], [true, true, false], [true, true, true], [true, false, true], [false, false, false]].getD lb []
def B63_0 (d : Nat) (Q : dR → dS → Prop) (x1 : Int) (σ : dS) : Prop := UT d 63 Q 0 (0, 0) [some (.inr (.inr 68)), some (.inl x1), none] [] σ
def B63_1 (d : Nat) (Q : dR → dS → Prop) (x1 : Int) (σ : dS) : Prop := UT d 63 Q 1 (0, 0) [some (.inr (.inr 68)), some (.inl x1), none] [] σ
def B63_2 (d : Nat) (Q : dR → dS → Prop) (x1 x2 : Int) (σ : dS) : Prop := UT d 63 Q 2 (0, 0) [some (.inr (.inr 68)), some (.inl x1), some (.inl x2)] [] σ
def B63_3 (d : Nat) (Q : dR → dS → Prop) (x2 : Int) (σ : dS) : Prop := UT d 63 Q 3 (0, 0) [some (.inr (.inr 68)), none, some (.inl x2)] [] σ
def B63_4 (d : Nat) (Q : dR → dS → Prop) (σ : dS) : Prop := UT d 63 Q 4 (0, 0) [none, none, none] [] σ
theorem b63_0 {d : Nat} {Q : dR → dS → Prop} {x1 : Int} {σ : dS} (h : wI (d + 1) 64 [.inr (.inr 68), .inl x1] σ Q (fun v1 σ1 => ((v1 ≠ 0) → B63_1 d Q x1 σ1) ∧ (¬ (v1 ≠ 0) → ((0 : Int) = 0 ∨ (0 : Int) = 1) ∧ Q (.inl (some (.inl 0))) σ1))) : B63_0 d Q x1 σ := ut (m := M63) rfl h
theorem b63_1 {d : Nat} {Q : dR → dS → Prop} {x1 : Int} {σ : dS} (h : wI (d + 1) 47 [.inr (.inr 68)] σ Q (fun v1 σ1 => ((v1 = (60 : Int)) → B63_2 d Q x1 v1 σ1) ∧ (¬ (v1 = (60 : Int)) → ((v1 ≠ (61 : Int)) → B63_4 d Q σ1) ∧ (¬ (v1 ≠ (61 : Int)) → B63_2 d Q x1 v1 σ1)))) : B63_1 d Q x1 σ := ut (m := M63) rfl h
theorem b63_2 {d : Nat} {Q : dR → dS → Prop} {x1 x2 : Int} {σ : dS} (h : ∀ σ1 : dS, σ1 = up σ 68 2 (wr ((σ 68 2) + 1)) → (wI (d + 1) 64 [.inr (.inr 68), .inl x1] σ1 Q (fun v2 σ2 => ((v2 ≠ 0) → B63_3 d Q x2 σ2) ∧ (¬ (v2 ≠ 0) → ((0 : Int) = 0 ∨ (0 : Int) = 1) ∧ Q (.inl (some (.inl 0))) σ2)))) : B63_2 d Q x1 x2 σ := ut (m := M63) rfl h
theorem b63_3 {d : Nat} {Q : dR → dS → Prop} {x2 : Int} {σ : dS} (h : wV (d + 1) 16 [.inr (.inr 54), .inl (wr (-x2))] σ Q (fun σ1 => B63_4 d Q σ1)) : B63_3 d Q x2 σ := ut (m := M63) rfl h
theorem b63_4 {d : Nat} {Q : dR → dS → Prop} {σ : dS} (h : ((1 : Int) = 0 ∨ (1 : Int) = 1) ∧ Q (.inl (some (.inl 1))) σ) : B63_4 d Q σ := ut (m := M63) rfl h
theorem c63 {d : Nat} {Q : dR → dS → Prop} {K : Int → dS → Prop} {x1 : Int} {σ : dS} (h : B63_0 d (fun res σ1 => match res with | .inl (some (.inl v)) => K v σ1 | .inl _ => False | .inr e => Q (.inr e) σ1) x1 σ) : wI (d + 2) 63 [.inr (.inr 68), .inl x1] σ Q K := ut0 rfl (Nat.le_of_ble_eq_true rfl) h
/-- WingTrams$Reader.readSum(I)Z, 64 -/
def M64 (lb : Nat) : List Bool := [[true, true, false, false], [true, true, false, false], [true, true, true, false], [true, true, true, false], [true, true, true, true], [false, false, false, false]].getD lb []
def B64_0 (d : Nat) (Q : dR → dS → Prop) (x1 : Int) (σ : dS) : Prop := UT d 64 Q 0 (0, 0) [some (.inr (.inr 68)), some (.inl x1), none, none] [] σ
def B64_1 (d : Nat) (Q : dR → dS → Prop) (x1 : Int) (σ : dS) : Prop := UT d 64 Q 1 (0, 0) [some (.inr (.inr 68)), some (.inl x1), none, none] [] σ
def B64_2 (d : Nat) (Q : dR → dS → Prop) (x1 x2 : Int) (σ : dS) : Prop := UT d 64 Q 2 (0, 0) [some (.inr (.inr 68)), some (.inl x1), some (.inl x2), none] [] σ
def B64_3 (d : Nat) (Q : dR → dS → Prop) (x1 x2 : Int) (σ : dS) : Prop := UT d 64 Q 3 (0, 0) [some (.inr (.inr 68)), some (.inl x1), some (.inl x2), none] [] σ
def B64_4 (d : Nat) (Q : dR → dS → Prop) (x1 x2 x3 : Int) (σ : dS) : Prop := UT d 64 Q 4 (0, 0) [some (.inr (.inr 68)), some (.inl x1), some (.inl x2), some (.inl x3)] [] σ
def B64_5 (d : Nat) (Q : dR → dS → Prop) (σ : dS) : Prop := UT d 64 Q 5 (0, 0) [none, none, none, none] [] σ
theorem b64_0 {d : Nat} {Q : dR → dS → Prop} {x1 : Int} {σ : dS} (h : wI (d + 1) 65 [.inr (.inr 68), .inl x1] σ Q (fun v1 σ1 => ((v1 ≠ 0) → B64_1 d Q x1 σ1) ∧ (¬ (v1 ≠ 0) → ((0 : Int) = 0 ∨ (0 : Int) = 1) ∧ Q (.inl (some (.inl 0))) σ1))) : B64_0 d Q x1 σ := ut (m := M64) rfl h
theorem b64_1 {d : Nat} {Q : dR → dS → Prop} {x1 : Int} {σ : dS} (h : B64_2 d Q x1 0 σ) : B64_1 d Q x1 σ := ut (m := M64) rfl h
theorem b64_2 {d : Nat} {Q : dR → dS → Prop} {x1 x2 : Int} {σ : dS} (h : (((700 : Int) ≤ x2) → B64_5 d Q σ) ∧ (¬ ((700 : Int) ≤ x2) → wI (d + 1) 47 [.inr (.inr 68)] σ Q (fun v1 σ1 => ((v1 = (43 : Int)) → B64_3 d Q x1 x2 σ1) ∧ (¬ (v1 = (43 : Int)) → wI (d + 1) 47 [.inr (.inr 68)] σ1 Q (fun v2 σ2 => ((v2 ≠ (45 : Int)) → B64_5 d Q σ2) ∧ (¬ (v2 ≠ (45 : Int)) → B64_3 d Q x1 x2 σ2)))))) : B64_2 d Q x1 x2 σ := ut (m := M64) rfl h
theorem b64_3 {d : Nat} {Q : dR → dS → Prop} {x1 x2 : Int} {σ : dS} (h : wI (d + 1) 47 [.inr (.inr 68)] σ Q (fun v1 σ1 => ∀ σ2 : dS, σ2 = up σ1 68 2 (wr ((σ1 68 2) + 1)) → (wI (d + 1) 65 [.inr (.inr 68), .inl x1] σ2 Q (fun v3 σ3 => ((v3 ≠ 0) → B64_4 d Q x1 x2 v1 σ3) ∧ (¬ (v3 ≠ 0) → ((0 : Int) = 0 ∨ (0 : Int) = 1) ∧ Q (.inl (some (.inl 0))) σ3))))) : B64_3 d Q x1 x2 σ := ut (m := M64) rfl h
theorem b64_4 {d : Nat} {Q : dR → dS → Prop} {x1 x2 x3 : Int} {σ : dS} (h : wV (d + 1) 16 [.inr (.inr 54), .inl (wr (-x3))] σ Q (fun σ1 => B64_2 d Q x1 (wr (x2 + 1)) σ1)) : B64_4 d Q x1 x2 x3 σ := ut (m := M64) rfl h
theorem b64_5 {d : Nat} {Q : dR → dS → Prop} {σ : dS} (h : ((1 : Int) = 0 ∨ (1 : Int) = 1) ∧ Q (.inl (some (.inl 1))) σ) : B64_5 d Q σ := ut (m := M64) rfl h
theorem c64 {d : Nat} {Q : dR → dS → Prop} {K : Int → dS → Prop} {x1 : Int} {σ : dS} (h : B64_0 d (fun res σ1 => match res with | .inl (some (.inl v)) => K v σ1 | .inl _ => False | .inr e => Q (.inr e) σ1) x1 σ) : wI (d + 2) 64 [.inr (.inr 68), .inl x1] σ Q K := ut0 rfl (Nat.le_of_ble_eq_true rfl) h
/-- WingTrams$Reader.readProduct(I)Z, 65 -/
def M65 (lb : Nat) : List Bool := [[true, true, false, false], [true, true, false, false], [true, true, true, false], [true, true, true, false], [true, true, true, true], [false, false, false, false]].getD lb []
def B65_0 (d : Nat) (Q : dR → dS → Prop) (x1 : Int) (σ : dS) : Prop := UT d 65 Q 0 (0, 0) [some (.inr (.inr 68)), some (.inl x1), none, none] [] σ
def B65_1 (d : Nat) (Q : dR → dS → Prop) (x1 : Int) (σ : dS) : Prop := UT d 65 Q 1 (0, 0) [some (.inr (.inr 68)), some (.inl x1), none, none] [] σ
def B65_2 (d : Nat) (Q : dR → dS → Prop) (x1 x2 : Int) (σ : dS) : Prop := UT d 65 Q 2 (0, 0) [some (.inr (.inr 68)), some (.inl x1), some (.inl x2), none] [] σ
def B65_3 (d : Nat) (Q : dR → dS → Prop) (x1 x2 : Int) (σ : dS) : Prop := UT d 65 Q 3 (0, 0) [some (.inr (.inr 68)), some (.inl x1), some (.inl x2), none] [] σ
def B65_4 (d : Nat) (Q : dR → dS → Prop) (x1 x2 x3 : Int) (σ : dS) : Prop := UT d 65 Q 4 (0, 0) [some (.inr (.inr 68)), some (.inl x1), some (.inl x2), some (.inl x3)] [] σ
def B65_5 (d : Nat) (Q : dR → dS → Prop) (σ : dS) : Prop := UT d 65 Q 5 (0, 0) [none, none, none, none] [] σ
theorem b65_0 {d : Nat} {Q : dR → dS → Prop} {x1 : Int} {σ : dS} (h : wI (d + 1) 66 [.inr (.inr 68), .inl x1] σ Q (fun v1 σ1 => ((v1 ≠ 0) → B65_1 d Q x1 σ1) ∧ (¬ (v1 ≠ 0) → ((0 : Int) = 0 ∨ (0 : Int) = 1) ∧ Q (.inl (some (.inl 0))) σ1))) : B65_0 d Q x1 σ := ut (m := M65) rfl h
theorem b65_1 {d : Nat} {Q : dR → dS → Prop} {x1 : Int} {σ : dS} (h : B65_2 d Q x1 0 σ) : B65_1 d Q x1 σ := ut (m := M65) rfl h
theorem b65_2 {d : Nat} {Q : dR → dS → Prop} {x1 x2 : Int} {σ : dS} (h : (((700 : Int) ≤ x2) → B65_5 d Q σ) ∧ (¬ ((700 : Int) ≤ x2) → wI (d + 1) 47 [.inr (.inr 68)] σ Q (fun v1 σ1 => ((v1 = (42 : Int)) → B65_3 d Q x1 x2 σ1) ∧ (¬ (v1 = (42 : Int)) → wI (d + 1) 47 [.inr (.inr 68)] σ1 Q (fun v2 σ2 => ((v2 ≠ (47 : Int)) → B65_5 d Q σ2) ∧ (¬ (v2 ≠ (47 : Int)) → B65_3 d Q x1 x2 σ2)))))) : B65_2 d Q x1 x2 σ := ut (m := M65) rfl h
theorem b65_3 {d : Nat} {Q : dR → dS → Prop} {x1 x2 : Int} {σ : dS} (h : wI (d + 1) 47 [.inr (.inr 68)] σ Q (fun v1 σ1 => ∀ σ2 : dS, σ2 = up σ1 68 2 (wr ((σ1 68 2) + 1)) → (wI (d + 1) 66 [.inr (.inr 68), .inl x1] σ2 Q (fun v3 σ3 => ((v3 ≠ 0) → B65_4 d Q x1 x2 v1 σ3) ∧ (¬ (v3 ≠ 0) → ((0 : Int) = 0 ∨ (0 : Int) = 1) ∧ Q (.inl (some (.inl 0))) σ3))))) : B65_3 d Q x1 x2 σ := ut (m := M65) rfl h
theorem b65_4 {d : Nat} {Q : dR → dS → Prop} {x1 x2 x3 : Int} {σ : dS} (h : wV (d + 1) 16 [.inr (.inr 54), .inl (wr (-x3))] σ Q (fun σ1 => B65_2 d Q x1 (wr (x2 + 1)) σ1)) : B65_4 d Q x1 x2 x3 σ := ut (m := M65) rfl h
theorem b65_5 {d : Nat} {Q : dR → dS → Prop} {σ : dS} (h : ((1 : Int) = 0 ∨ (1 : Int) = 1) ∧ Q (.inl (some (.inl 1))) σ) : B65_5 d Q σ := ut (m := M65) rfl h
theorem c65 {d : Nat} {Q : dR → dS → Prop} {K : Int → dS → Prop} {x1 : Int} {σ : dS} (h : B65_0 d (fun res σ1 => match res with | .inl (some (.inl v)) => K v σ1 | .inl _ => False | .inr e => Q (.inr e) σ1) x1 σ) : wI (d + 2) 65 [.inr (.inr 68), .inl x1] σ Q K := ut0 rfl (Nat.le_of_ble_eq_true rfl) h
/-- WingTrams$Reader.readPart(I)Z, 66 -/
def M66 (lb : Nat) : List Bool := [[true, true, false, false], [false, false, false, false], [false, false, false, false], [true, false, true, false], [false, false, false, false], [false, false, false, false], [true, false, true, false], [true, false, true, false], [true, false, false, false], [true, false, true, false]].getD lb []
def B66_0 (d : Nat) (Q : dR → dS → Prop) (x1 : Int) (σ : dS) : Prop := UT d 66 Q 0 (0, 0) [some (.inr (.inr 68)), some (.inl x1), none, none] [] σ
def B66_1 (d : Nat) (Q : dR → dS → Prop) (σ : dS) : Prop := UT d 66 Q 1 (0, 0) [none, none, none, none] [] σ
def B66_2 (d : Nat) (Q : dR → dS → Prop) (s0 : Int) (σ : dS) : Prop := UT d 66 Q 2 (0, 0) [none, none, none, none] [.inl s0] σ
def B66_3 (d : Nat) (Q : dR → dS → Prop) (x2 : Int) (σ : dS) : Prop := UT d 66 Q 3 (0, 0) [some (.inr (.inr 68)), none, some (.inl x2), none] [] σ
def B66_4 (d : Nat) (Q : dR → dS → Prop) (σ : dS) : Prop := UT d 66 Q 4 (0, 0) [none, none, none, none] [] σ
def B66_5 (d : Nat) (Q : dR → dS → Prop) (s0 : Int) (σ : dS) : Prop := UT d 66 Q 5 (0, 0) [none, none, none, none] [.inl s0] σ
def B66_6 (d : Nat) (Q : dR → dS → Prop) (x2 : Int) (σ : dS) : Prop := UT d 66 Q 6 (0, 0) [some (.inr (.inr 68)), none, some (.inl x2), none] [] σ
def B66_7 (d : Nat) (Q : dR → dS → Prop) (x2 : Int) (σ : dS) : Prop := UT d 66 Q 7 (0, 0) [some (.inr (.inr 68)), none, some (.inl x2), none] [] σ
def B66_8 (d : Nat) (Q : dR → dS → Prop) (σ : dS) : Prop := UT d 66 Q 8 (0, 0) [some (.inr (.inr 68)), none, none, none] [] σ
def B66_9 (d : Nat) (Q : dR → dS → Prop) (x2 : Int) (σ : dS) : Prop := UT d 66 Q 9 (0, 0) [some (.inr (.inr 68)), none, some (.inl x2), none] [] σ
theorem b66_0 {d : Nat} {Q : dR → dS → Prop} {x1 : Int} {σ : dS} (h : wI (d + 1) 47 [.inr (.inr 68)] σ Q (fun v1 σ1 => ((v1 ≠ (40 : Int)) → B66_3 d Q v1 σ1) ∧ (¬ (v1 ≠ (40 : Int)) → ∀ σ2 : dS, σ2 = up σ1 68 2 (wr ((σ1 68 2) + 1)) → (wI (d + 1) 60 [.inr (.inr 68), .inl (wr (x1 + 1))] σ2 Q (fun v3 σ3 => ((v3 = 0) → B66_1 d Q σ3) ∧ (¬ (v3 = 0) → wI (d + 1) 49 [.inr (.inr 68), .inl 41] σ3 Q (fun v4 σ4 => ((v4 = 0) → B66_1 d Q σ4) ∧ (¬ (v4 = 0) → B66_2 d Q 1 σ4)))))))) : B66_0 d Q x1 σ := ut (m := M66) rfl h
theorem b66_1 {d : Nat} {Q : dR → dS → Prop} {σ : dS} (h : B66_2 d Q 0 σ) : B66_1 d Q σ := ut (m := M66) rfl h
theorem b66_2 {d : Nat} {Q : dR → dS → Prop} {s0 : Int} {σ : dS} (h : (s0 = 0 ∨ s0 = 1) ∧ Q (.inl (some (.inl s0))) σ) : B66_2 d Q s0 σ := ut (m := M66) rfl h
theorem b66_3 {d : Nat} {Q : dR → dS → Prop} {x2 : Int} {σ : dS} (h : ((x2 ≠ (1 : Int)) → B66_6 d Q x2 σ) ∧ (¬ (x2 ≠ (1 : Int)) → wI (d + 1) 57 [.inr (.inr 68), .inl 0, .inl 9999] σ Q (fun v1 σ1 => wV (d + 1) 16 [.inr (.inr 54), .inl v1] σ1 Q (fun σ2 => ((v1 = (-1 : Int)) → B66_4 d Q σ2) ∧ (¬ (v1 = (-1 : Int)) → B66_5 d Q 1 σ2))))) : B66_3 d Q x2 σ := ut (m := M66) rfl h
theorem b66_4 {d : Nat} {Q : dR → dS → Prop} {σ : dS} (h : B66_5 d Q 0 σ) : B66_4 d Q σ := ut (m := M66) rfl h
theorem b66_5 {d : Nat} {Q : dR → dS → Prop} {s0 : Int} {σ : dS} (h : (s0 = 0 ∨ s0 = 1) ∧ Q (.inl (some (.inl s0))) σ) : B66_5 d Q s0 σ := ut (m := M66) rfl h
theorem b66_6 {d : Nat} {Q : dR → dS → Prop} {x2 : Int} {σ : dS} (h : (((128 : Int) ≤ x2) → B66_7 d Q x2 σ) ∧ (¬ ((128 : Int) ≤ x2) → wI (d + 1) 48 [.inr (.inr 68), .inl 1] σ Q (fun v1 σ1 => (v1 = 0 ∨ v1 = 1) ∧ Q (.inl (some (.inl v1))) σ1))) : B66_6 d Q x2 σ := ut (m := M66) rfl h
theorem b66_7 {d : Nat} {Q : dR → dS → Prop} {x2 : Int} {σ : dS} (h : ((x2 < (140 : Int)) → B66_8 d Q σ) ∧ (¬ (x2 < (140 : Int)) → ((x2 ≤ (146 : Int)) → B66_9 d Q x2 σ) ∧ (¬ (x2 ≤ (146 : Int)) → B66_8 d Q σ))) : B66_7 d Q x2 σ := ut (m := M66) rfl h
theorem b66_8 {d : Nat} {Q : dR → dS → Prop} {σ : dS} (h : wI (d + 1) 48 [.inr (.inr 68), .inl 3] σ Q (fun v1 σ1 => (v1 = 0 ∨ v1 = 1) ∧ Q (.inl (some (.inl v1))) σ1)) : B66_8 d Q σ := ut (m := M66) rfl h
theorem b66_9 {d : Nat} {Q : dR → dS → Prop} {x2 : Int} {σ : dS} (h : wV (d + 1) 16 [.inr (.inr 54), .inl (wr (-x2))] σ Q (fun σ1 => ∀ σ2 : dS, σ2 = up σ1 68 2 (wr ((σ1 68 2) + 1)) → (((1 : Int) = 0 ∨ (1 : Int) = 1) ∧ Q (.inl (some (.inl 1))) σ2))) : B66_9 d Q x2 σ := ut (m := M66) rfl h
theorem c66 {d : Nat} {Q : dR → dS → Prop} {K : Int → dS → Prop} {x1 : Int} {σ : dS} (h : B66_0 d (fun res σ1 => match res with | .inl (some (.inl v)) => K v σ1 | .inl _ => False | .inr e => Q (.inr e) σ1) x1 σ) : wI (d + 2) 66 [.inr (.inr 68), .inl x1] σ Q K := ut0 rfl (Nat.le_of_ble_eq_true rfl) h
