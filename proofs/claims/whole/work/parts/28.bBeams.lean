/-! BLOCKS AS CLEAN ROWS, by program (wip/whole/gen/g26.py) -/
/-- WingTrams$City.neighboursOf(I)I, 29 -/
def M29 (lb : Nat) : List Bool := [[true, true, false, false], [true, true, true, true], [true, true, false, true], [true, true, false, true], [false, false, true, false]].getD lb []
def B29_0 (d : Nat) (Q : dR → dS → Prop) (x1 : Int) (σ : dS) : Prop := UT d 29 Q 0 (0, 0) [some (.inr (.inr 5)), some (.inl x1), none, none] [] σ
def B29_1 (d : Nat) (Q : dR → dS → Prop) (x1 x2 x3 : Int) (σ : dS) : Prop := UT d 29 Q 1 (0, 0) [some (.inr (.inr 5)), some (.inl x1), some (.inl x2), some (.inl x3)] [] σ
def B29_2 (d : Nat) (Q : dR → dS → Prop) (x1 x3 s0 : Int) (σ : dS) : Prop := UT d 29 Q 2 (0, 0) [some (.inr (.inr 5)), some (.inl x1), none, some (.inl x3)] [.inl s0] σ
def B29_3 (d : Nat) (Q : dR → dS → Prop) (x1 x3 s0 s1 : Int) (σ : dS) : Prop := UT d 29 Q 3 (0, 0) [some (.inr (.inr 5)), some (.inl x1), none, some (.inl x3)] [.inl s0, .inl s1] σ
def B29_4 (d : Nat) (Q : dR → dS → Prop) (x2 : Int) (σ : dS) : Prop := UT d 29 Q 4 (0, 0) [none, none, some (.inl x2), none] [] σ
theorem b29_0 {d : Nat} {Q : dR → dS → Prop} {x1 : Int} {σ : dS} (h : B29_1 d Q x1 0 0 σ) : B29_0 d Q x1 σ := ut (m := M29) rfl h
theorem b29_1 {d : Nat} {Q : dR → dS → Prop} {x1 x2 x3 : Int} {σ : dS} (h : (((σ 5 0) ≤ x3) → B29_4 d Q x2 σ) ∧ (¬ ((σ 5 0) ≤ x3) → wI (d + 1) 28 [.inr (.inr 5), .inl x1, .inl x3] σ Q (fun v1 σ1 => ((v1 ≠ (-1 : Int)) → B29_2 d Q x1 x3 x2 σ1) ∧ (¬ (v1 ≠ (-1 : Int)) → B29_3 d Q x1 x3 0 x2 σ1)))) : B29_1 d Q x1 x2 x3 σ := ut (m := M29) rfl h
theorem b29_2 {d : Nat} {Q : dR → dS → Prop} {x1 x3 s0 : Int} {σ : dS} (h : B29_3 d Q x1 x3 1 s0 σ) : B29_2 d Q x1 x3 s0 σ := ut (m := M29) rfl h
theorem b29_3 {d : Nat} {Q : dR → dS → Prop} {x1 x3 s0 s1 : Int} {σ : dS} (h : B29_1 d Q x1 (wr (s1 + s0)) (wr (x3 + 1)) σ) : B29_3 d Q x1 x3 s0 s1 σ := ut (m := M29) rfl h
theorem b29_4 {d : Nat} {Q : dR → dS → Prop} {x2 : Int} {σ : dS} (h : Q (.inl (some (.inl x2))) σ) : B29_4 d Q x2 σ := ut (m := M29) rfl h
theorem c29 {d : Nat} {Q : dR → dS → Prop} {K : Int → dS → Prop} {x1 : Int} {σ : dS} (h : B29_0 d (fun res σ1 => match res with | .inl (some (.inl v)) => K v σ1 | .inl _ => False | .inr e => Q (.inr e) σ1) x1 σ) : wI (d + 2) 29 [.inr (.inr 5), .inl x1] σ Q K := ut0 rfl (Nat.le_of_ble_eq_true rfl) h
/-- WingTrams$City.ridersOf(I)I, 30 -/
def M30 (lb : Nat) : List Bool := [[true, true, false, false], [true, true, true, true], [true, true, false, true], [true, true, false, true], [false, false, true, false]].getD lb []
def B30_0 (d : Nat) (Q : dR → dS → Prop) (x1 : Int) (σ : dS) : Prop := UT d 30 Q 0 (0, 0) [some (.inr (.inr 5)), some (.inl x1), none, none] [] σ
def B30_1 (d : Nat) (Q : dR → dS → Prop) (x1 x2 x3 : Int) (σ : dS) : Prop := UT d 30 Q 1 (0, 0) [some (.inr (.inr 5)), some (.inl x1), some (.inl x2), some (.inl x3)] [] σ
def B30_2 (d : Nat) (Q : dR → dS → Prop) (x1 x3 s0 : Int) (σ : dS) : Prop := UT d 30 Q 2 (0, 0) [some (.inr (.inr 5)), some (.inl x1), none, some (.inl x3)] [.inl s0] σ
def B30_3 (d : Nat) (Q : dR → dS → Prop) (x1 x3 s0 s1 : Int) (σ : dS) : Prop := UT d 30 Q 3 (0, 0) [some (.inr (.inr 5)), some (.inl x1), none, some (.inl x3)] [.inl s0, .inl s1] σ
def B30_4 (d : Nat) (Q : dR → dS → Prop) (x2 : Int) (σ : dS) : Prop := UT d 30 Q 4 (0, 0) [none, none, some (.inl x2), none] [] σ
theorem b30_0 {d : Nat} {Q : dR → dS → Prop} {x1 : Int} {σ : dS} (h : B30_1 d Q x1 0 0 σ) : B30_0 d Q x1 σ := ut (m := M30) rfl h
theorem b30_1 {d : Nat} {Q : dR → dS → Prop} {x1 x2 x3 : Int} {σ : dS} (h : (((σ 5 3) ≤ x3) → B30_4 d Q x2 σ) ∧ (¬ ((σ 5 3) ≤ x3) → (((rat σ 21 8 x3) ≠ x1) → B30_2 d Q x1 x3 x2 σ) ∧ (¬ ((rat σ 21 8 x3) ≠ x1) → B30_3 d Q x1 x3 (shl 1 x3) x2 σ))) : B30_1 d Q x1 x2 x3 σ := ut (m := M30) rfl h
theorem b30_2 {d : Nat} {Q : dR → dS → Prop} {x1 x3 s0 : Int} {σ : dS} (h : B30_3 d Q x1 x3 0 s0 σ) : B30_2 d Q x1 x3 s0 σ := ut (m := M30) rfl h
theorem b30_3 {d : Nat} {Q : dR → dS → Prop} {x1 x3 s0 s1 : Int} {σ : dS} (h : B30_1 d Q x1 (ior s1 s0) (wr (x3 + 1)) σ) : B30_3 d Q x1 x3 s0 s1 σ := ut (m := M30) rfl h
theorem b30_4 {d : Nat} {Q : dR → dS → Prop} {x2 : Int} {σ : dS} (h : Q (.inl (some (.inl x2))) σ) : B30_4 d Q x2 σ := ut (m := M30) rfl h
theorem c30 {d : Nat} {Q : dR → dS → Prop} {K : Int → dS → Prop} {x1 : Int} {σ : dS} (h : B30_0 d (fun res σ1 => match res with | .inl (some (.inl v)) => K v σ1 | .inl _ => False | .inr e => Q (.inr e) σ1) x1 σ) : wI (d + 2) 30 [.inr (.inr 5), .inl x1] σ Q K := ut0 rfl (Nat.le_of_ble_eq_true rfl) h
/-- WingTrams$City.ridersWith(I)I, 31 -/
def M31 (lb : Nat) : List Bool := [[true, true, false, false], [true, true, true, true], [true, true, false, true], [true, true, false, true], [false, false, true, false]].getD lb []
def B31_0 (d : Nat) (Q : dR → dS → Prop) (x1 : Int) (σ : dS) : Prop := UT d 31 Q 0 (0, 0) [some (.inr (.inr 5)), some (.inl x1), none, none] [] σ
def B31_1 (d : Nat) (Q : dR → dS → Prop) (x1 x2 x3 : Int) (σ : dS) : Prop := UT d 31 Q 1 (0, 0) [some (.inr (.inr 5)), some (.inl x1), some (.inl x2), some (.inl x3)] [] σ
def B31_2 (d : Nat) (Q : dR → dS → Prop) (x1 x3 s0 : Int) (σ : dS) : Prop := UT d 31 Q 2 (0, 0) [some (.inr (.inr 5)), some (.inl x1), none, some (.inl x3)] [.inl s0] σ
def B31_3 (d : Nat) (Q : dR → dS → Prop) (x1 x3 s0 s1 : Int) (σ : dS) : Prop := UT d 31 Q 3 (0, 0) [some (.inr (.inr 5)), some (.inl x1), none, some (.inl x3)] [.inl s0, .inl s1] σ
def B31_4 (d : Nat) (Q : dR → dS → Prop) (x2 : Int) (σ : dS) : Prop := UT d 31 Q 4 (0, 0) [none, none, some (.inl x2), none] [] σ
theorem b31_0 {d : Nat} {Q : dR → dS → Prop} {x1 : Int} {σ : dS} (h : B31_1 d Q x1 0 0 σ) : B31_0 d Q x1 σ := ut (m := M31) rfl h
theorem b31_1 {d : Nat} {Q : dR → dS → Prop} {x1 x2 x3 : Int} {σ : dS} (h : (((σ 5 3) ≤ x3) → B31_4 d Q x2 σ) ∧ (¬ ((σ 5 3) ≤ x3) → (((rat σ 25 8 x3) < x1) → B31_2 d Q x1 x3 x2 σ) ∧ (¬ ((rat σ 25 8 x3) < x1) → B31_3 d Q x1 x3 1 x2 σ))) : B31_1 d Q x1 x2 x3 σ := ut (m := M31) rfl h
theorem b31_2 {d : Nat} {Q : dR → dS → Prop} {x1 x3 s0 : Int} {σ : dS} (h : B31_3 d Q x1 x3 0 s0 σ) : B31_2 d Q x1 x3 s0 σ := ut (m := M31) rfl h
theorem b31_3 {d : Nat} {Q : dR → dS → Prop} {x1 x3 s0 s1 : Int} {σ : dS} (h : B31_1 d Q x1 (wr (s1 + s0)) (wr (x3 + 1)) σ) : B31_3 d Q x1 x3 s0 s1 σ := ut (m := M31) rfl h
theorem b31_4 {d : Nat} {Q : dR → dS → Prop} {x2 : Int} {σ : dS} (h : Q (.inl (some (.inl x2))) σ) : B31_4 d Q x2 σ := ut (m := M31) rfl h
theorem c31 {d : Nat} {Q : dR → dS → Prop} {K : Int → dS → Prop} {x1 : Int} {σ : dS} (h : B31_0 d (fun res σ1 => match res with | .inl (some (.inl v)) => K v σ1 | .inl _ => False | .inr e => Q (.inr e) σ1) x1 σ) : wI (d + 2) 31 [.inr (.inr 5), .inl x1] σ Q K := ut0 rfl (Nat.le_of_ble_eq_true rfl) h
/-- WingTrams$Beams.choose(II)V, 92 -/
def M92 (lb : Nat) : List Bool := [[true, true, true, false, false], [true, true, true, true, false], [true, true, false, false, false], [true, true, false, true, false], [true, true, false, true, false], [false, false, false, false, false]].getD lb []
def B92_0 (d : Nat) (Q : dR → dS → Prop) (x1 x2 : Int) (σ : dS) : Prop := UT d 92 Q 0 (0, 0) [some (.inr (.inr 142)), some (.inl x1), some (.inl x2), none, none] [] σ
def B92_1 (d : Nat) (Q : dR → dS → Prop) (x1 x2 x3 : Int) (σ : dS) : Prop := UT d 92 Q 1 (0, 0) [some (.inr (.inr 142)), some (.inl x1), some (.inl x2), some (.inl x3), none] [] σ
def B92_2 (d : Nat) (Q : dR → dS → Prop) (x1 : Int) (σ : dS) : Prop := UT d 92 Q 2 (0, 0) [some (.inr (.inr 142)), some (.inl x1), none, none, none] [] σ
def B92_3 (d : Nat) (Q : dR → dS → Prop) (x1 x3 : Int) (σ : dS) : Prop := UT d 92 Q 3 (0, 0) [some (.inr (.inr 142)), some (.inl x1), none, some (.inl x3), none] [] σ
def B92_4 (d : Nat) (Q : dR → dS → Prop) (x1 x3 : Int) (σ : dS) : Prop := UT d 92 Q 4 (0, 0) [some (.inr (.inr 142)), some (.inl x1), none, some (.inl x3), none] [] σ
def B92_5 (d : Nat) (Q : dR → dS → Prop) (σ : dS) : Prop := UT d 92 Q 5 (0, 0) [none, none, none, none, none] [] σ
theorem b92_0 {d : Nat} {Q : dR → dS → Prop} {x1 x2 : Int} {σ : dS} (h : ∀ σ1 : dS, σ1 = up σ 142 3 (-1) → (∀ σ2 : dS, σ2 = up σ1 142 4 (-1) → (wV (d + 1) 93 [.inr (.inr 142)] σ2 Q (fun σ3 => B92_1 d Q x1 x2 0 σ3)))) : B92_0 d Q x1 x2 σ := ut (m := M92) rfl h
theorem b92_1 {d : Nat} {Q : dR → dS → Prop} {x1 x2 x3 : Int} {σ : dS} (h : (((σ 5 0) ≤ x3) → B92_2 d Q x1 σ) ∧ (¬ ((σ 5 0) ≤ x3) → wI (d + 1) 95 [.inr (.inr 142), .inl x3, .inl x2] σ Q (fun v1 σ1 => ∀ σ2 : dS, σ2 = rput σ1 146 10 x3 v1 → (B92_1 d Q x1 x2 (wr (x3 + 1)) σ2)))) : B92_1 d Q x1 x2 x3 σ := ut (m := M92) rfl h
theorem b92_2 {d : Nat} {Q : dR → dS → Prop} {x1 : Int} {σ : dS} (h : B92_3 d Q x1 0 σ) : B92_2 d Q x1 σ := ut (m := M92) rfl h
theorem b92_3 {d : Nat} {Q : dR → dS → Prop} {x1 x3 : Int} {σ : dS} (h : (((shl 1 (σ 5 0)) ≤ x3) → B92_5 d Q σ) ∧ (¬ ((shl 1 (σ 5 0)) ≤ x3) → wI (d + 1) 0 [.inl x3] σ Q (fun v1 σ1 => ((v1 ≠ x1) → B92_4 d Q x1 x3 σ1) ∧ (¬ (v1 ≠ x1) → wI (d + 1) 96 [.inr (.inr 142), .inl x3] σ1 Q (fun v2 σ2 => wI (d + 1) 0 [.inl v2] σ2 Q (fun v3 σ3 => ((v3 ≤ (σ3 142 3)) → B92_4 d Q x1 x3 σ3) ∧ (¬ (v3 ≤ (σ3 142 3)) → ∀ σ4 : dS, σ4 = up σ3 142 3 v3 → (∀ σ5 : dS, σ5 = up σ4 142 4 x3 → (B92_4 d Q x1 x3 σ5))))))))) : B92_3 d Q x1 x3 σ := ut (m := M92) rfl h
theorem b92_4 {d : Nat} {Q : dR → dS → Prop} {x1 x3 : Int} {σ : dS} (h : B92_3 d Q x1 (wr (x3 + 1)) σ) : B92_4 d Q x1 x3 σ := ut (m := M92) rfl h
theorem b92_5 {d : Nat} {Q : dR → dS → Prop} {σ : dS} (h : Q (.inl none) σ) : B92_5 d Q σ := ut (m := M92) rfl h
theorem c92 {d : Nat} {Q : dR → dS → Prop} {K : dS → Prop} {x1 x2 : Int} {σ : dS} (h : B92_0 d (fun res σ1 => match res with | .inl none => K σ1 | .inl (some _) => False | .inr e => Q (.inr e) σ1) x1 x2 σ) : wV (d + 2) 92 [.inr (.inr 142), .inl x1, .inl x2] σ Q K := ut0 rfl (Nat.le_of_ble_eq_true rfl) h
/-- WingTrams$Beams.measure()V, 93 -/
def M93 (lb : Nat) : List Bool := [[true, false, false, false, false], [true, true, false, false, false], [true, true, true, false, false], [true, true, true, true, false], [true, true, true, false, false], [true, true, true, false, true], [true, true, true, false, false], [true, true, false, false, false], [true, false, false, false, false], [true, true, false, false, false], [false, false, false, false, false]].getD lb []
def B93_0 (d : Nat) (Q : dR → dS → Prop) (σ : dS) : Prop := UT d 93 Q 0 (0, 0) [some (.inr (.inr 142)), none, none, none, none] [] σ
def B93_1 (d : Nat) (Q : dR → dS → Prop) (x1 : Int) (σ : dS) : Prop := UT d 93 Q 1 (0, 0) [some (.inr (.inr 142)), some (.inl x1), none, none, none] [] σ
def B93_2 (d : Nat) (Q : dR → dS → Prop) (x1 x2 : Int) (σ : dS) : Prop := UT d 93 Q 2 (0, 0) [some (.inr (.inr 142)), some (.inl x1), some (.inl x2), none, none] [] σ
def B93_3 (d : Nat) (Q : dR → dS → Prop) (x1 x2 x3 : Int) (σ : dS) : Prop := UT d 93 Q 3 (0, 0) [some (.inr (.inr 142)), some (.inl x1), some (.inl x2), some (.inl x3), none] [] σ
def B93_4 (d : Nat) (Q : dR → dS → Prop) (x1 x2 s0 : Int) (σ : dS) : Prop := UT d 93 Q 4 (0, 0) [some (.inr (.inr 142)), some (.inl x1), some (.inl x2), none, none] [.inl s0] σ
def B93_5 (d : Nat) (Q : dR → dS → Prop) (x1 x2 x4 s0 : Int) (σ : dS) : Prop := UT d 93 Q 5 (0, 0) [some (.inr (.inr 142)), some (.inl x1), some (.inl x2), none, some (.inl x4)] [.inl s0, .inr (.inr 143)] σ
def B93_6 (d : Nat) (Q : dR → dS → Prop) (x1 x2 s0 s1 : Int) (σ : dS) : Prop := UT d 93 Q 6 (0, 0) [some (.inr (.inr 142)), some (.inl x1), some (.inl x2), none, none] [.inl s0, .inl s1, .inr (.inr 143)] σ
def B93_7 (d : Nat) (Q : dR → dS → Prop) (x1 : Int) (σ : dS) : Prop := UT d 93 Q 7 (0, 0) [some (.inr (.inr 142)), some (.inl x1), none, none, none] [] σ
def B93_8 (d : Nat) (Q : dR → dS → Prop) (σ : dS) : Prop := UT d 93 Q 8 (0, 0) [some (.inr (.inr 142)), none, none, none, none] [] σ
def B93_9 (d : Nat) (Q : dR → dS → Prop) (x1 : Int) (σ : dS) : Prop := UT d 93 Q 9 (0, 0) [some (.inr (.inr 142)), some (.inl x1), none, none, none] [] σ
def B93_10 (d : Nat) (Q : dR → dS → Prop) (σ : dS) : Prop := UT d 93 Q 10 (0, 0) [none, none, none, none, none] [] σ
theorem b93_0 {d : Nat} {Q : dR → dS → Prop} {σ : dS} (h : B93_1 d Q 0 σ) : B93_0 d Q σ := ut (m := M93) rfl h
theorem b93_1 {d : Nat} {Q : dR → dS → Prop} {x1 : Int} {σ : dS} (h : (((σ 5 0) ≤ x1) → B93_8 d Q σ) ∧ (¬ ((σ 5 0) ≤ x1) → B93_2 d Q x1 0 σ)) : B93_1 d Q x1 σ := ut (m := M93) rfl h
theorem b93_2 {d : Nat} {Q : dR → dS → Prop} {x1 x2 : Int} {σ : dS} (h : (((σ 5 0) ≤ x2) → B93_7 d Q x1 σ) ∧ (¬ ((σ 5 0) ≤ x2) → wI (d + 1) 28 [.inr (.inr 5), .inl x1, .inl x2] σ Q (fun v1 σ1 => ((v1 ≠ (-1 : Int)) → B93_3 d Q x1 x2 v1 σ1) ∧ (¬ (v1 ≠ (-1 : Int)) → B93_4 d Q x1 x2 10000 σ1)))) : B93_2 d Q x1 x2 σ := ut (m := M93) rfl h
theorem b93_3 {d : Nat} {Q : dR → dS → Prop} {x1 x2 x3 : Int} {σ : dS} (h : B93_4 d Q x1 x2 x3 σ) : B93_3 d Q x1 x2 x3 σ := ut (m := M93) rfl h
theorem b93_4 {d : Nat} {Q : dR → dS → Prop} {x1 x2 s0 : Int} {σ : dS} (h : ((x1 ≠ x2) → B93_5 d Q x1 x2 s0 (wr ((wr (x1 * 10)) + x2)) σ) ∧ (¬ (x1 ≠ x2) → B93_6 d Q x1 x2 0 (wr ((wr (x1 * 10)) + x2)) σ)) : B93_4 d Q x1 x2 s0 σ := ut (m := M93) rfl h
theorem b93_5 {d : Nat} {Q : dR → dS → Prop} {x1 x2 x4 s0 : Int} {σ : dS} (h : B93_6 d Q x1 x2 x4 s0 σ) : B93_5 d Q x1 x2 x4 s0 σ := ut (m := M93) rfl h
theorem b93_6 {d : Nat} {Q : dR → dS → Prop} {x1 x2 s0 s1 : Int} {σ : dS} (h : ∀ σ1 : dS, σ1 = rput σ 144 100 s1 s0 → (B93_2 d Q x1 (wr (x2 + 1)) σ1)) : B93_6 d Q x1 x2 s0 s1 σ := ut (m := M93) rfl h
theorem b93_7 {d : Nat} {Q : dR → dS → Prop} {x1 : Int} {σ : dS} (h : B93_1 d Q (wr (x1 + 1)) σ) : B93_7 d Q x1 σ := ut (m := M93) rfl h
theorem b93_8 {d : Nat} {Q : dR → dS → Prop} {σ : dS} (h : B93_9 d Q 0 σ) : B93_8 d Q σ := ut (m := M93) rfl h
theorem b93_9 {d : Nat} {Q : dR → dS → Prop} {x1 : Int} {σ : dS} (h : (((σ 5 0) ≤ x1) → B93_10 d Q σ) ∧ (¬ ((σ 5 0) ≤ x1) → wV (d + 1) 94 [.inr (.inr 142), .inl x1] σ Q (fun σ1 => B93_9 d Q (wr (x1 + 1)) σ1))) : B93_9 d Q x1 σ := ut (m := M93) rfl h
theorem b93_10 {d : Nat} {Q : dR → dS → Prop} {σ : dS} (h : Q (.inl none) σ) : B93_10 d Q σ := ut (m := M93) rfl h
theorem c93 {d : Nat} {Q : dR → dS → Prop} {K : dS → Prop} {σ : dS} (h : B93_0 d (fun res σ1 => match res with | .inl none => K σ1 | .inl (some _) => False | .inr e => Q (.inr e) σ1) σ) : wV (d + 2) 93 [.inr (.inr 142)] σ Q K := ut0 rfl (Nat.le_of_ble_eq_true rfl) h
/-- WingTrams$Beams.shorten(I)V, 94 -/
def M94 (lb : Nat) : List Bool := [[true, true, false, false, false], [true, true, true, false, false], [true, true, true, true, false], [true, true, true, true, false], [true, true, true, false, false], [false, false, false, false, false]].getD lb []
def B94_0 (d : Nat) (Q : dR → dS → Prop) (x1 : Int) (σ : dS) : Prop := UT d 94 Q 0 (0, 0) [some (.inr (.inr 142)), some (.inl x1), none, none, none] [] σ
def B94_1 (d : Nat) (Q : dR → dS → Prop) (x1 x2 : Int) (σ : dS) : Prop := UT d 94 Q 1 (0, 0) [some (.inr (.inr 142)), some (.inl x1), some (.inl x2), none, none] [] σ
def B94_2 (d : Nat) (Q : dR → dS → Prop) (x1 x2 x3 : Int) (σ : dS) : Prop := UT d 94 Q 2 (0, 0) [some (.inr (.inr 142)), some (.inl x1), some (.inl x2), some (.inl x3), none] [] σ
def B94_3 (d : Nat) (Q : dR → dS → Prop) (x1 x2 x3 : Int) (σ : dS) : Prop := UT d 94 Q 3 (0, 0) [some (.inr (.inr 142)), some (.inl x1), some (.inl x2), some (.inl x3), none] [] σ
def B94_4 (d : Nat) (Q : dR → dS → Prop) (x1 x2 : Int) (σ : dS) : Prop := UT d 94 Q 4 (0, 0) [some (.inr (.inr 142)), some (.inl x1), some (.inl x2), none, none] [] σ
def B94_5 (d : Nat) (Q : dR → dS → Prop) (σ : dS) : Prop := UT d 94 Q 5 (0, 0) [none, none, none, none, none] [] σ
theorem b94_0 {d : Nat} {Q : dR → dS → Prop} {x1 : Int} {σ : dS} (h : B94_1 d Q x1 0 σ) : B94_0 d Q x1 σ := ut (m := M94) rfl h
theorem b94_1 {d : Nat} {Q : dR → dS → Prop} {x1 x2 : Int} {σ : dS} (h : (((σ 5 0) ≤ x2) → B94_5 d Q σ) ∧ (¬ ((σ 5 0) ≤ x2) → B94_2 d Q x1 x2 0 σ)) : B94_1 d Q x1 x2 σ := ut (m := M94) rfl h
theorem b94_2 {d : Nat} {Q : dR → dS → Prop} {x1 x2 x3 : Int} {σ : dS} (h : (((σ 5 0) ≤ x3) → B94_4 d Q x1 x2 σ) ∧ (¬ ((σ 5 0) ≤ x3) → (((rat σ 144 100 (wr ((wr (x2 * 10)) + x3))) ≤ (wr ((rat σ 144 100 (wr ((wr (x2 * 10)) + x1))) + (rat σ 144 100 (wr ((wr (x1 * 10)) + x3)))))) → B94_3 d Q x1 x2 x3 σ) ∧ (¬ ((rat σ 144 100 (wr ((wr (x2 * 10)) + x3))) ≤ (wr ((rat σ 144 100 (wr ((wr (x2 * 10)) + x1))) + (rat σ 144 100 (wr ((wr (x1 * 10)) + x3)))))) → ∀ σ1 : dS, σ1 = rput σ 144 100 (wr ((wr (x2 * 10)) + x3)) (wr ((rat σ 144 100 (wr ((wr (x2 * 10)) + x1))) + (rat σ 144 100 (wr ((wr (x1 * 10)) + x3))))) → (B94_3 d Q x1 x2 x3 σ1)))) : B94_2 d Q x1 x2 x3 σ := ut (m := M94) rfl h
theorem b94_3 {d : Nat} {Q : dR → dS → Prop} {x1 x2 x3 : Int} {σ : dS} (h : B94_2 d Q x1 x2 (wr (x3 + 1)) σ) : B94_3 d Q x1 x2 x3 σ := ut (m := M94) rfl h
theorem b94_4 {d : Nat} {Q : dR → dS → Prop} {x1 x2 : Int} {σ : dS} (h : B94_1 d Q x1 (wr (x2 + 1)) σ) : B94_4 d Q x1 x2 σ := ut (m := M94) rfl h
theorem b94_5 {d : Nat} {Q : dR → dS → Prop} {σ : dS} (h : Q (.inl none) σ) : B94_5 d Q σ := ut (m := M94) rfl h
theorem c94 {d : Nat} {Q : dR → dS → Prop} {K : dS → Prop} {x1 : Int} {σ : dS} (h : B94_0 d (fun res σ1 => match res with | .inl none => K σ1 | .inl (some _) => False | .inr e => Q (.inr e) σ1) x1 σ) : wV (d + 2) 94 [.inr (.inr 142), .inl x1] σ Q K := ut0 rfl (Nat.le_of_ble_eq_true rfl) h
/-- WingTrams$Beams.ridersNear(II)I, 95 -/
def M95 (lb : Nat) : List Bool := [[true, true, true, false, false], [true, true, true, true, true], [true, true, true, false, true], [true, true, true, false, true], [false, false, false, true, false]].getD lb []
def B95_0 (d : Nat) (Q : dR → dS → Prop) (x1 x2 : Int) (σ : dS) : Prop := UT d 95 Q 0 (0, 0) [some (.inr (.inr 142)), some (.inl x1), some (.inl x2), none, none] [] σ
def B95_1 (d : Nat) (Q : dR → dS → Prop) (x1 x2 x3 x4 : Int) (σ : dS) : Prop := UT d 95 Q 1 (0, 0) [some (.inr (.inr 142)), some (.inl x1), some (.inl x2), some (.inl x3), some (.inl x4)] [] σ
def B95_2 (d : Nat) (Q : dR → dS → Prop) (x1 x2 x4 s0 : Int) (σ : dS) : Prop := UT d 95 Q 2 (0, 0) [some (.inr (.inr 142)), some (.inl x1), some (.inl x2), none, some (.inl x4)] [.inl s0] σ
def B95_3 (d : Nat) (Q : dR → dS → Prop) (x1 x2 x4 s0 s1 : Int) (σ : dS) : Prop := UT d 95 Q 3 (0, 0) [some (.inr (.inr 142)), some (.inl x1), some (.inl x2), none, some (.inl x4)] [.inl s0, .inl s1] σ
def B95_4 (d : Nat) (Q : dR → dS → Prop) (x3 : Int) (σ : dS) : Prop := UT d 95 Q 4 (0, 0) [none, none, none, some (.inl x3), none] [] σ
theorem b95_0 {d : Nat} {Q : dR → dS → Prop} {x1 x2 : Int} {σ : dS} (h : B95_1 d Q x1 x2 0 0 σ) : B95_0 d Q x1 x2 σ := ut (m := M95) rfl h
theorem b95_1 {d : Nat} {Q : dR → dS → Prop} {x1 x2 x3 x4 : Int} {σ : dS} (h : (((σ 5 3) ≤ x4) → B95_4 d Q x3 σ) ∧ (¬ ((σ 5 3) ≤ x4) → ((x2 < (rat σ 144 100 (wr ((wr (x1 * 10)) + (rat σ 21 8 x4))))) → B95_2 d Q x1 x2 x4 x3 σ) ∧ (¬ (x2 < (rat σ 144 100 (wr ((wr (x1 * 10)) + (rat σ 21 8 x4))))) → B95_3 d Q x1 x2 x4 (shl 1 x4) x3 σ))) : B95_1 d Q x1 x2 x3 x4 σ := ut (m := M95) rfl h
theorem b95_2 {d : Nat} {Q : dR → dS → Prop} {x1 x2 x4 s0 : Int} {σ : dS} (h : B95_3 d Q x1 x2 x4 0 s0 σ) : B95_2 d Q x1 x2 x4 s0 σ := ut (m := M95) rfl h
theorem b95_3 {d : Nat} {Q : dR → dS → Prop} {x1 x2 x4 s0 s1 : Int} {σ : dS} (h : B95_1 d Q x1 x2 (ior s1 s0) (wr (x4 + 1)) σ) : B95_3 d Q x1 x2 x4 s0 s1 σ := ut (m := M95) rfl h
theorem b95_4 {d : Nat} {Q : dR → dS → Prop} {x3 : Int} {σ : dS} (h : Q (.inl (some (.inl x3))) σ) : B95_4 d Q x3 σ := ut (m := M95) rfl h
theorem c95 {d : Nat} {Q : dR → dS → Prop} {K : Int → dS → Prop} {x1 x2 : Int} {σ : dS} (h : B95_0 d (fun res σ1 => match res with | .inl (some (.inl v)) => K v σ1 | .inl _ => False | .inr e => Q (.inr e) σ1) x1 x2 σ) : wI (d + 2) 95 [.inr (.inr 142), .inl x1, .inl x2] σ Q K := ut0 rfl (Nat.le_of_ble_eq_true rfl) h
/-- WingTrams$Beams.ridersOfSet(I)I, 96 -/
def M96 (lb : Nat) : List Bool := [[true, true, false, false], [true, true, true, true], [true, true, false, true], [true, true, false, true], [false, false, true, false]].getD lb []
def B96_0 (d : Nat) (Q : dR → dS → Prop) (x1 : Int) (σ : dS) : Prop := UT d 96 Q 0 (0, 0) [some (.inr (.inr 142)), some (.inl x1), none, none] [] σ
def B96_1 (d : Nat) (Q : dR → dS → Prop) (x1 x2 x3 : Int) (σ : dS) : Prop := UT d 96 Q 1 (0, 0) [some (.inr (.inr 142)), some (.inl x1), some (.inl x2), some (.inl x3)] [] σ
def B96_2 (d : Nat) (Q : dR → dS → Prop) (x1 x3 s0 : Int) (σ : dS) : Prop := UT d 96 Q 2 (0, 0) [some (.inr (.inr 142)), some (.inl x1), none, some (.inl x3)] [.inl s0] σ
def B96_3 (d : Nat) (Q : dR → dS → Prop) (x1 x3 s0 s1 : Int) (σ : dS) : Prop := UT d 96 Q 3 (0, 0) [some (.inr (.inr 142)), some (.inl x1), none, some (.inl x3)] [.inl s0, .inl s1] σ
def B96_4 (d : Nat) (Q : dR → dS → Prop) (x2 : Int) (σ : dS) : Prop := UT d 96 Q 4 (0, 0) [none, none, some (.inl x2), none] [] σ
theorem b96_0 {d : Nat} {Q : dR → dS → Prop} {x1 : Int} {σ : dS} (h : B96_1 d Q x1 0 0 σ) : B96_0 d Q x1 σ := ut (m := M96) rfl h
theorem b96_1 {d : Nat} {Q : dR → dS → Prop} {x1 x2 x3 : Int} {σ : dS} (h : (((σ 5 0) ≤ x3) → B96_4 d Q x2 σ) ∧ (¬ ((σ 5 0) ≤ x3) → (((ian (shr x1 x3) 1) ≠ (1 : Int)) → B96_2 d Q x1 x3 x2 σ) ∧ (¬ ((ian (shr x1 x3) 1) ≠ (1 : Int)) → B96_3 d Q x1 x3 (rat σ 146 10 x3) x2 σ))) : B96_1 d Q x1 x2 x3 σ := ut (m := M96) rfl h
theorem b96_2 {d : Nat} {Q : dR → dS → Prop} {x1 x3 s0 : Int} {σ : dS} (h : B96_3 d Q x1 x3 0 s0 σ) : B96_2 d Q x1 x3 s0 σ := ut (m := M96) rfl h
theorem b96_3 {d : Nat} {Q : dR → dS → Prop} {x1 x3 s0 s1 : Int} {σ : dS} (h : B96_1 d Q x1 (ior s1 s0) (wr (x3 + 1)) σ) : B96_3 d Q x1 x3 s0 s1 σ := ut (m := M96) rfl h
theorem b96_4 {d : Nat} {Q : dR → dS → Prop} {x2 : Int} {σ : dS} (h : Q (.inl (some (.inl x2))) σ) : B96_4 d Q x2 σ := ut (m := M96) rfl h
theorem c96 {d : Nat} {Q : dR → dS → Prop} {K : Int → dS → Prop} {x1 : Int} {σ : dS} (h : B96_0 d (fun res σ1 => match res with | .inl (some (.inl v)) => K v σ1 | .inl _ => False | .inr e => Q (.inr e) σ1) x1 σ) : wI (d + 2) 96 [.inr (.inr 142), .inl x1] σ Q K := ut0 rfl (Nat.le_of_ble_eq_true rfl) h
