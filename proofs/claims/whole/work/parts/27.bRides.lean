/-! BLOCKS AS CLEAN ROWS, by program (wip/whole/gen/g26.py) -/
/-- WingTrams$Rides.arrive(I)V, 78 -/
def M78 (lb : Nat) : List Bool := [[], [true, false, true, false, false, false], [true, false, true, true, false, false], [true, false, true, true, true, true], [true, false, true, false, false, false], [false, false, false, false, false, false]].getD lb []
def B78_0 (d : Nat) (Q : dR → dS → Prop) (x1 : Int) (σ : dS) : Prop := UT d 78 Q 0 (0, 0) [some (.inr (.inr 133)), some (.inl x1), none, none, none, none] [] σ
def B78_1 (d : Nat) (Q : dR → dS → Prop) (x2 : Int) (σ : dS) : Prop := UT d 78 Q 1 (0, 0) [some (.inr (.inr 133)), none, some (.inl x2), none, none, none] [] σ
def B78_2 (d : Nat) (Q : dR → dS → Prop) (x2 x3 : Int) (σ : dS) : Prop := UT d 78 Q 2 (0, 0) [some (.inr (.inr 133)), none, some (.inl x2), some (.inl x3), none, none] [] σ
def B78_3 (d : Nat) (Q : dR → dS → Prop) (x2 x3 x4 x5 : Int) (σ : dS) : Prop := UT d 78 Q 3 (0, 0) [some (.inr (.inr 133)), none, some (.inl x2), some (.inl x3), some (.inl x4), some (.inl x5)] [] σ
def B78_4 (d : Nat) (Q : dR → dS → Prop) (x2 : Int) (σ : dS) : Prop := UT d 78 Q 4 (0, 0) [some (.inr (.inr 133)), none, some (.inl x2), none, none, none] [] σ
def B78_5 (d : Nat) (Q : dR → dS → Prop) (σ : dS) : Prop := UT d 78 Q 5 (0, 0) [none, none, none, none, none, none] [] σ
theorem b78_0 {d : Nat} {Q : dR → dS → Prop} {x1 : Int} {σ : dS} (h : ∀ σ1 : dS, σ1 = rfill σ 135 10 2147483647 0 → (∀ σ2 : dS, σ2 = rfill σ1 137 5 0 0 → (∀ σ3 : dS, σ3 = rput σ2 135 10 (rat σ2 19 8 x1) (rat σ2 23 8 x1) → (B78_1 d Q 0 σ3)))) : B78_0 d Q x1 σ := ut (m := M78) rfl h
theorem b78_1 {d : Nat} {Q : dR → dS → Prop} {x2 : Int} {σ : dS} (h : (((σ 114 7) ≤ x2) → B78_5 d Q σ) ∧ (¬ ((σ 114 7) ≤ x2) → ((8 : Int) ≠ 0) ∧ ((((irm (rat σ 126 40 x2) 8) ≠ 0) → B78_2 d Q x2 (rat σ 126 40 x2) σ) ∧ (¬ ((irm (rat σ 126 40 x2) 8) ≠ 0) → B78_4 d Q x2 σ)))) : B78_1 d Q x2 σ := ut (m := M78) rfl h
theorem b78_2 {d : Nat} {Q : dR → dS → Prop} {x2 x3 : Int} {σ : dS} (h : ((8 : Int) ≠ 0) ∧ ((((rat σ 118 40 (wr (x3 - 1))) < (rat σ 135 10 (rat σ 17 40 (wr (x3 - 1))))) → B78_3 d Q x2 x3 (idv x3 8) (rat σ 17 40 x3) σ) ∧ (¬ ((rat σ 118 40 (wr (x3 - 1))) < (rat σ 135 10 (rat σ 17 40 (wr (x3 - 1))))) → ∀ σ1 : dS, σ1 = rput σ 137 5 (idv x3 8) 1 → (B78_3 d Q x2 x3 (idv x3 8) (rat σ 17 40 x3) σ1)))) : B78_2 d Q x2 x3 σ := ut (m := M78) rfl h
theorem b78_3 {d : Nat} {Q : dR → dS → Prop} {x2 x3 x4 x5 : Int} {σ : dS} (h : (((rat σ 137 5 x4) ≠ (1 : Int)) → B78_4 d Q x2 σ) ∧ (¬ ((rat σ 137 5 x4) ≠ (1 : Int)) → (((rat σ 135 10 x5) ≤ (rat σ 116 40 x3)) → B78_4 d Q x2 σ) ∧ (¬ ((rat σ 135 10 x5) ≤ (rat σ 116 40 x3)) → ∀ σ1 : dS, σ1 = rput σ 135 10 x5 (rat σ 116 40 x3) → (B78_4 d Q x2 σ1)))) : B78_3 d Q x2 x3 x4 x5 σ := ut (m := M78) rfl h
theorem b78_4 {d : Nat} {Q : dR → dS → Prop} {x2 : Int} {σ : dS} (h : B78_1 d Q (wr (x2 + 1)) σ) : B78_4 d Q x2 σ := ut (m := M78) rfl h
theorem b78_5 {d : Nat} {Q : dR → dS → Prop} {σ : dS} (h : Q (.inl none) σ) : B78_5 d Q σ := ut (m := M78) rfl h
theorem c78 {d : Nat} {Q : dR → dS → Prop} {K : dS → Prop} {x1 : Int} {σ : dS} (h : B78_0 d (fun res σ1 => match res with | .inl none => K σ1 | .inl (some _) => False | .inr e => Q (.inr e) σ1) x1 σ) : wV (d + 2) 78 [.inr (.inr 133), .inl x1] σ Q K := ut0 rfl (Nat.le_of_ble_eq_true rfl) h
/-- WingTrams$Rides.minuteHome(I)I, 79 -/
def M79 (lb : Nat) : List Bool := [[], [false, false, false], [false, false, false]].getD lb []
def B79_0 (d : Nat) (Q : dR → dS → Prop) (x1 : Int) (σ : dS) : Prop := UT d 79 Q 0 (0, 0) [some (.inr (.inr 133)), some (.inl x1), none] [] σ
def B79_1 (d : Nat) (Q : dR → dS → Prop) (σ : dS) : Prop := UT d 79 Q 1 (0, 0) [none, none, none] [] σ
def B79_2 (d : Nat) (Q : dR → dS → Prop) (s0 : Int) (σ : dS) : Prop := UT d 79 Q 2 (0, 0) [none, none, none] [.inl s0] σ
theorem b79_0 {d : Nat} {Q : dR → dS → Prop} {x1 : Int} {σ : dS} (h : wV (d + 1) 78 [.inr (.inr 133), .inl x1] σ Q (fun σ1 => (((σ1 5 4) < (rat σ1 135 10 (rat σ1 21 8 x1))) → B79_1 d Q σ1) ∧ (¬ ((σ1 5 4) < (rat σ1 135 10 (rat σ1 21 8 x1))) → B79_2 d Q (rat σ1 135 10 (rat σ1 21 8 x1)) σ1))) : B79_0 d Q x1 σ := ut (m := M79) rfl h
theorem b79_1 {d : Nat} {Q : dR → dS → Prop} {σ : dS} (h : B79_2 d Q (-1) σ) : B79_1 d Q σ := ut (m := M79) rfl h
theorem b79_2 {d : Nat} {Q : dR → dS → Prop} {s0 : Int} {σ : dS} (h : Q (.inl (some (.inl s0))) σ) : B79_2 d Q s0 σ := ut (m := M79) rfl h
theorem c79 {d : Nat} {Q : dR → dS → Prop} {K : Int → dS → Prop} {x1 : Int} {σ : dS} (h : B79_0 d (fun res σ1 => match res with | .inl (some (.inl v)) => K v σ1 | .inl _ => False | .inr e => Q (.inr e) σ1) x1 σ) : wI (d + 2) 79 [.inr (.inr 133), .inl x1] σ Q K := ut0 rfl (Nat.le_of_ble_eq_true rfl) h
/-- WingTrams$Rides.countHome()I, 80 -/
def M80 (lb : Nat) : List Bool := [[], [true, true, true], [true, false, true], [true, false, true], [false, true, false]].getD lb []
def B80_0 (d : Nat) (Q : dR → dS → Prop) (σ : dS) : Prop := UT d 80 Q 0 (0, 0) [some (.inr (.inr 133)), none, none] [] σ
def B80_1 (d : Nat) (Q : dR → dS → Prop) (x1 x2 : Int) (σ : dS) : Prop := UT d 80 Q 1 (0, 0) [some (.inr (.inr 133)), some (.inl x1), some (.inl x2)] [] σ
def B80_2 (d : Nat) (Q : dR → dS → Prop) (x2 s0 : Int) (σ : dS) : Prop := UT d 80 Q 2 (0, 0) [some (.inr (.inr 133)), none, some (.inl x2)] [.inl s0] σ
def B80_3 (d : Nat) (Q : dR → dS → Prop) (x2 s0 s1 : Int) (σ : dS) : Prop := UT d 80 Q 3 (0, 0) [some (.inr (.inr 133)), none, some (.inl x2)] [.inl s0, .inl s1] σ
def B80_4 (d : Nat) (Q : dR → dS → Prop) (x1 : Int) (σ : dS) : Prop := UT d 80 Q 4 (0, 0) [none, some (.inl x1), none] [] σ
theorem b80_0 {d : Nat} {Q : dR → dS → Prop} {σ : dS} (h : B80_1 d Q 0 0 σ) : B80_0 d Q σ := ut (m := M80) rfl h
theorem b80_1 {d : Nat} {Q : dR → dS → Prop} {x1 x2 : Int} {σ : dS} (h : (((σ 5 3) ≤ x2) → B80_4 d Q x1 σ) ∧ (¬ ((σ 5 3) ≤ x2) → wI (d + 1) 79 [.inr (.inr 133), .inl x2] σ Q (fun v1 σ1 => ((v1 ≠ (-1 : Int)) → B80_2 d Q x2 x1 σ1) ∧ (¬ (v1 ≠ (-1 : Int)) → B80_3 d Q x2 0 x1 σ1)))) : B80_1 d Q x1 x2 σ := ut (m := M80) rfl h
theorem b80_2 {d : Nat} {Q : dR → dS → Prop} {x2 s0 : Int} {σ : dS} (h : B80_3 d Q x2 1 s0 σ) : B80_2 d Q x2 s0 σ := ut (m := M80) rfl h
theorem b80_3 {d : Nat} {Q : dR → dS → Prop} {x2 s0 s1 : Int} {σ : dS} (h : B80_1 d Q (wr (s1 + s0)) (wr (x2 + 1)) σ) : B80_3 d Q x2 s0 s1 σ := ut (m := M80) rfl h
theorem b80_4 {d : Nat} {Q : dR → dS → Prop} {x1 : Int} {σ : dS} (h : Q (.inl (some (.inl x1))) σ) : B80_4 d Q x1 σ := ut (m := M80) rfl h
theorem c80 {d : Nat} {Q : dR → dS → Prop} {K : Int → dS → Prop} {σ : dS} (h : B80_0 d (fun res σ1 => match res with | .inl (some (.inl v)) => K v σ1 | .inl _ => False | .inr e => Q (.inr e) σ1) σ) : wI (d + 2) 80 [.inr (.inr 133)] σ Q K := ut0 rfl (Nat.le_of_ble_eq_true rfl) h
/-- WingTrams$Rides.allHomeBy(II)Z, 81 -/
def M81 (lb : Nat) : List Bool := [[], [true, true, true, true, false], [false, false, false, false, false], [true, true, true, true, false], [false, false, false, false, false]].getD lb []
def B81_0 (d : Nat) (Q : dR → dS → Prop) (x1 x2 : Int) (σ : dS) : Prop := UT d 81 Q 0 (0, 0) [some (.inr (.inr 133)), some (.inl x1), some (.inl x2), none, none] [] σ
def B81_1 (d : Nat) (Q : dR → dS → Prop) (x1 x2 x3 : Int) (σ : dS) : Prop := UT d 81 Q 1 (0, 0) [some (.inr (.inr 133)), some (.inl x1), some (.inl x2), some (.inl x3), none] [] σ
def B81_2 (d : Nat) (Q : dR → dS → Prop) (σ : dS) : Prop := UT d 81 Q 2 (0, 0) [none, none, none, none, none] [] σ
def B81_3 (d : Nat) (Q : dR → dS → Prop) (x1 x2 x3 : Int) (σ : dS) : Prop := UT d 81 Q 3 (0, 0) [some (.inr (.inr 133)), some (.inl x1), some (.inl x2), some (.inl x3), none] [] σ
def B81_4 (d : Nat) (Q : dR → dS → Prop) (σ : dS) : Prop := UT d 81 Q 4 (0, 0) [none, none, none, none, none] [] σ
theorem b81_0 {d : Nat} {Q : dR → dS → Prop} {x1 x2 : Int} {σ : dS} (h : B81_1 d Q x1 x2 0 σ) : B81_0 d Q x1 x2 σ := ut (m := M81) rfl h
theorem b81_1 {d : Nat} {Q : dR → dS → Prop} {x1 x2 x3 : Int} {σ : dS} (h : (((σ 5 3) ≤ x3) → B81_4 d Q σ) ∧ (¬ ((σ 5 3) ≤ x3) → (((ian (shr x1 x3) 1) ≠ (1 : Int)) → B81_3 d Q x1 x2 x3 σ) ∧ (¬ ((ian (shr x1 x3) 1) ≠ (1 : Int)) → wI (d + 1) 79 [.inr (.inr 133), .inl x3] σ Q (fun v1 σ1 => ((v1 = (-1 : Int)) → B81_2 d Q σ1) ∧ (¬ (v1 = (-1 : Int)) → ((v1 ≤ x2) → B81_3 d Q x1 x2 x3 σ1) ∧ (¬ (v1 ≤ x2) → B81_2 d Q σ1)))))) : B81_1 d Q x1 x2 x3 σ := ut (m := M81) rfl h
theorem b81_2 {d : Nat} {Q : dR → dS → Prop} {σ : dS} (h : ((0 : Int) = 0 ∨ (0 : Int) = 1) ∧ Q (.inl (some (.inl 0))) σ) : B81_2 d Q σ := ut (m := M81) rfl h
theorem b81_3 {d : Nat} {Q : dR → dS → Prop} {x1 x2 x3 : Int} {σ : dS} (h : B81_1 d Q x1 x2 (wr (x3 + 1)) σ) : B81_3 d Q x1 x2 x3 σ := ut (m := M81) rfl h
theorem b81_4 {d : Nat} {Q : dR → dS → Prop} {σ : dS} (h : ((1 : Int) = 0 ∨ (1 : Int) = 1) ∧ Q (.inl (some (.inl 1))) σ) : B81_4 d Q σ := ut (m := M81) rfl h
theorem c81 {d : Nat} {Q : dR → dS → Prop} {K : Int → dS → Prop} {x1 x2 : Int} {σ : dS} (h : B81_0 d (fun res σ1 => match res with | .inl (some (.inl v)) => K v σ1 | .inl _ => False | .inr e => Q (.inr e) σ1) x1 x2 σ) : wI (d + 2) 81 [.inr (.inr 133), .inl x1, .inl x2] σ Q K := ut0 rfl (Nat.le_of_ble_eq_true rfl) h
/-- WingTrams$Rides.roofsBy(II)I, 82 -/
def M82 (lb : Nat) : List Bool := [[], [true, false, true, true, true, false], [true, false, true, true, true, false], [true, false, true, true, true, false], [true, false, true, false, true, false], [true, false, true, false, true, false], [false, false, false, true, false, false]].getD lb []
def B82_0 (d : Nat) (Q : dR → dS → Prop) (x1 x2 : Int) (σ : dS) : Prop := UT d 82 Q 0 (0, 0) [some (.inr (.inr 133)), some (.inl x1), some (.inl x2), none, none, none] [] σ
def B82_1 (d : Nat) (Q : dR → dS → Prop) (x2 x3 x4 : Int) (σ : dS) : Prop := UT d 82 Q 1 (0, 0) [some (.inr (.inr 133)), none, some (.inl x2), some (.inl x3), some (.inl x4), none] [] σ
def B82_2 (d : Nat) (Q : dR → dS → Prop) (x2 x3 x4 : Int) (σ : dS) : Prop := UT d 82 Q 2 (0, 0) [some (.inr (.inr 133)), none, some (.inl x2), some (.inl x3), some (.inl x4), none] [] σ
def B82_3 (d : Nat) (Q : dR → dS → Prop) (x2 x3 x4 s0 : Int) (σ : dS) : Prop := UT d 82 Q 3 (0, 0) [some (.inr (.inr 133)), none, some (.inl x2), some (.inl x3), some (.inl x4), none] [.inl s0] σ
def B82_4 (d : Nat) (Q : dR → dS → Prop) (x2 x4 s0 : Int) (σ : dS) : Prop := UT d 82 Q 4 (0, 0) [some (.inr (.inr 133)), none, some (.inl x2), none, some (.inl x4), none] [.inl s0] σ
def B82_5 (d : Nat) (Q : dR → dS → Prop) (x2 x4 s0 s1 : Int) (σ : dS) : Prop := UT d 82 Q 5 (0, 0) [some (.inr (.inr 133)), none, some (.inl x2), none, some (.inl x4), none] [.inl s0, .inl s1] σ
def B82_6 (d : Nat) (Q : dR → dS → Prop) (x3 : Int) (σ : dS) : Prop := UT d 82 Q 6 (0, 0) [none, none, none, some (.inl x3), none, none] [] σ
theorem b82_0 {d : Nat} {Q : dR → dS → Prop} {x1 x2 : Int} {σ : dS} (h : wV (d + 1) 78 [.inr (.inr 133), .inl x1] σ Q (fun σ1 => B82_1 d Q x2 0 0 σ1)) : B82_0 d Q x1 x2 σ := ut (m := M82) rfl h
theorem b82_1 {d : Nat} {Q : dR → dS → Prop} {x2 x3 x4 : Int} {σ : dS} (h : (((σ 5 0) ≤ x4) → B82_6 d Q x3 σ) ∧ (¬ ((σ 5 0) ≤ x4) → (((rat σ 135 10 x4) = (2147483647 : Int)) → B82_2 d Q x2 x3 x4 σ) ∧ (¬ ((rat σ 135 10 x4) = (2147483647 : Int)) → ((x2 < (rat σ 135 10 x4)) → B82_2 d Q x2 x3 x4 σ) ∧ (¬ (x2 < (rat σ 135 10 x4)) → B82_3 d Q x2 x3 x4 1 σ)))) : B82_1 d Q x2 x3 x4 σ := ut (m := M82) rfl h
theorem b82_2 {d : Nat} {Q : dR → dS → Prop} {x2 x3 x4 : Int} {σ : dS} (h : B82_3 d Q x2 x3 x4 0 σ) : B82_2 d Q x2 x3 x4 σ := ut (m := M82) rfl h
theorem b82_3 {d : Nat} {Q : dR → dS → Prop} {x2 x3 x4 s0 : Int} {σ : dS} (h : ((s0 = 0) → B82_4 d Q x2 x4 x3 σ) ∧ (¬ (s0 = 0) → B82_5 d Q x2 x4 (shl 1 x4) x3 σ)) : B82_3 d Q x2 x3 x4 s0 σ := ut (m := M82) rfl h
theorem b82_4 {d : Nat} {Q : dR → dS → Prop} {x2 x4 s0 : Int} {σ : dS} (h : B82_5 d Q x2 x4 0 s0 σ) : B82_4 d Q x2 x4 s0 σ := ut (m := M82) rfl h
theorem b82_5 {d : Nat} {Q : dR → dS → Prop} {x2 x4 s0 s1 : Int} {σ : dS} (h : B82_1 d Q x2 (ior s1 s0) (wr (x4 + 1)) σ) : B82_5 d Q x2 x4 s0 s1 σ := ut (m := M82) rfl h
theorem b82_6 {d : Nat} {Q : dR → dS → Prop} {x3 : Int} {σ : dS} (h : Q (.inl (some (.inl x3))) σ) : B82_6 d Q x3 σ := ut (m := M82) rfl h
theorem c82 {d : Nat} {Q : dR → dS → Prop} {K : Int → dS → Prop} {x1 x2 : Int} {σ : dS} (h : B82_0 d (fun res σ1 => match res with | .inl (some (.inl v)) => K v σ1 | .inl _ => False | .inr e => Q (.inr e) σ1) x1 x2 σ) : wI (d + 2) 82 [.inr (.inr 133), .inl x1, .inl x2] σ Q K := ut0 rfl (Nat.le_of_ble_eq_true rfl) h
/-- WingTrams$Rides.lastOwl(I)I, 83 -/
def M83 (lb : Nat) : List Bool := [[], [false, false, false, false, false], [true, false, true, true, false], [true, false, true, true, true], [true, false, true, true, true], [false, false, false, false, false]].getD lb []
def B83_0 (d : Nat) (Q : dR → dS → Prop) (x1 : Int) (σ : dS) : Prop := UT d 83 Q 0 (0, 0) [some (.inr (.inr 133)), some (.inl x1), none, none, none] [] σ
def B83_1 (d : Nat) (Q : dR → dS → Prop) (σ : dS) : Prop := UT d 83 Q 1 (0, 0) [none, none, none, none, none] [] σ
def B83_2 (d : Nat) (Q : dR → dS → Prop) (x2 x3 : Int) (σ : dS) : Prop := UT d 83 Q 2 (0, 0) [some (.inr (.inr 133)), none, some (.inl x2), some (.inl x3), none] [] σ
def B83_3 (d : Nat) (Q : dR → dS → Prop) (x2 x3 x4 : Int) (σ : dS) : Prop := UT d 83 Q 3 (0, 0) [some (.inr (.inr 133)), none, some (.inl x2), some (.inl x3), some (.inl x4)] [] σ
def B83_4 (d : Nat) (Q : dR → dS → Prop) (x2 x3 x4 : Int) (σ : dS) : Prop := UT d 83 Q 4 (0, 0) [some (.inr (.inr 133)), none, some (.inl x2), some (.inl x3), some (.inl x4)] [] σ
def B83_5 (d : Nat) (Q : dR → dS → Prop) (σ : dS) : Prop := UT d 83 Q 5 (0, 0) [none, none, none, none, none] [] σ
theorem b83_0 {d : Nat} {Q : dR → dS → Prop} {x1 : Int} {σ : dS} (h : wI (d + 1) 79 [.inr (.inr 133), .inl x1] σ Q (fun v1 σ1 => ((v1 = (-1 : Int)) → B83_1 d Q σ1) ∧ (¬ (v1 = (-1 : Int)) → (((rat σ1 19 8 x1) ≠ (rat σ1 21 8 x1)) → B83_2 d Q v1 (rat σ1 21 8 x1) σ1) ∧ (¬ ((rat σ1 19 8 x1) ≠ (rat σ1 21 8 x1)) → B83_1 d Q σ1)))) : B83_0 d Q x1 σ := ut (m := M83) rfl h
theorem b83_1 {d : Nat} {Q : dR → dS → Prop} {σ : dS} (h : Q (.inl (some (.inl (-1)))) σ) : B83_1 d Q σ := ut (m := M83) rfl h
theorem b83_2 {d : Nat} {Q : dR → dS → Prop} {x2 x3 : Int} {σ : dS} (h : B83_3 d Q x2 x3 0 σ) : B83_2 d Q x2 x3 σ := ut (m := M83) rfl h
theorem b83_3 {d : Nat} {Q : dR → dS → Prop} {x2 x3 x4 : Int} {σ : dS} (h : (((σ 5 2) ≤ x4) → B83_5 d Q σ) ∧ (¬ ((σ 5 2) ≤ x4) → wI (d + 1) 84 [.inr (.inr 133), .inl x3, .inl x4, .inl x2] σ Q (fun v1 σ1 => ((v1 = 0) → B83_4 d Q x2 x3 x4 σ1) ∧ (¬ (v1 = 0) → Q (.inl (some (.inl x4))) σ1)))) : B83_3 d Q x2 x3 x4 σ := ut (m := M83) rfl h
theorem b83_4 {d : Nat} {Q : dR → dS → Prop} {x2 x3 x4 : Int} {σ : dS} (h : B83_3 d Q x2 x3 (wr (x4 + 1)) σ) : B83_4 d Q x2 x3 x4 σ := ut (m := M83) rfl h
theorem b83_5 {d : Nat} {Q : dR → dS → Prop} {σ : dS} (h : Q (.inl (some (.inl (-1)))) σ) : B83_5 d Q σ := ut (m := M83) rfl h
theorem c83 {d : Nat} {Q : dR → dS → Prop} {K : Int → dS → Prop} {x1 : Int} {σ : dS} (h : B83_0 d (fun res σ1 => match res with | .inl (some (.inl v)) => K v σ1 | .inl _ => False | .inr e => Q (.inr e) σ1) x1 σ) : wI (d + 2) 83 [.inr (.inr 133), .inl x1] σ Q K := ut0 rfl (Nat.le_of_ble_eq_true rfl) h
/-- WingTrams$Rides.bringsTo(III)Z, 84 -/
def M84 (lb : Nat) : List Bool := [[], [true, true, true, true, true, true, false, false], [true, true, true, true, true, true, true, true], [true, true, true, true, false, true, false, false], [true, true, true, true, false, true, false, false], [true, true, true, true, false, true, false, false], [false, false, false, false, false, false, false, false]].getD lb []
def B84_0 (d : Nat) (Q : dR → dS → Prop) (x1 x2 x3 : Int) (σ : dS) : Prop := UT d 84 Q 0 (0, 0) [some (.inr (.inr 133)), some (.inl x1), some (.inl x2), some (.inl x3), none, none, none, none] [] σ
def B84_1 (d : Nat) (Q : dR → dS → Prop) (x1 x2 x3 x4 x5 : Int) (σ : dS) : Prop := UT d 84 Q 1 (0, 0) [some (.inr (.inr 133)), some (.inl x1), some (.inl x2), some (.inl x3), some (.inl x4), some (.inl x5), none, none] [] σ
def B84_2 (d : Nat) (Q : dR → dS → Prop) (x1 x2 x3 x4 x5 x6 x7 : Int) (σ : dS) : Prop := UT d 84 Q 2 (0, 0) [some (.inr (.inr 133)), some (.inl x1), some (.inl x2), some (.inl x3), some (.inl x4), some (.inl x5), some (.inl x6), some (.inl x7)] [] σ
def B84_3 (d : Nat) (Q : dR → dS → Prop) (x1 x2 x3 x5 : Int) (σ : dS) : Prop := UT d 84 Q 3 (0, 0) [some (.inr (.inr 133)), some (.inl x1), some (.inl x2), some (.inl x3), none, some (.inl x5), none, none] [] σ
def B84_4 (d : Nat) (Q : dR → dS → Prop) (x1 x2 x3 x5 : Int) (σ : dS) : Prop := UT d 84 Q 4 (0, 0) [some (.inr (.inr 133)), some (.inl x1), some (.inl x2), some (.inl x3), none, some (.inl x5), none, none] [] σ
def B84_5 (d : Nat) (Q : dR → dS → Prop) (x1 x2 x3 x5 s0 : Int) (σ : dS) : Prop := UT d 84 Q 5 (0, 0) [some (.inr (.inr 133)), some (.inl x1), some (.inl x2), some (.inl x3), none, some (.inl x5), none, none] [.inl s0] σ
def B84_6 (d : Nat) (Q : dR → dS → Prop) (σ : dS) : Prop := UT d 84 Q 6 (0, 0) [none, none, none, none, none, none, none, none] [] σ
theorem b84_0 {d : Nat} {Q : dR → dS → Prop} {x1 x2 x3 : Int} {σ : dS} (h : B84_1 d Q x1 x2 x3 0 0 σ) : B84_0 d Q x1 x2 x3 σ := ut (m := M84) rfl h
set_option maxRecDepth 20000 in
theorem b84_1 {d : Nat} {Q : dR → dS → Prop} {x1 x2 x3 x4 x5 : Int} {σ : dS} (h : (((rat σ 124 5 x2) ≤ x5) → B84_6 d Q σ) ∧ (¬ ((rat σ 124 5 x2) ≤ x5) → ((x4 = 0) → B84_2 d Q x1 x2 x3 x4 x5 (wr ((wr (x2 * 8)) + x5)) (rat σ 17 40 (wr ((wr (x2 * 8)) + x5))) σ) ∧ (¬ (x4 = 0) → (((rat σ 17 40 (wr ((wr (x2 * 8)) + x5))) ≠ x1) → B84_2 d Q x1 x2 x3 x4 x5 (wr ((wr (x2 * 8)) + x5)) (rat σ 17 40 (wr ((wr (x2 * 8)) + x5))) σ) ∧ (¬ ((rat σ 17 40 (wr ((wr (x2 * 8)) + x5))) ≠ x1) → (((rat σ 116 40 (wr ((wr (x2 * 8)) + x5))) ≠ x3) → B84_2 d Q x1 x2 x3 x4 x5 (wr ((wr (x2 * 8)) + x5)) (rat σ 17 40 (wr ((wr (x2 * 8)) + x5))) σ) ∧ (¬ ((rat σ 116 40 (wr ((wr (x2 * 8)) + x5))) ≠ x3) → ((1 : Int) = 0 ∨ (1 : Int) = 1) ∧ Q (.inl (some (.inl 1))) σ))))) : B84_1 d Q x1 x2 x3 x4 x5 σ := ut (m := M84) rfl h
theorem b84_2 {d : Nat} {Q : dR → dS → Prop} {x1 x2 x3 x4 x5 x6 x7 : Int} {σ : dS} (h : ((x4 ≠ 0) → B84_3 d Q x1 x2 x3 x5 σ) ∧ (¬ (x4 ≠ 0) → (((rat σ 118 40 x6) < (rat σ 135 10 x7)) → B84_4 d Q x1 x2 x3 x5 σ) ∧ (¬ ((rat σ 118 40 x6) < (rat σ 135 10 x7)) → B84_3 d Q x1 x2 x3 x5 σ))) : B84_2 d Q x1 x2 x3 x4 x5 x6 x7 σ := ut (m := M84) rfl h
theorem b84_3 {d : Nat} {Q : dR → dS → Prop} {x1 x2 x3 x5 : Int} {σ : dS} (h : B84_5 d Q x1 x2 x3 x5 1 σ) : B84_3 d Q x1 x2 x3 x5 σ := ut (m := M84) rfl h
theorem b84_4 {d : Nat} {Q : dR → dS → Prop} {x1 x2 x3 x5 : Int} {σ : dS} (h : B84_5 d Q x1 x2 x3 x5 0 σ) : B84_4 d Q x1 x2 x3 x5 σ := ut (m := M84) rfl h
theorem b84_5 {d : Nat} {Q : dR → dS → Prop} {x1 x2 x3 x5 s0 : Int} {σ : dS} (h : B84_1 d Q x1 x2 x3 s0 (wr (x5 + 1)) σ) : B84_5 d Q x1 x2 x3 x5 s0 σ := ut (m := M84) rfl h
theorem b84_6 {d : Nat} {Q : dR → dS → Prop} {σ : dS} (h : ((0 : Int) = 0 ∨ (0 : Int) = 1) ∧ Q (.inl (some (.inl 0))) σ) : B84_6 d Q σ := ut (m := M84) rfl h
theorem c84 {d : Nat} {Q : dR → dS → Prop} {K : Int → dS → Prop} {x1 x2 x3 : Int} {σ : dS} (h : B84_0 d (fun res σ1 => match res with | .inl (some (.inl v)) => K v σ1 | .inl _ => False | .inr e => Q (.inr e) σ1) x1 x2 x3 σ) : wI (d + 2) 84 [.inr (.inr 133), .inl x1, .inl x2, .inl x3] σ Q K := ut0 rfl (Nat.le_of_ble_eq_true rfl) h
/-- WingTrams$Rides.fewest(IZ)I, 85 -/
def M85 (lb : Nat) : List Bool := [[], [true, true, true, true, false, false], [true, true, true, true, true, false], [true, true, true, true, true, false], [true, true, true, true, true, false], [true, true, true, true, true, false], [true, true, true, true, false, false], [true, true, true, true, false, false], [false, false, false, false, false, false]].getD lb []
def B85_0 (d : Nat) (Q : dR → dS → Prop) (x1 x2 : Int) (σ : dS) : Prop := UT d 85 Q 0 (0, 0) [some (.inr (.inr 133)), some (.inl x1), some (.inl x2), none, none, none] [] σ
def B85_1 (d : Nat) (Q : dR → dS → Prop) (x1 x2 x3 : Int) (σ : dS) : Prop := UT d 85 Q 1 (0, 0) [some (.inr (.inr 133)), some (.inl x1), some (.inl x2), some (.inl x3), none, none] [] σ
def B85_2 (d : Nat) (Q : dR → dS → Prop) (x1 x2 x3 x4 : Int) (σ : dS) : Prop := UT d 85 Q 2 (0, 0) [some (.inr (.inr 133)), some (.inl x1), some (.inl x2), some (.inl x3), some (.inl x4), none] [] σ
def B85_3 (d : Nat) (Q : dR → dS → Prop) (x1 x2 x3 x4 : Int) (σ : dS) : Prop := UT d 85 Q 3 (0, 0) [some (.inr (.inr 133)), some (.inl x1), some (.inl x2), some (.inl x3), some (.inl x4), none] [] σ
def B85_4 (d : Nat) (Q : dR → dS → Prop) (x1 x2 x3 x4 s0 : Int) (σ : dS) : Prop := UT d 85 Q 4 (0, 0) [some (.inr (.inr 133)), some (.inl x1), some (.inl x2), some (.inl x3), some (.inl x4), none] [.inl s0] σ
def B85_5 (d : Nat) (Q : dR → dS → Prop) (x1 x2 x3 x4 : Int) (σ : dS) : Prop := UT d 85 Q 5 (0, 0) [some (.inr (.inr 133)), some (.inl x1), some (.inl x2), some (.inl x3), some (.inl x4), none] [] σ
def B85_6 (d : Nat) (Q : dR → dS → Prop) (x1 x2 x3 : Int) (σ : dS) : Prop := UT d 85 Q 6 (0, 0) [some (.inr (.inr 133)), some (.inl x1), some (.inl x2), some (.inl x3), none, none] [] σ
def B85_7 (d : Nat) (Q : dR → dS → Prop) (x1 x2 x3 : Int) (σ : dS) : Prop := UT d 85 Q 7 (0, 0) [some (.inr (.inr 133)), some (.inl x1), some (.inl x2), some (.inl x3), none, none] [] σ
def B85_8 (d : Nat) (Q : dR → dS → Prop) (σ : dS) : Prop := UT d 85 Q 8 (0, 0) [none, none, none, none, none, none] [] σ
theorem b85_0 {d : Nat} {Q : dR → dS → Prop} {x1 x2 : Int} {σ : dS} (h : ∀ σ1 : dS, σ1 = rfill σ 139 160 2147483647 0 → (∀ σ2 : dS, σ2 = rput σ1 139 160 (rat σ1 19 8 x1) (rat σ1 23 8 x1) → (B85_1 d Q x1 x2 0 σ2))) : B85_0 d Q x1 x2 σ := ut (m := M85) rfl h
theorem b85_1 {d : Nat} {Q : dR → dS → Prop} {x1 x2 x3 : Int} {σ : dS} (h : (((15 : Int) < x3) → B85_8 d Q σ) ∧ (¬ ((15 : Int) < x3) → B85_2 d Q x1 x2 x3 0 σ)) : B85_1 d Q x1 x2 x3 σ := ut (m := M85) rfl h
theorem b85_2 {d : Nat} {Q : dR → dS → Prop} {x1 x2 x3 x4 : Int} {σ : dS} (h : (((σ 5 2) ≤ x4) → B85_6 d Q x1 x2 x3 σ) ∧ (¬ ((σ 5 2) ≤ x4) → ((x2 = 0) → B85_3 d Q x1 x2 x3 x4 σ) ∧ (¬ (x2 = 0) → B85_4 d Q x1 x2 x3 x4 (wr ((rat σ 11 5 x4) + 1)) σ))) : B85_2 d Q x1 x2 x3 x4 σ := ut (m := M85) rfl h
theorem b85_3 {d : Nat} {Q : dR → dS → Prop} {x1 x2 x3 x4 : Int} {σ : dS} (h : B85_4 d Q x1 x2 x3 x4 1 σ) : B85_3 d Q x1 x2 x3 x4 σ := ut (m := M85) rfl h
theorem b85_4 {d : Nat} {Q : dR → dS → Prop} {x1 x2 x3 x4 s0 : Int} {σ : dS} (h : ((x3 < s0) → B85_5 d Q x1 x2 x3 x4 σ) ∧ (¬ (x3 < s0) → wV (d + 1) 86 [.inr (.inr 133), .inl x4, .inl (wr (x3 - s0)), .inl x3] σ Q (fun σ1 => B85_5 d Q x1 x2 x3 x4 σ1))) : B85_4 d Q x1 x2 x3 x4 s0 σ := ut (m := M85) rfl h
theorem b85_5 {d : Nat} {Q : dR → dS → Prop} {x1 x2 x3 x4 : Int} {σ : dS} (h : B85_2 d Q x1 x2 x3 (wr (x4 + 1)) σ) : B85_5 d Q x1 x2 x3 x4 σ := ut (m := M85) rfl h
theorem b85_6 {d : Nat} {Q : dR → dS → Prop} {x1 x2 x3 : Int} {σ : dS} (h : (((σ 5 4) < (rat σ 139 160 (wr ((wr (x3 * 10)) + (rat σ 21 8 x1))))) → B85_7 d Q x1 x2 x3 σ) ∧ (¬ ((σ 5 4) < (rat σ 139 160 (wr ((wr (x3 * 10)) + (rat σ 21 8 x1))))) → Q (.inl (some (.inl x3))) σ)) : B85_6 d Q x1 x2 x3 σ := ut (m := M85) rfl h
theorem b85_7 {d : Nat} {Q : dR → dS → Prop} {x1 x2 x3 : Int} {σ : dS} (h : B85_1 d Q x1 x2 (wr (x3 + 1)) σ) : B85_7 d Q x1 x2 x3 σ := ut (m := M85) rfl h
theorem b85_8 {d : Nat} {Q : dR → dS → Prop} {σ : dS} (h : Q (.inl (some (.inl (-1)))) σ) : B85_8 d Q σ := ut (m := M85) rfl h
theorem c85 {d : Nat} {Q : dR → dS → Prop} {K : Int → dS → Prop} {x1 x2 : Int} {σ : dS} (h : B85_0 d (fun res σ1 => match res with | .inl (some (.inl v)) => K v σ1 | .inl _ => False | .inr e => Q (.inr e) σ1) x1 x2 σ) : wI (d + 2) 85 [.inr (.inr 133), .inl x1, .inl x2] σ Q K := ut0 rfl (Nat.le_of_ble_eq_true rfl) h
/-- WingTrams$Rides.rideAlong(III)V, 86 -/
def M86 (lb : Nat) : List Bool := [[], [true, true, true, true, true, true, false, false], [true, true, true, true, true, true, true, true], [true, true, true, true, false, true, false, false], [true, true, true, true, false, true, false, false], [true, true, true, true, false, true, false, false], [false, false, false, false, false, false, false, false]].getD lb []
def B86_0 (d : Nat) (Q : dR → dS → Prop) (x1 x2 x3 : Int) (σ : dS) : Prop := UT d 86 Q 0 (0, 0) [some (.inr (.inr 133)), some (.inl x1), some (.inl x2), some (.inl x3), none, none, none, none] [] σ
def B86_1 (d : Nat) (Q : dR → dS → Prop) (x1 x2 x3 x4 x5 : Int) (σ : dS) : Prop := UT d 86 Q 1 (0, 0) [some (.inr (.inr 133)), some (.inl x1), some (.inl x2), some (.inl x3), some (.inl x4), some (.inl x5), none, none] [] σ
def B86_2 (d : Nat) (Q : dR → dS → Prop) (x1 x2 x3 x4 x5 x6 x7 : Int) (σ : dS) : Prop := UT d 86 Q 2 (0, 0) [some (.inr (.inr 133)), some (.inl x1), some (.inl x2), some (.inl x3), some (.inl x4), some (.inl x5), some (.inl x6), some (.inl x7)] [] σ
def B86_3 (d : Nat) (Q : dR → dS → Prop) (x1 x2 x3 x5 : Int) (σ : dS) : Prop := UT d 86 Q 3 (0, 0) [some (.inr (.inr 133)), some (.inl x1), some (.inl x2), some (.inl x3), none, some (.inl x5), none, none] [] σ
def B86_4 (d : Nat) (Q : dR → dS → Prop) (x1 x2 x3 x5 : Int) (σ : dS) : Prop := UT d 86 Q 4 (0, 0) [some (.inr (.inr 133)), some (.inl x1), some (.inl x2), some (.inl x3), none, some (.inl x5), none, none] [] σ
def B86_5 (d : Nat) (Q : dR → dS → Prop) (x1 x2 x3 x5 s0 : Int) (σ : dS) : Prop := UT d 86 Q 5 (0, 0) [some (.inr (.inr 133)), some (.inl x1), some (.inl x2), some (.inl x3), none, some (.inl x5), none, none] [.inl s0] σ
def B86_6 (d : Nat) (Q : dR → dS → Prop) (σ : dS) : Prop := UT d 86 Q 6 (0, 0) [none, none, none, none, none, none, none, none] [] σ
theorem b86_0 {d : Nat} {Q : dR → dS → Prop} {x1 x2 x3 : Int} {σ : dS} (h : B86_1 d Q x1 x2 x3 0 0 σ) : B86_0 d Q x1 x2 x3 σ := ut (m := M86) rfl h
set_option maxRecDepth 20000 in
theorem b86_1 {d : Nat} {Q : dR → dS → Prop} {x1 x2 x3 x4 x5 : Int} {σ : dS} (h : (((rat σ 124 5 x1) ≤ x5) → B86_6 d Q σ) ∧ (¬ ((rat σ 124 5 x1) ≤ x5) → ((x4 = 0) → B86_2 d Q x1 x2 x3 x4 x5 (wr ((wr (x1 * 8)) + x5)) (rat σ 17 40 (wr ((wr (x1 * 8)) + x5))) σ) ∧ (¬ (x4 = 0) → (((rat σ 139 160 (wr ((wr (x3 * 10)) + (rat σ 17 40 (wr ((wr (x1 * 8)) + x5)))))) ≤ (rat σ 116 40 (wr ((wr (x1 * 8)) + x5)))) → B86_2 d Q x1 x2 x3 x4 x5 (wr ((wr (x1 * 8)) + x5)) (rat σ 17 40 (wr ((wr (x1 * 8)) + x5))) σ) ∧ (¬ ((rat σ 139 160 (wr ((wr (x3 * 10)) + (rat σ 17 40 (wr ((wr (x1 * 8)) + x5)))))) ≤ (rat σ 116 40 (wr ((wr (x1 * 8)) + x5)))) → ∀ σ1 : dS, σ1 = rput σ 139 160 (wr ((wr (x3 * 10)) + (rat σ 17 40 (wr ((wr (x1 * 8)) + x5))))) (rat σ 116 40 (wr ((wr (x1 * 8)) + x5))) → (B86_2 d Q x1 x2 x3 x4 x5 (wr ((wr (x1 * 8)) + x5)) (rat σ 17 40 (wr ((wr (x1 * 8)) + x5))) σ1))))) : B86_1 d Q x1 x2 x3 x4 x5 σ := ut (m := M86) rfl h
theorem b86_2 {d : Nat} {Q : dR → dS → Prop} {x1 x2 x3 x4 x5 x6 x7 : Int} {σ : dS} (h : ((x4 ≠ 0) → B86_3 d Q x1 x2 x3 x5 σ) ∧ (¬ (x4 ≠ 0) → (((rat σ 118 40 x6) < (rat σ 139 160 (wr ((wr (x2 * 10)) + x7)))) → B86_4 d Q x1 x2 x3 x5 σ) ∧ (¬ ((rat σ 118 40 x6) < (rat σ 139 160 (wr ((wr (x2 * 10)) + x7)))) → B86_3 d Q x1 x2 x3 x5 σ))) : B86_2 d Q x1 x2 x3 x4 x5 x6 x7 σ := ut (m := M86) rfl h
theorem b86_3 {d : Nat} {Q : dR → dS → Prop} {x1 x2 x3 x5 : Int} {σ : dS} (h : B86_5 d Q x1 x2 x3 x5 1 σ) : B86_3 d Q x1 x2 x3 x5 σ := ut (m := M86) rfl h
theorem b86_4 {d : Nat} {Q : dR → dS → Prop} {x1 x2 x3 x5 : Int} {σ : dS} (h : B86_5 d Q x1 x2 x3 x5 0 σ) : B86_4 d Q x1 x2 x3 x5 σ := ut (m := M86) rfl h
theorem b86_5 {d : Nat} {Q : dR → dS → Prop} {x1 x2 x3 x5 s0 : Int} {σ : dS} (h : B86_1 d Q x1 x2 x3 s0 (wr (x5 + 1)) σ) : B86_5 d Q x1 x2 x3 x5 s0 σ := ut (m := M86) rfl h
theorem b86_6 {d : Nat} {Q : dR → dS → Prop} {σ : dS} (h : Q (.inl none) σ) : B86_6 d Q σ := ut (m := M86) rfl h
theorem c86 {d : Nat} {Q : dR → dS → Prop} {K : dS → Prop} {x1 x2 x3 : Int} {σ : dS} (h : B86_0 d (fun res σ1 => match res with | .inl none => K σ1 | .inl (some _) => False | .inr e => Q (.inr e) σ1) x1 x2 x3 σ) : wV (d + 2) 86 [.inr (.inr 133), .inl x1, .inl x2, .inl x3] σ Q K := ut0 rfl (Nat.le_of_ble_eq_true rfl) h
/-- WingTrams$Rides.countStrapped(I)I, 87 -/
def M87 (lb : Nat) : List Bool := [[], [true, true, true, true], [true, true, false, true], [true, true, false, true], [true, true, true, true], [true, true, false, true], [true, true, false, true], [true, true, true, true], [false, false, true, false]].getD lb []
def B87_0 (d : Nat) (Q : dR → dS → Prop) (x1 : Int) (σ : dS) : Prop := UT d 87 Q 0 (0, 0) [some (.inr (.inr 133)), some (.inl x1), none, none] [] σ
def B87_1 (d : Nat) (Q : dR → dS → Prop) (x1 x2 x3 : Int) (σ : dS) : Prop := UT d 87 Q 1 (0, 0) [some (.inr (.inr 133)), some (.inl x1), some (.inl x2), some (.inl x3)] [] σ
def B87_2 (d : Nat) (Q : dR → dS → Prop) (x1 x3 s0 : Int) (σ : dS) : Prop := UT d 87 Q 2 (0, 0) [some (.inr (.inr 133)), some (.inl x1), none, some (.inl x3)] [.inl s0] σ
def B87_3 (d : Nat) (Q : dR → dS → Prop) (x1 x3 s0 s1 : Int) (σ : dS) : Prop := UT d 87 Q 3 (0, 0) [some (.inr (.inr 133)), some (.inl x1), none, some (.inl x3)] [.inl s0, .inl s1] σ
def B87_4 (d : Nat) (Q : dR → dS → Prop) (x1 x2 x3 : Int) (σ : dS) : Prop := UT d 87 Q 4 (0, 0) [some (.inr (.inr 133)), some (.inl x1), some (.inl x2), some (.inl x3)] [] σ
def B87_5 (d : Nat) (Q : dR → dS → Prop) (x1 x3 s0 : Int) (σ : dS) : Prop := UT d 87 Q 5 (0, 0) [some (.inr (.inr 133)), some (.inl x1), none, some (.inl x3)] [.inl s0] σ
def B87_6 (d : Nat) (Q : dR → dS → Prop) (x1 x3 s0 s1 : Int) (σ : dS) : Prop := UT d 87 Q 6 (0, 0) [some (.inr (.inr 133)), some (.inl x1), none, some (.inl x3)] [.inl s0, .inl s1] σ
def B87_7 (d : Nat) (Q : dR → dS → Prop) (x1 x2 x3 : Int) (σ : dS) : Prop := UT d 87 Q 7 (0, 0) [some (.inr (.inr 133)), some (.inl x1), some (.inl x2), some (.inl x3)] [] σ
def B87_8 (d : Nat) (Q : dR → dS → Prop) (x2 : Int) (σ : dS) : Prop := UT d 87 Q 8 (0, 0) [none, none, some (.inl x2), none] [] σ
theorem b87_0 {d : Nat} {Q : dR → dS → Prop} {x1 : Int} {σ : dS} (h : ∀ σ1 : dS, σ1 = rfill σ 141 40 0 0 → (B87_1 d Q x1 0 0 σ1)) : B87_0 d Q x1 σ := ut (m := M87) rfl h
theorem b87_1 {d : Nat} {Q : dR → dS → Prop} {x1 x2 x3 : Int} {σ : dS} (h : (((σ 5 3) ≤ x3) → B87_8 d Q x2 σ) ∧ (¬ ((σ 5 3) ≤ x3) → (((rat σ 19 8 x3) ≠ (rat σ 21 8 x3)) → B87_4 d Q x1 x2 x3 σ) ∧ (¬ ((rat σ 19 8 x3) ≠ (rat σ 21 8 x3)) → (((σ 5 4) < (rat σ 23 8 x3)) → B87_2 d Q x1 x3 x2 σ) ∧ (¬ ((σ 5 4) < (rat σ 23 8 x3)) → B87_3 d Q x1 x3 1 x2 σ)))) : B87_1 d Q x1 x2 x3 σ := ut (m := M87) rfl h
theorem b87_2 {d : Nat} {Q : dR → dS → Prop} {x1 x3 s0 : Int} {σ : dS} (h : B87_3 d Q x1 x3 0 s0 σ) : B87_2 d Q x1 x3 s0 σ := ut (m := M87) rfl h
theorem b87_3 {d : Nat} {Q : dR → dS → Prop} {x1 x3 s0 s1 : Int} {σ : dS} (h : B87_7 d Q x1 (wr (s1 + s0)) x3 σ) : B87_3 d Q x1 x3 s0 s1 σ := ut (m := M87) rfl h
theorem b87_4 {d : Nat} {Q : dR → dS → Prop} {x1 x2 x3 : Int} {σ : dS} (h : wI (d + 1) 88 [.inr (.inr 133), .inl x3, .inl x1] σ Q (fun v1 σ1 => ((v1 = 0) → B87_5 d Q x1 x3 x2 σ1) ∧ (¬ (v1 = 0) → B87_6 d Q x1 x3 1 x2 σ1))) : B87_4 d Q x1 x2 x3 σ := ut (m := M87) rfl h
theorem b87_5 {d : Nat} {Q : dR → dS → Prop} {x1 x3 s0 : Int} {σ : dS} (h : B87_6 d Q x1 x3 0 s0 σ) : B87_5 d Q x1 x3 s0 σ := ut (m := M87) rfl h
theorem b87_6 {d : Nat} {Q : dR → dS → Prop} {x1 x3 s0 s1 : Int} {σ : dS} (h : B87_7 d Q x1 (wr (s1 + s0)) x3 σ) : B87_6 d Q x1 x3 s0 s1 σ := ut (m := M87) rfl h
theorem b87_7 {d : Nat} {Q : dR → dS → Prop} {x1 x2 x3 : Int} {σ : dS} (h : B87_1 d Q x1 x2 (wr (x3 + 1)) σ) : B87_7 d Q x1 x2 x3 σ := ut (m := M87) rfl h
theorem b87_8 {d : Nat} {Q : dR → dS → Prop} {x2 : Int} {σ : dS} (h : Q (.inl (some (.inl x2))) σ) : B87_8 d Q x2 σ := ut (m := M87) rfl h
theorem c87 {d : Nat} {Q : dR → dS → Prop} {K : Int → dS → Prop} {x1 : Int} {σ : dS} (h : B87_0 d (fun res σ1 => match res with | .inl (some (.inl v)) => K v σ1 | .inl _ => False | .inr e => Q (.inr e) σ1) x1 σ) : wI (d + 2) 87 [.inr (.inr 133), .inl x1] σ Q K := ut0 rfl (Nat.le_of_ble_eq_true rfl) h
/-- WingTrams$Rides.takesStrap(II)Z, 88 -/
def M88 (lb : Nat) : List Bool := [[], [true, true, true, true, true, true, true, false], [true, true, true, true, true, true, true, false], [true, false, false, false, true, true, false, false], [true, false, false, false, true, true, true, false], [false, false, false, false, true, false, false, false], [false, false, false, false, false, false, false, false], [false, false, false, false, false, false, false, false]].getD lb []
def B88_0 (d : Nat) (Q : dR → dS → Prop) (x1 x2 : Int) (σ : dS) : Prop := UT d 88 Q 0 (0, 0) [some (.inr (.inr 133)), some (.inl x1), some (.inl x2), none, none, none, none, none] [] σ
def B88_1 (d : Nat) (Q : dR → dS → Prop) (x1 x2 x3 x4 x5 x6 : Int) (σ : dS) : Prop := UT d 88 Q 1 (0, 0) [some (.inr (.inr 133)), some (.inl x1), some (.inl x2), some (.inl x3), some (.inl x4), some (.inl x5), some (.inl x6), none] [] σ
def B88_2 (d : Nat) (Q : dR → dS → Prop) (x1 x2 x3 x4 x5 x6 : Int) (σ : dS) : Prop := UT d 88 Q 2 (0, 0) [some (.inr (.inr 133)), some (.inl x1), some (.inl x2), some (.inl x3), some (.inl x4), some (.inl x5), some (.inl x6), none] [] σ
def B88_3 (d : Nat) (Q : dR → dS → Prop) (x4 x5 : Int) (σ : dS) : Prop := UT d 88 Q 3 (0, 0) [some (.inr (.inr 133)), none, none, none, some (.inl x4), some (.inl x5), none, none] [] σ
def B88_4 (d : Nat) (Q : dR → dS → Prop) (x4 x5 x6 : Int) (σ : dS) : Prop := UT d 88 Q 4 (0, 0) [some (.inr (.inr 133)), none, none, none, some (.inl x4), some (.inl x5), some (.inl x6), none] [] σ
def B88_5 (d : Nat) (Q : dR → dS → Prop) (x4 : Int) (σ : dS) : Prop := UT d 88 Q 5 (0, 0) [none, none, none, none, some (.inl x4), none, none, none] [] σ
def B88_6 (d : Nat) (Q : dR → dS → Prop) (σ : dS) : Prop := UT d 88 Q 6 (0, 0) [none, none, none, none, none, none, none, none] [] σ
def B88_7 (d : Nat) (Q : dR → dS → Prop) (s0 : Int) (σ : dS) : Prop := UT d 88 Q 7 (0, 0) [none, none, none, none, none, none, none, none] [.inl s0] σ
theorem b88_0 {d : Nat} {Q : dR → dS → Prop} {x1 x2 : Int} {σ : dS} (h : B88_1 d Q x1 x2 (wr ((σ 5 4) + 1)) (-1) (-1) 0 σ) : B88_0 d Q x1 x2 σ := ut (m := M88) rfl h
set_option maxRecDepth 20000 in
theorem b88_1 {d : Nat} {Q : dR → dS → Prop} {x1 x2 x3 x4 x5 x6 : Int} {σ : dS} (h : (((wr ((σ 5 2) * 8)) ≤ x6) → B88_3 d Q x4 x5 σ) ∧ (¬ ((wr ((σ 5 2) * 8)) ≤ x6) → ((8 : Int) ≠ 0) ∧ (((8 : Int) ≠ 0) ∧ ((((rat σ 124 5 (idv x6 8)) ≤ (irm x6 8)) → B88_2 d Q x1 x2 x3 x4 x5 x6 σ) ∧ (¬ ((rat σ 124 5 (idv x6 8)) ≤ (irm x6 8)) → (((rat σ 17 40 x6) ≠ (rat σ 21 8 x1)) → B88_2 d Q x1 x2 x3 x4 x5 x6 σ) ∧ (¬ ((rat σ 17 40 x6) ≠ (rat σ 21 8 x1)) → ((x3 ≤ (rat σ 116 40 x6)) → B88_2 d Q x1 x2 x3 x4 x5 x6 σ) ∧ (¬ (x3 ≤ (rat σ 116 40 x6)) → wI (d + 1) 89 [.inr (.inr 133), .inl x1, .inl x6] σ Q (fun v1 σ1 => ((v1 = (-1 : Int)) → B88_2 d Q x1 x2 x3 x4 x5 x6 σ1) ∧ (¬ (v1 = (-1 : Int)) → wI (d + 1) 90 [.inr (.inr 133), .inl v1, .inl x6, .inl x2] σ1 Q (fun v2 σ2 => ((v2 = 0) → B88_2 d Q x1 x2 x3 x4 x5 x6 σ2) ∧ (¬ (v2 = 0) → B88_2 d Q x1 x2 (rat σ2 116 40 x6) v1 x6 x6 σ2))))))))))) : B88_1 d Q x1 x2 x3 x4 x5 x6 σ := ut (m := M88) rfl h
theorem b88_2 {d : Nat} {Q : dR → dS → Prop} {x1 x2 x3 x4 x5 x6 : Int} {σ : dS} (h : B88_1 d Q x1 x2 x3 x4 x5 (wr (x6 + 1)) σ) : B88_2 d Q x1 x2 x3 x4 x5 x6 σ := ut (m := M88) rfl h
theorem b88_3 {d : Nat} {Q : dR → dS → Prop} {x4 x5 : Int} {σ : dS} (h : B88_4 d Q x4 x5 x4 σ) : B88_3 d Q x4 x5 σ := ut (m := M88) rfl h
theorem b88_4 {d : Nat} {Q : dR → dS → Prop} {x4 x5 x6 : Int} {σ : dS} (h : ((x5 ≤ x6) → B88_5 d Q x4 σ) ∧ (¬ (x5 ≤ x6) → ∀ σ1 : dS, σ1 = rput σ 141 40 x6 (wr ((rat σ 141 40 x6) + 1)) → (B88_4 d Q x4 x5 (wr (x6 + 1)) σ1))) : B88_4 d Q x4 x5 x6 σ := ut (m := M88) rfl h
theorem b88_5 {d : Nat} {Q : dR → dS → Prop} {x4 : Int} {σ : dS} (h : ((x4 = (-1 : Int)) → B88_6 d Q σ) ∧ (¬ (x4 = (-1 : Int)) → B88_7 d Q 1 σ)) : B88_5 d Q x4 σ := ut (m := M88) rfl h
theorem b88_6 {d : Nat} {Q : dR → dS → Prop} {σ : dS} (h : B88_7 d Q 0 σ) : B88_6 d Q σ := ut (m := M88) rfl h
theorem b88_7 {d : Nat} {Q : dR → dS → Prop} {s0 : Int} {σ : dS} (h : (s0 = 0 ∨ s0 = 1) ∧ Q (.inl (some (.inl s0))) σ) : B88_7 d Q s0 σ := ut (m := M88) rfl h
theorem c88 {d : Nat} {Q : dR → dS → Prop} {K : Int → dS → Prop} {x1 x2 : Int} {σ : dS} (h : B88_0 d (fun res σ1 => match res with | .inl (some (.inl v)) => K v σ1 | .inl _ => False | .inr e => Q (.inr e) σ1) x1 x2 σ) : wI (d + 2) 88 [.inr (.inr 133), .inl x1, .inl x2] σ Q K := ut0 rfl (Nat.le_of_ble_eq_true rfl) h
/-- WingTrams$Rides.cellToGetOn(II)I, 89 -/
def M89 (lb : Nat) : List Bool := [[], [true, true, true, true], [true, true, true, true], [false, false, false, false]].getD lb []
def B89_0 (d : Nat) (Q : dR → dS → Prop) (x1 x2 : Int) (σ : dS) : Prop := UT d 89 Q 0 (0, 0) [some (.inr (.inr 133)), some (.inl x1), some (.inl x2), none] [] σ
def B89_1 (d : Nat) (Q : dR → dS → Prop) (x1 x2 x3 : Int) (σ : dS) : Prop := UT d 89 Q 1 (0, 0) [some (.inr (.inr 133)), some (.inl x1), some (.inl x2), some (.inl x3)] [] σ
def B89_2 (d : Nat) (Q : dR → dS → Prop) (x1 x2 x3 : Int) (σ : dS) : Prop := UT d 89 Q 2 (0, 0) [some (.inr (.inr 133)), some (.inl x1), some (.inl x2), some (.inl x3)] [] σ
def B89_3 (d : Nat) (Q : dR → dS → Prop) (σ : dS) : Prop := UT d 89 Q 3 (0, 0) [none, none, none, none] [] σ
theorem b89_0 {d : Nat} {Q : dR → dS → Prop} {x1 x2 : Int} {σ : dS} (h : B89_1 d Q x1 x2 (wr (x2 - 1)) σ) : B89_0 d Q x1 x2 σ := ut (m := M89) rfl h
theorem b89_1 {d : Nat} {Q : dR → dS → Prop} {x1 x2 x3 : Int} {σ : dS} (h : ((8 : Int) ≠ 0) ∧ (((x3 < (wr (x2 - (irm x2 8)))) → B89_3 d Q σ) ∧ (¬ (x3 < (wr (x2 - (irm x2 8)))) → (((rat σ 17 40 x3) ≠ (rat σ 19 8 x1)) → B89_2 d Q x1 x2 x3 σ) ∧ (¬ ((rat σ 17 40 x3) ≠ (rat σ 19 8 x1)) → (((rat σ 118 40 x3) < (rat σ 23 8 x1)) → B89_2 d Q x1 x2 x3 σ) ∧ (¬ ((rat σ 118 40 x3) < (rat σ 23 8 x1)) → Q (.inl (some (.inl x3))) σ))))) : B89_1 d Q x1 x2 x3 σ := ut (m := M89) rfl h
theorem b89_2 {d : Nat} {Q : dR → dS → Prop} {x1 x2 x3 : Int} {σ : dS} (h : B89_1 d Q x1 x2 (wr (x3 + (-1))) σ) : B89_2 d Q x1 x2 x3 σ := ut (m := M89) rfl h
theorem b89_3 {d : Nat} {Q : dR → dS → Prop} {σ : dS} (h : Q (.inl (some (.inl (-1)))) σ) : B89_3 d Q σ := ut (m := M89) rfl h
theorem c89 {d : Nat} {Q : dR → dS → Prop} {K : Int → dS → Prop} {x1 x2 : Int} {σ : dS} (h : B89_0 d (fun res σ1 => match res with | .inl (some (.inl v)) => K v σ1 | .inl _ => False | .inr e => Q (.inr e) σ1) x1 x2 σ) : wI (d + 2) 89 [.inr (.inr 133), .inl x1, .inl x2] σ Q K := ut0 rfl (Nat.le_of_ble_eq_true rfl) h
/-- WingTrams$Rides.hasStrap(III)Z, 90 -/
def M90 (lb : Nat) : List Bool := [[], [true, false, true, true, true], [true, false, true, true, true], [false, false, false, false, false]].getD lb []
def B90_0 (d : Nat) (Q : dR → dS → Prop) (x1 x2 x3 : Int) (σ : dS) : Prop := UT d 90 Q 0 (0, 0) [some (.inr (.inr 133)), some (.inl x1), some (.inl x2), some (.inl x3), none] [] σ
def B90_1 (d : Nat) (Q : dR → dS → Prop) (x2 x3 x4 : Int) (σ : dS) : Prop := UT d 90 Q 1 (0, 0) [some (.inr (.inr 133)), none, some (.inl x2), some (.inl x3), some (.inl x4)] [] σ
def B90_2 (d : Nat) (Q : dR → dS → Prop) (x2 x3 x4 : Int) (σ : dS) : Prop := UT d 90 Q 2 (0, 0) [some (.inr (.inr 133)), none, some (.inl x2), some (.inl x3), some (.inl x4)] [] σ
def B90_3 (d : Nat) (Q : dR → dS → Prop) (σ : dS) : Prop := UT d 90 Q 3 (0, 0) [none, none, none, none, none] [] σ
theorem b90_0 {d : Nat} {Q : dR → dS → Prop} {x1 x2 x3 : Int} {σ : dS} (h : B90_1 d Q x2 x3 x1 σ) : B90_0 d Q x1 x2 x3 σ := ut (m := M90) rfl h
theorem b90_1 {d : Nat} {Q : dR → dS → Prop} {x2 x3 x4 : Int} {σ : dS} (h : ((x2 ≤ x4) → B90_3 d Q σ) ∧ (¬ (x2 ≤ x4) → (((rat σ 141 40 x4) < x3) → B90_2 d Q x2 x3 x4 σ) ∧ (¬ ((rat σ 141 40 x4) < x3) → ((0 : Int) = 0 ∨ (0 : Int) = 1) ∧ Q (.inl (some (.inl 0))) σ))) : B90_1 d Q x2 x3 x4 σ := ut (m := M90) rfl h
theorem b90_2 {d : Nat} {Q : dR → dS → Prop} {x2 x3 x4 : Int} {σ : dS} (h : B90_1 d Q x2 x3 (wr (x4 + 1)) σ) : B90_2 d Q x2 x3 x4 σ := ut (m := M90) rfl h
theorem b90_3 {d : Nat} {Q : dR → dS → Prop} {σ : dS} (h : ((1 : Int) = 0 ∨ (1 : Int) = 1) ∧ Q (.inl (some (.inl 1))) σ) : B90_3 d Q σ := ut (m := M90) rfl h
theorem c90 {d : Nat} {Q : dR → dS → Prop} {K : Int → dS → Prop} {x1 x2 x3 : Int} {σ : dS} (h : B90_0 d (fun res σ1 => match res with | .inl (some (.inl v)) => K v σ1 | .inl _ => False | .inr e => Q (.inr e) σ1) x1 x2 x3 σ) : wI (d + 2) 90 [.inr (.inr 133), .inl x1, .inl x2, .inl x3] σ Q K := ut0 rfl (Nat.le_of_ble_eq_true rfl) h
