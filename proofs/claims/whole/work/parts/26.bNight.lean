/-! BLOCKS AS CLEAN ROWS, by program (wip/whole/gen/g26.py) -/
/-- WingTrams$Rules.joined(III)I, 19 -/
def M19 (lb : Nat) : List Bool := [[true, true, true], [false, true, true], [false, true, true], [false, true, true], [false, true, true], [false, true, true], [false, false, false], [false, true, true], [false, false, false], [false, false, false], [false, true, true], [false, false, false], [false, false, false], [false, true, true], [false, false, false], [false, false, false], [false, true, true], [false, false, false], [false, false, false], [false, false, false]].getD lb []
def B19_0 (d : Nat) (Q : dR → dS → Prop) (x0 x1 x2 : Int) (σ : dS) : Prop := UT d 19 Q 0 (0, 0) [some (.inl x0), some (.inl x1), some (.inl x2)] [] σ
def B19_1 (d : Nat) (Q : dR → dS → Prop) (x1 x2 : Int) (σ : dS) : Prop := UT d 19 Q 1 (0, 0) [none, some (.inl x1), some (.inl x2)] [] σ
def B19_2 (d : Nat) (Q : dR → dS → Prop) (x1 x2 : Int) (σ : dS) : Prop := UT d 19 Q 2 (0, 0) [none, some (.inl x1), some (.inl x2)] [] σ
def B19_3 (d : Nat) (Q : dR → dS → Prop) (x1 x2 : Int) (σ : dS) : Prop := UT d 19 Q 3 (0, 0) [none, some (.inl x1), some (.inl x2)] [] σ
def B19_4 (d : Nat) (Q : dR → dS → Prop) (x1 x2 : Int) (σ : dS) : Prop := UT d 19 Q 4 (0, 0) [none, some (.inl x1), some (.inl x2)] [] σ
def B19_5 (d : Nat) (Q : dR → dS → Prop) (x1 x2 : Int) (σ : dS) : Prop := UT d 19 Q 5 (0, 0) [none, some (.inl x1), some (.inl x2)] [] σ
def B19_6 (d : Nat) (Q : dR → dS → Prop) (s0 : Int) (σ : dS) : Prop := UT d 19 Q 6 (0, 0) [none, none, none] [.inl s0] σ
def B19_7 (d : Nat) (Q : dR → dS → Prop) (x1 x2 : Int) (σ : dS) : Prop := UT d 19 Q 7 (0, 0) [none, some (.inl x1), some (.inl x2)] [] σ
def B19_8 (d : Nat) (Q : dR → dS → Prop) (σ : dS) : Prop := UT d 19 Q 8 (0, 0) [none, none, none] [] σ
def B19_9 (d : Nat) (Q : dR → dS → Prop) (s0 : Int) (σ : dS) : Prop := UT d 19 Q 9 (0, 0) [none, none, none] [.inl s0] σ
def B19_10 (d : Nat) (Q : dR → dS → Prop) (x1 x2 : Int) (σ : dS) : Prop := UT d 19 Q 10 (0, 0) [none, some (.inl x1), some (.inl x2)] [] σ
def B19_11 (d : Nat) (Q : dR → dS → Prop) (σ : dS) : Prop := UT d 19 Q 11 (0, 0) [none, none, none] [] σ
def B19_12 (d : Nat) (Q : dR → dS → Prop) (s0 : Int) (σ : dS) : Prop := UT d 19 Q 12 (0, 0) [none, none, none] [.inl s0] σ
def B19_13 (d : Nat) (Q : dR → dS → Prop) (x1 x2 : Int) (σ : dS) : Prop := UT d 19 Q 13 (0, 0) [none, some (.inl x1), some (.inl x2)] [] σ
def B19_14 (d : Nat) (Q : dR → dS → Prop) (σ : dS) : Prop := UT d 19 Q 14 (0, 0) [none, none, none] [] σ
def B19_15 (d : Nat) (Q : dR → dS → Prop) (s0 : Int) (σ : dS) : Prop := UT d 19 Q 15 (0, 0) [none, none, none] [.inl s0] σ
def B19_16 (d : Nat) (Q : dR → dS → Prop) (x1 x2 : Int) (σ : dS) : Prop := UT d 19 Q 16 (0, 0) [none, some (.inl x1), some (.inl x2)] [] σ
def B19_17 (d : Nat) (Q : dR → dS → Prop) (σ : dS) : Prop := UT d 19 Q 17 (0, 0) [none, none, none] [] σ
def B19_18 (d : Nat) (Q : dR → dS → Prop) (σ : dS) : Prop := UT d 19 Q 18 (0, 0) [none, none, none] [] σ
def B19_19 (d : Nat) (Q : dR → dS → Prop) (s0 : Int) (σ : dS) : Prop := UT d 19 Q 19 (0, 0) [none, none, none] [.inl s0] σ
theorem b19_0 {d : Nat} {Q : dR → dS → Prop} {x0 x1 x2 : Int} {σ : dS} (h : ((x0 = 42) → B19_3 d Q x1 x2 σ) ∧ (¬ (x0 = 42) → ((x0 = 43) → B19_1 d Q x1 x2 σ) ∧ (¬ (x0 = 43) → ((x0 = 45) → B19_2 d Q x1 x2 σ) ∧ (¬ (x0 = 45) → ((x0 = 47) → B19_4 d Q x1 x2 σ) ∧ (¬ (x0 = 47) → ((x0 = 60) → B19_7 d Q x1 x2 σ) ∧ (¬ (x0 = 60) → ((x0 = 61) → B19_10 d Q x1 x2 σ) ∧ (¬ (x0 = 61) → ((x0 = 138) → B19_13 d Q x1 x2 σ) ∧ (¬ (x0 = 138) → B19_16 d Q x1 x2 σ)))))))) : B19_0 d Q x0 x1 x2 σ := ut (m := M19) rfl h
theorem b19_1 {d : Nat} {Q : dR → dS → Prop} {x1 x2 : Int} {σ : dS} (h : Q (.inl (some (.inl (wr (x1 + x2))))) σ) : B19_1 d Q x1 x2 σ := ut (m := M19) rfl h
theorem b19_2 {d : Nat} {Q : dR → dS → Prop} {x1 x2 : Int} {σ : dS} (h : Q (.inl (some (.inl (wr (x1 - x2))))) σ) : B19_2 d Q x1 x2 σ := ut (m := M19) rfl h
theorem b19_3 {d : Nat} {Q : dR → dS → Prop} {x1 x2 : Int} {σ : dS} (h : Q (.inl (some (.inl (wr (x1 * x2))))) σ) : B19_3 d Q x1 x2 σ := ut (m := M19) rfl h
theorem b19_4 {d : Nat} {Q : dR → dS → Prop} {x1 x2 : Int} {σ : dS} (h : ((x2 ≠ 0) → B19_5 d Q x1 x2 σ) ∧ (¬ (x2 ≠ 0) → B19_6 d Q 0 σ)) : B19_4 d Q x1 x2 σ := ut (m := M19) rfl h
theorem b19_5 {d : Nat} {Q : dR → dS → Prop} {x1 x2 : Int} {σ : dS} (h : (x2 ≠ 0) ∧ (B19_6 d Q (idv x1 x2) σ)) : B19_5 d Q x1 x2 σ := ut (m := M19) rfl h
theorem b19_6 {d : Nat} {Q : dR → dS → Prop} {s0 : Int} {σ : dS} (h : Q (.inl (some (.inl s0))) σ) : B19_6 d Q s0 σ := ut (m := M19) rfl h
theorem b19_7 {d : Nat} {Q : dR → dS → Prop} {x1 x2 : Int} {σ : dS} (h : ((x2 ≤ x1) → B19_8 d Q σ) ∧ (¬ (x2 ≤ x1) → B19_9 d Q 1 σ)) : B19_7 d Q x1 x2 σ := ut (m := M19) rfl h
theorem b19_8 {d : Nat} {Q : dR → dS → Prop} {σ : dS} (h : B19_9 d Q 0 σ) : B19_8 d Q σ := ut (m := M19) rfl h
theorem b19_9 {d : Nat} {Q : dR → dS → Prop} {s0 : Int} {σ : dS} (h : Q (.inl (some (.inl s0))) σ) : B19_9 d Q s0 σ := ut (m := M19) rfl h
theorem b19_10 {d : Nat} {Q : dR → dS → Prop} {x1 x2 : Int} {σ : dS} (h : ((x1 ≠ x2) → B19_11 d Q σ) ∧ (¬ (x1 ≠ x2) → B19_12 d Q 1 σ)) : B19_10 d Q x1 x2 σ := ut (m := M19) rfl h
theorem b19_11 {d : Nat} {Q : dR → dS → Prop} {σ : dS} (h : B19_12 d Q 0 σ) : B19_11 d Q σ := ut (m := M19) rfl h
theorem b19_12 {d : Nat} {Q : dR → dS → Prop} {s0 : Int} {σ : dS} (h : Q (.inl (some (.inl s0))) σ) : B19_12 d Q s0 σ := ut (m := M19) rfl h
theorem b19_13 {d : Nat} {Q : dR → dS → Prop} {x1 x2 : Int} {σ : dS} (h : ((x1 = 0) → B19_14 d Q σ) ∧ (¬ (x1 = 0) → ((x2 = 0) → B19_14 d Q σ) ∧ (¬ (x2 = 0) → B19_15 d Q 1 σ))) : B19_13 d Q x1 x2 σ := ut (m := M19) rfl h
theorem b19_14 {d : Nat} {Q : dR → dS → Prop} {σ : dS} (h : B19_15 d Q 0 σ) : B19_14 d Q σ := ut (m := M19) rfl h
theorem b19_15 {d : Nat} {Q : dR → dS → Prop} {s0 : Int} {σ : dS} (h : Q (.inl (some (.inl s0))) σ) : B19_15 d Q s0 σ := ut (m := M19) rfl h
theorem b19_16 {d : Nat} {Q : dR → dS → Prop} {x1 x2 : Int} {σ : dS} (h : ((x1 ≠ 0) → B19_17 d Q σ) ∧ (¬ (x1 ≠ 0) → ((x2 = 0) → B19_18 d Q σ) ∧ (¬ (x2 = 0) → B19_17 d Q σ))) : B19_16 d Q x1 x2 σ := ut (m := M19) rfl h
theorem b19_17 {d : Nat} {Q : dR → dS → Prop} {σ : dS} (h : B19_19 d Q 1 σ) : B19_17 d Q σ := ut (m := M19) rfl h
theorem b19_18 {d : Nat} {Q : dR → dS → Prop} {σ : dS} (h : B19_19 d Q 0 σ) : B19_18 d Q σ := ut (m := M19) rfl h
theorem b19_19 {d : Nat} {Q : dR → dS → Prop} {s0 : Int} {σ : dS} (h : Q (.inl (some (.inl s0))) σ) : B19_19 d Q s0 σ := ut (m := M19) rfl h
theorem c19 {d : Nat} {Q : dR → dS → Prop} {K : Int → dS → Prop} {x0 x1 x2 : Int} {σ : dS} (h : B19_0 d (fun res σ1 => match res with | .inl (some (.inl v)) => K v σ1 | .inl _ => False | .inr e => Q (.inr e) σ1) x0 x1 x2 σ) : wI (d + 2) 19 [.inl x0, .inl x1, .inl x2] σ Q K := ut0 rfl (Nat.le_of_ble_eq_true rfl) h
/-- WingTrams$Rules.valueOf(ILWingTrams$Row;)I, 18 -/
def M18 (lb : Nat) : List Bool := [[true, true, true, false, false, false, false], [true, true, true, true, true, false, false], [true, false, true, true, true, false, false], [true, false, true, true, true, true, false], [true, false, true, true, true, true, true], [true, false, true, true, true, true, true], [true, false, true, true, true, true, false], [true, false, true, true, true, true, false], [true, false, true, true, true, true, true], [true, false, true, true, true, true, false], [true, false, false, false, false, false, false]].getD lb []
def B18_0 (d : Nat) (Q : dR → dS → Prop) (x1 : Int) (σ : dS) : Prop := UT d 18 Q 0 (0, 0) [some (.inr (.inr 26)), some (.inl x1), some (.inr (.inr 129)), none, none, none, none] [] σ
def B18_1 (d : Nat) (Q : dR → dS → Prop) (x1 x3 x4 : Int) (σ : dS) : Prop := UT d 18 Q 1 (0, 0) [some (.inr (.inr 26)), some (.inl x1), some (.inr (.inr 129)), some (.inl x3), some (.inl x4), none, none] [] σ
def B18_2 (d : Nat) (Q : dR → dS → Prop) (x3 x4 s0 : Int) (σ : dS) : Prop := UT d 18 Q 2 (0, 0) [some (.inr (.inr 26)), none, some (.inr (.inr 129)), some (.inl x3), some (.inl x4), none, none] [.inl s0] σ
def B18_3 (d : Nat) (Q : dR → dS → Prop) (x3 x4 x5 : Int) (σ : dS) : Prop := UT d 18 Q 3 (0, 0) [some (.inr (.inr 26)), none, some (.inr (.inr 129)), some (.inl x3), some (.inl x4), some (.inl x5), none] [] σ
def B18_4 (d : Nat) (Q : dR → dS → Prop) (x3 x4 x5 x6 : Int) (σ : dS) : Prop := UT d 18 Q 4 (0, 0) [some (.inr (.inr 26)), none, some (.inr (.inr 129)), some (.inl x3), some (.inl x4), some (.inl x5), some (.inl x6)] [] σ
def B18_5 (d : Nat) (Q : dR → dS → Prop) (x3 x4 x5 x6 : Int) (σ : dS) : Prop := UT d 18 Q 5 (0, 0) [some (.inr (.inr 26)), none, some (.inr (.inr 129)), some (.inl x3), some (.inl x4), some (.inl x5), some (.inl x6)] [] σ
def B18_6 (d : Nat) (Q : dR → dS → Prop) (x3 x4 x5 s0 : Int) (σ : dS) : Prop := UT d 18 Q 6 (0, 0) [some (.inr (.inr 26)), none, some (.inr (.inr 129)), some (.inl x3), some (.inl x4), some (.inl x5), none] [.inl s0, .inr (.inr 31)] σ
def B18_7 (d : Nat) (Q : dR → dS → Prop) (x3 x4 x5 s0 s1 : Int) (σ : dS) : Prop := UT d 18 Q 7 (0, 0) [some (.inr (.inr 26)), none, some (.inr (.inr 129)), some (.inl x3), some (.inl x4), some (.inl x5), none] [.inl s0, .inl s1, .inr (.inr 31)] σ
def B18_8 (d : Nat) (Q : dR → dS → Prop) (x3 x4 x5 x6 : Int) (σ : dS) : Prop := UT d 18 Q 8 (0, 0) [some (.inr (.inr 26)), none, some (.inr (.inr 129)), some (.inl x3), some (.inl x4), some (.inl x5), some (.inl x6)] [] σ
def B18_9 (d : Nat) (Q : dR → dS → Prop) (x3 x4 x5 : Int) (σ : dS) : Prop := UT d 18 Q 9 (0, 0) [some (.inr (.inr 26)), none, some (.inr (.inr 129)), some (.inl x3), some (.inl x4), some (.inl x5), none] [] σ
def B18_10 (d : Nat) (Q : dR → dS → Prop) (σ : dS) : Prop := UT d 18 Q 10 (0, 0) [some (.inr (.inr 26)), none, none, none, none, none, none] [] σ
theorem b18_0 {d : Nat} {Q : dR → dS → Prop} {x1 : Int} {σ : dS} (h : ((x1 ≠ 0) → B18_1 d Q x1 0 (rat σ 30 4 x1) σ) ∧ (¬ (x1 ≠ 0) → B18_2 d Q 0 (rat σ 30 4 x1) 0 σ)) : B18_0 d Q x1 σ := ut (m := M18) rfl h
theorem b18_1 {d : Nat} {Q : dR → dS → Prop} {x1 x3 x4 : Int} {σ : dS} (h : B18_2 d Q x3 x4 (rat σ 30 4 (wr (x1 - 1))) σ) : B18_1 d Q x1 x3 x4 σ := ut (m := M18) rfl h
theorem b18_2 {d : Nat} {Q : dR → dS → Prop} {x3 x4 s0 : Int} {σ : dS} (h : B18_3 d Q x3 x4 s0 σ) : B18_2 d Q x3 x4 s0 σ := ut (m := M18) rfl h
theorem b18_3 {d : Nat} {Q : dR → dS → Prop} {x3 x4 x5 : Int} {σ : dS} (h : ((x4 ≤ x5) → B18_10 d Q σ) ∧ (¬ (x4 ≤ x5) → (((rat σ 28 700 x5) < 0) → B18_4 d Q x3 x4 x5 (rat σ 28 700 x5) σ) ∧ (¬ ((rat σ 28 700 x5) < 0) → ∀ σ1 : dS, σ1 = rput σ 32 64 x3 (rat σ 28 700 x5) → (B18_9 d Q (wr (x3 + 1)) x4 x5 σ1)))) : B18_3 d Q x3 x4 x5 σ := ut (m := M18) rfl h
theorem b18_4 {d : Nat} {Q : dR → dS → Prop} {x3 x4 x5 x6 : Int} {σ : dS} (h : (((wr (-x6)) < (140 : Int)) → B18_5 d Q x3 x4 x5 x6 σ) ∧ (¬ ((wr (-x6)) < (140 : Int)) → ∀ σ1 : dS, σ1 = rput σ 32 64 x3 (rat σ 130 7 (wr ((wr (-x6)) - 140))) → (B18_9 d Q (wr (x3 + 1)) x4 x5 σ1))) : B18_4 d Q x3 x4 x5 x6 σ := ut (m := M18) rfl h
theorem b18_5 {d : Nat} {Q : dR → dS → Prop} {x3 x4 x5 x6 : Int} {σ : dS} (h : (((wr (-x6)) ≠ (139 : Int)) → B18_8 d Q x3 x4 x5 x6 σ) ∧ (¬ ((wr (-x6)) ≠ (139 : Int)) → (((rat σ 32 64 (wr (x3 - 1))) ≠ 0) → B18_6 d Q x3 x4 x5 (wr (x3 - 1)) σ) ∧ (¬ ((rat σ 32 64 (wr (x3 - 1))) ≠ 0) → B18_7 d Q x3 x4 x5 1 (wr (x3 - 1)) σ))) : B18_5 d Q x3 x4 x5 x6 σ := ut (m := M18) rfl h
theorem b18_6 {d : Nat} {Q : dR → dS → Prop} {x3 x4 x5 s0 : Int} {σ : dS} (h : B18_7 d Q x3 x4 x5 0 s0 σ) : B18_6 d Q x3 x4 x5 s0 σ := ut (m := M18) rfl h
theorem b18_7 {d : Nat} {Q : dR → dS → Prop} {x3 x4 x5 s0 s1 : Int} {σ : dS} (h : ∀ σ1 : dS, σ1 = rput σ 32 64 s1 s0 → (B18_9 d Q x3 x4 x5 σ1)) : B18_7 d Q x3 x4 x5 s0 s1 σ := ut (m := M18) rfl h
theorem b18_8 {d : Nat} {Q : dR → dS → Prop} {x3 x4 x5 x6 : Int} {σ : dS} (h : wI (d + 1) 19 [.inl (wr (-x6)), .inl (rat σ 32 64 (wr ((wr (x3 + (-1))) - 1))), .inl (rat σ 32 64 (wr (x3 + (-1))))] σ Q (fun v1 σ1 => ∀ σ2 : dS, σ2 = rput σ1 32 64 (wr ((wr (x3 + (-1))) - 1)) v1 → (B18_9 d Q (wr (x3 + (-1))) x4 x5 σ2))) : B18_8 d Q x3 x4 x5 x6 σ := ut (m := M18) rfl h
theorem b18_9 {d : Nat} {Q : dR → dS → Prop} {x3 x4 x5 : Int} {σ : dS} (h : B18_3 d Q x3 x4 (wr (x5 + 1)) σ) : B18_9 d Q x3 x4 x5 σ := ut (m := M18) rfl h
theorem b18_10 {d : Nat} {Q : dR → dS → Prop} {σ : dS} (h : Q (.inl (some (.inl (rat σ 32 64 0)))) σ) : B18_10 d Q σ := ut (m := M18) rfl h
theorem c18 {d : Nat} {Q : dR → dS → Prop} {K : Int → dS → Prop} {x1 : Int} {σ : dS} (h : B18_0 d (fun res σ1 => match res with | .inl (some (.inl v)) => K v σ1 | .inl _ => False | .inr e => Q (.inr e) σ1) x1 σ) : wI (d + 2) 18 [.inr (.inr 26), .inl x1, .inr (.inr 129)] σ Q K := ut0 rfl (Nat.le_of_ble_eq_true rfl) h
/-- WingTrams$Sky.nesting(I)Z, 23_70 -/
def M23_70 (lb : Nat) : List Bool := [[true, true], [false, false], [false, false]].getD lb []
def B23_70_0 (d : Nat) (Q : dR → dS → Prop) (x1 : Int) (σ : dS) : Prop := UT d 23 Q 0 (0, 0) [some (.inr (.inr 70)), some (.inl x1)] [] σ
def B23_70_1 (d : Nat) (Q : dR → dS → Prop) (σ : dS) : Prop := UT d 23 Q 1 (0, 0) [none, none] [] σ
def B23_70_2 (d : Nat) (Q : dR → dS → Prop) (s0 : Int) (σ : dS) : Prop := UT d 23 Q 2 (0, 0) [none, none] [.inl s0] σ
theorem b23_70_0 {d : Nat} {Q : dR → dS → Prop} {x1 : Int} {σ : dS} (h : (((ian (shr (σ 70 3) x1) 1) ≠ (1 : Int)) → B23_70_1 d Q σ) ∧ (¬ ((ian (shr (σ 70 3) x1) 1) ≠ (1 : Int)) → B23_70_2 d Q 1 σ)) : B23_70_0 d Q x1 σ := ut (m := M23_70) rfl h
theorem b23_70_1 {d : Nat} {Q : dR → dS → Prop} {σ : dS} (h : B23_70_2 d Q 0 σ) : B23_70_1 d Q σ := ut (m := M23_70) rfl h
theorem b23_70_2 {d : Nat} {Q : dR → dS → Prop} {s0 : Int} {σ : dS} (h : (s0 = 0 ∨ s0 = 1) ∧ Q (.inl (some (.inl s0))) σ) : B23_70_2 d Q s0 σ := ut (m := M23_70) rfl h
theorem c23_70 {d : Nat} {Q : dR → dS → Prop} {K : Int → dS → Prop} {x1 : Int} {σ : dS} (h : B23_70_0 d (fun res σ1 => match res with | .inl (some (.inl v)) => K v σ1 | .inl _ => False | .inr e => Q (.inr e) σ1) x1 σ) : wI (d + 2) 23 [.inr (.inr 70), .inl x1] σ Q K := ut0 rfl (Nat.le_of_ble_eq_true rfl) h
/-- WingTrams$Sky.nesting(I)Z, 23_109 -/
def M23_109 (lb : Nat) : List Bool := [[true, true], [false, false], [false, false]].getD lb []
def B23_109_0 (d : Nat) (Q : dR → dS → Prop) (x1 : Int) (σ : dS) : Prop := UT d 23 Q 0 (0, 0) [some (.inr (.inr 109)), some (.inl x1)] [] σ
def B23_109_1 (d : Nat) (Q : dR → dS → Prop) (σ : dS) : Prop := UT d 23 Q 1 (0, 0) [none, none] [] σ
def B23_109_2 (d : Nat) (Q : dR → dS → Prop) (s0 : Int) (σ : dS) : Prop := UT d 23 Q 2 (0, 0) [none, none] [.inl s0] σ
theorem b23_109_0 {d : Nat} {Q : dR → dS → Prop} {x1 : Int} {σ : dS} (h : (((ian (shr (σ 109 3) x1) 1) ≠ (1 : Int)) → B23_109_1 d Q σ) ∧ (¬ ((ian (shr (σ 109 3) x1) 1) ≠ (1 : Int)) → B23_109_2 d Q 1 σ)) : B23_109_0 d Q x1 σ := ut (m := M23_109) rfl h
theorem b23_109_1 {d : Nat} {Q : dR → dS → Prop} {σ : dS} (h : B23_109_2 d Q 0 σ) : B23_109_1 d Q σ := ut (m := M23_109) rfl h
theorem b23_109_2 {d : Nat} {Q : dR → dS → Prop} {s0 : Int} {σ : dS} (h : (s0 = 0 ∨ s0 = 1) ∧ Q (.inl (some (.inl s0))) σ) : B23_109_2 d Q s0 σ := ut (m := M23_109) rfl h
theorem c23_109 {d : Nat} {Q : dR → dS → Prop} {K : Int → dS → Prop} {x1 : Int} {σ : dS} (h : B23_109_0 d (fun res σ1 => match res with | .inl (some (.inl v)) => K v σ1 | .inl _ => False | .inr e => Q (.inr e) σ1) x1 σ) : wI (d + 2) 23 [.inr (.inr 109), .inl x1] σ Q K := ut0 rfl (Nat.le_of_ble_eq_true rfl) h
/-- WingTrams$City.minutesBetween(II)I, 28_5 -/
def M28_5 (lb : Nat) : List Bool := [[true, true, true, false], [false, false, false, true], [false, false, false, false]].getD lb []
def B28_5_0 (d : Nat) (Q : dR → dS → Prop) (x1 x2 : Int) (σ : dS) : Prop := UT d 28 Q 0 (0, 0) [some (.inr (.inr 5)), some (.inl x1), some (.inl x2), none] [] σ
def B28_5_1 (d : Nat) (Q : dR → dS → Prop) (x3 : Int) (σ : dS) : Prop := UT d 28 Q 1 (0, 0) [none, none, none, some (.inl x3)] [] σ
def B28_5_2 (d : Nat) (Q : dR → dS → Prop) (s0 : Int) (σ : dS) : Prop := UT d 28 Q 2 (0, 0) [none, none, none, none] [.inl s0] σ
theorem b28_5_0 {d : Nat} {Q : dR → dS → Prop} {x1 x2 : Int} {σ : dS} (h : (((rat σ 9 100 (wr ((wr (x1 * 10)) + x2))) ≠ 0) → B28_5_1 d Q (rat σ 9 100 (wr ((wr (x1 * 10)) + x2))) σ) ∧ (¬ ((rat σ 9 100 (wr ((wr (x1 * 10)) + x2))) ≠ 0) → B28_5_2 d Q (-1) σ)) : B28_5_0 d Q x1 x2 σ := ut (m := M28_5) rfl h
theorem b28_5_1 {d : Nat} {Q : dR → dS → Prop} {x3 : Int} {σ : dS} (h : B28_5_2 d Q x3 σ) : B28_5_1 d Q x3 σ := ut (m := M28_5) rfl h
theorem b28_5_2 {d : Nat} {Q : dR → dS → Prop} {s0 : Int} {σ : dS} (h : Q (.inl (some (.inl s0))) σ) : B28_5_2 d Q s0 σ := ut (m := M28_5) rfl h
theorem c28_5 {d : Nat} {Q : dR → dS → Prop} {K : Int → dS → Prop} {x1 x2 : Int} {σ : dS} (h : B28_5_0 d (fun res σ1 => match res with | .inl (some (.inl v)) => K v σ1 | .inl _ => False | .inr e => Q (.inr e) σ1) x1 x2 σ) : wI (d + 2) 28 [.inr (.inr 5), .inl x1, .inl x2] σ Q K := ut0 rfl (Nat.le_of_ble_eq_true rfl) h
/-- WingTrams$City.minutesBetween(II)I, 28_33 -/
def M28_33 (lb : Nat) : List Bool := [[true, true, true, false], [false, false, false, true], [false, false, false, false]].getD lb []
def B28_33_0 (d : Nat) (Q : dR → dS → Prop) (x1 x2 : Int) (σ : dS) : Prop := UT d 28 Q 0 (0, 0) [some (.inr (.inr 33)), some (.inl x1), some (.inl x2), none] [] σ
def B28_33_1 (d : Nat) (Q : dR → dS → Prop) (x3 : Int) (σ : dS) : Prop := UT d 28 Q 1 (0, 0) [none, none, none, some (.inl x3)] [] σ
def B28_33_2 (d : Nat) (Q : dR → dS → Prop) (s0 : Int) (σ : dS) : Prop := UT d 28 Q 2 (0, 0) [none, none, none, none] [.inl s0] σ
theorem b28_33_0 {d : Nat} {Q : dR → dS → Prop} {x1 x2 : Int} {σ : dS} (h : (((rat σ 37 100 (wr ((wr (x1 * 10)) + x2))) ≠ 0) → B28_33_1 d Q (rat σ 37 100 (wr ((wr (x1 * 10)) + x2))) σ) ∧ (¬ ((rat σ 37 100 (wr ((wr (x1 * 10)) + x2))) ≠ 0) → B28_33_2 d Q (-1) σ)) : B28_33_0 d Q x1 x2 σ := ut (m := M28_33) rfl h
theorem b28_33_1 {d : Nat} {Q : dR → dS → Prop} {x3 : Int} {σ : dS} (h : B28_33_2 d Q x3 σ) : B28_33_1 d Q x3 σ := ut (m := M28_33) rfl h
theorem b28_33_2 {d : Nat} {Q : dR → dS → Prop} {s0 : Int} {σ : dS} (h : Q (.inl (some (.inl s0))) σ) : B28_33_2 d Q s0 σ := ut (m := M28_33) rfl h
theorem c28_33 {d : Nat} {Q : dR → dS → Prop} {K : Int → dS → Prop} {x1 x2 : Int} {σ : dS} (h : B28_33_0 d (fun res σ1 => match res with | .inl (some (.inl v)) => K v σ1 | .inl _ => False | .inr e => Q (.inr e) σ1) x1 x2 σ) : wI (d + 2) 28 [.inr (.inr 33), .inl x1, .inl x2] σ Q K := ut0 rfl (Nat.le_of_ble_eq_true rfl) h
/-- WingTrams$Night.pass(LWingTrams$Sky;)V, 68_70 -/
def M68_70 (lb : Nat) : List Bool := [[true, true, false, false], [true, true, true, false], [true, true, false, false], [true, true, true, false], [true, true, true, false], [true, true, true, false], [true, true, false, false], [true, true, true, false], [true, true, true, true], [false, false, false, false]].getD lb []
def B68_70_0 (d : Nat) (Q : dR → dS → Prop) (σ : dS) : Prop := UT d 68 Q 0 (0, 0) [some (.inr (.inr 114)), some (.inr (.inr 70)), none, none] [] σ
def B68_70_1 (d : Nat) (Q : dR → dS → Prop) (x2 : Int) (σ : dS) : Prop := UT d 68 Q 1 (0, 0) [some (.inr (.inr 114)), some (.inr (.inr 70)), some (.inl x2), none] [] σ
def B68_70_2 (d : Nat) (Q : dR → dS → Prop) (σ : dS) : Prop := UT d 68 Q 2 (0, 0) [some (.inr (.inr 114)), some (.inr (.inr 70)), none, none] [] σ
def B68_70_3 (d : Nat) (Q : dR → dS → Prop) (x2 : Int) (σ : dS) : Prop := UT d 68 Q 3 (0, 0) [some (.inr (.inr 114)), some (.inr (.inr 70)), some (.inl x2), none] [] σ
def B68_70_4 (d : Nat) (Q : dR → dS → Prop) (x2 s0 : Int) (σ : dS) : Prop := UT d 68 Q 4 (0, 0) [some (.inr (.inr 114)), some (.inr (.inr 70)), some (.inl x2), none] [.inl s0, .inr (.inr 127)] σ
def B68_70_5 (d : Nat) (Q : dR → dS → Prop) (x2 s0 s1 : Int) (σ : dS) : Prop := UT d 68 Q 5 (0, 0) [some (.inr (.inr 114)), some (.inr (.inr 70)), some (.inl x2), none] [.inl s0, .inl s1, .inr (.inr 127)] σ
def B68_70_6 (d : Nat) (Q : dR → dS → Prop) (σ : dS) : Prop := UT d 68 Q 6 (0, 0) [some (.inr (.inr 114)), some (.inr (.inr 70)), none, none] [] σ
def B68_70_7 (d : Nat) (Q : dR → dS → Prop) (x2 : Int) (σ : dS) : Prop := UT d 68 Q 7 (0, 0) [some (.inr (.inr 114)), some (.inr (.inr 70)), some (.inl x2), none] [] σ
def B68_70_8 (d : Nat) (Q : dR → dS → Prop) (x2 x3 : Int) (σ : dS) : Prop := UT d 68 Q 8 (0, 0) [some (.inr (.inr 114)), some (.inr (.inr 70)), some (.inl x2), some (.inl x3)] [] σ
def B68_70_9 (d : Nat) (Q : dR → dS → Prop) (σ : dS) : Prop := UT d 68 Q 9 (0, 0) [none, none, none, none] [] σ
theorem b68_70_0 {d : Nat} {Q : dR → dS → Prop} {σ : dS} (h : ∀ σ1 : dS, σ1 = up σ 114 7 0 → (B68_70_1 d Q 0 σ1)) : B68_70_0 d Q σ := ut (m := M68_70) rfl h
theorem b68_70_1 {d : Nat} {Q : dR → dS → Prop} {x2 : Int} {σ : dS} (h : (((σ 5 0) ≤ x2) → B68_70_2 d Q σ) ∧ (¬ ((σ 5 0) ≤ x2) → ∀ σ1 : dS, σ1 = rput σ 120 10 x2 (wr (2 * (rat σ 72 10 x2))) → (B68_70_1 d Q (wr (x2 + 1)) σ1))) : B68_70_1 d Q x2 σ := ut (m := M68_70) rfl h
theorem b68_70_2 {d : Nat} {Q : dR → dS → Prop} {σ : dS} (h : B68_70_3 d Q 0 σ) : B68_70_2 d Q σ := ut (m := M68_70) rfl h
theorem b68_70_3 {d : Nat} {Q : dR → dS → Prop} {x2 : Int} {σ : dS} (h : (((σ 5 2) ≤ x2) → B68_70_6 d Q σ) ∧ (¬ ((σ 5 2) ≤ x2) → ∀ σ1 : dS, σ1 = rput σ 122 5 x2 0 → (∀ σ2 : dS, σ2 = rput σ1 124 5 x2 0 → (wI (d + 1) 23 [.inr (.inr 70), .inl x2] σ2 Q (fun v3 σ3 => ((v3 = 0) → B68_70_4 d Q x2 x2 σ3) ∧ (¬ (v3 = 0) → B68_70_5 d Q x2 2147483647 x2 σ3)))))) : B68_70_3 d Q x2 σ := ut (m := M68_70) rfl h
theorem b68_70_4 {d : Nat} {Q : dR → dS → Prop} {x2 s0 : Int} {σ : dS} (h : B68_70_5 d Q x2 (rat σ 74 5 x2) s0 σ) : B68_70_4 d Q x2 s0 σ := ut (m := M68_70) rfl h
theorem b68_70_5 {d : Nat} {Q : dR → dS → Prop} {x2 s0 s1 : Int} {σ : dS} (h : ∀ σ1 : dS, σ1 = rput σ 128 5 s1 s0 → (B68_70_3 d Q (wr (x2 + 1)) σ1)) : B68_70_5 d Q x2 s0 s1 σ := ut (m := M68_70) rfl h
theorem b68_70_6 {d : Nat} {Q : dR → dS → Prop} {σ : dS} (h : B68_70_7 d Q 0 σ) : B68_70_6 d Q σ := ut (m := M68_70) rfl h
theorem b68_70_7 {d : Nat} {Q : dR → dS → Prop} {x2 : Int} {σ : dS} (h : (((40 : Int) ≤ x2) → B68_70_9 d Q σ) ∧ (¬ ((40 : Int) ≤ x2) → wI (d + 1) 69 [.inr (.inr 114)] σ Q (fun v1 σ1 => ((v1 ≠ (-1 : Int)) → B68_70_8 d Q x2 v1 σ1) ∧ (¬ (v1 ≠ (-1 : Int)) → Q (.inl none) σ1)))) : B68_70_7 d Q x2 σ := ut (m := M68_70) rfl h
theorem b68_70_8 {d : Nat} {Q : dR → dS → Prop} {x2 x3 : Int} {σ : dS} (h : wV (d + 1) 70 [.inr (.inr 114), .inl x3, .inr (.inr 70)] σ Q (fun σ1 => B68_70_7 d Q (wr (x2 + 1)) σ1)) : B68_70_8 d Q x2 x3 σ := ut (m := M68_70) rfl h
theorem b68_70_9 {d : Nat} {Q : dR → dS → Prop} {σ : dS} (h : Q (.inl none) σ) : B68_70_9 d Q σ := ut (m := M68_70) rfl h
theorem c68_70 {d : Nat} {Q : dR → dS → Prop} {K : dS → Prop} {σ : dS} (h : B68_70_0 d (fun res σ1 => match res with | .inl none => K σ1 | .inl (some _) => False | .inr e => Q (.inr e) σ1) σ) : wV (d + 2) 68 [.inr (.inr 114), .inr (.inr 70)] σ Q K := ut0 rfl (Nat.le_of_ble_eq_true rfl) h
/-- WingTrams$Night.pass(LWingTrams$Sky;)V, 68_109 -/
def M68_109 (lb : Nat) : List Bool := [[true, true, false, false], [true, true, true, false], [true, true, false, false], [true, true, true, false], [true, true, true, false], [true, true, true, false], [true, true, false, false], [true, true, true, false], [true, true, true, true], [false, false, false, false]].getD lb []
def B68_109_0 (d : Nat) (Q : dR → dS → Prop) (σ : dS) : Prop := UT d 68 Q 0 (0, 0) [some (.inr (.inr 114)), some (.inr (.inr 109)), none, none] [] σ
def B68_109_1 (d : Nat) (Q : dR → dS → Prop) (x2 : Int) (σ : dS) : Prop := UT d 68 Q 1 (0, 0) [some (.inr (.inr 114)), some (.inr (.inr 109)), some (.inl x2), none] [] σ
def B68_109_2 (d : Nat) (Q : dR → dS → Prop) (σ : dS) : Prop := UT d 68 Q 2 (0, 0) [some (.inr (.inr 114)), some (.inr (.inr 109)), none, none] [] σ
def B68_109_3 (d : Nat) (Q : dR → dS → Prop) (x2 : Int) (σ : dS) : Prop := UT d 68 Q 3 (0, 0) [some (.inr (.inr 114)), some (.inr (.inr 109)), some (.inl x2), none] [] σ
def B68_109_4 (d : Nat) (Q : dR → dS → Prop) (x2 s0 : Int) (σ : dS) : Prop := UT d 68 Q 4 (0, 0) [some (.inr (.inr 114)), some (.inr (.inr 109)), some (.inl x2), none] [.inl s0, .inr (.inr 127)] σ
def B68_109_5 (d : Nat) (Q : dR → dS → Prop) (x2 s0 s1 : Int) (σ : dS) : Prop := UT d 68 Q 5 (0, 0) [some (.inr (.inr 114)), some (.inr (.inr 109)), some (.inl x2), none] [.inl s0, .inl s1, .inr (.inr 127)] σ
def B68_109_6 (d : Nat) (Q : dR → dS → Prop) (σ : dS) : Prop := UT d 68 Q 6 (0, 0) [some (.inr (.inr 114)), some (.inr (.inr 109)), none, none] [] σ
def B68_109_7 (d : Nat) (Q : dR → dS → Prop) (x2 : Int) (σ : dS) : Prop := UT d 68 Q 7 (0, 0) [some (.inr (.inr 114)), some (.inr (.inr 109)), some (.inl x2), none] [] σ
def B68_109_8 (d : Nat) (Q : dR → dS → Prop) (x2 x3 : Int) (σ : dS) : Prop := UT d 68 Q 8 (0, 0) [some (.inr (.inr 114)), some (.inr (.inr 109)), some (.inl x2), some (.inl x3)] [] σ
def B68_109_9 (d : Nat) (Q : dR → dS → Prop) (σ : dS) : Prop := UT d 68 Q 9 (0, 0) [none, none, none, none] [] σ
theorem b68_109_0 {d : Nat} {Q : dR → dS → Prop} {σ : dS} (h : ∀ σ1 : dS, σ1 = up σ 114 7 0 → (B68_109_1 d Q 0 σ1)) : B68_109_0 d Q σ := ut (m := M68_109) rfl h
theorem b68_109_1 {d : Nat} {Q : dR → dS → Prop} {x2 : Int} {σ : dS} (h : (((σ 5 0) ≤ x2) → B68_109_2 d Q σ) ∧ (¬ ((σ 5 0) ≤ x2) → ∀ σ1 : dS, σ1 = rput σ 120 10 x2 (wr (2 * (rat σ 111 10 x2))) → (B68_109_1 d Q (wr (x2 + 1)) σ1))) : B68_109_1 d Q x2 σ := ut (m := M68_109) rfl h
theorem b68_109_2 {d : Nat} {Q : dR → dS → Prop} {σ : dS} (h : B68_109_3 d Q 0 σ) : B68_109_2 d Q σ := ut (m := M68_109) rfl h
theorem b68_109_3 {d : Nat} {Q : dR → dS → Prop} {x2 : Int} {σ : dS} (h : (((σ 5 2) ≤ x2) → B68_109_6 d Q σ) ∧ (¬ ((σ 5 2) ≤ x2) → ∀ σ1 : dS, σ1 = rput σ 122 5 x2 0 → (∀ σ2 : dS, σ2 = rput σ1 124 5 x2 0 → (wI (d + 1) 23 [.inr (.inr 109), .inl x2] σ2 Q (fun v3 σ3 => ((v3 = 0) → B68_109_4 d Q x2 x2 σ3) ∧ (¬ (v3 = 0) → B68_109_5 d Q x2 2147483647 x2 σ3)))))) : B68_109_3 d Q x2 σ := ut (m := M68_109) rfl h
theorem b68_109_4 {d : Nat} {Q : dR → dS → Prop} {x2 s0 : Int} {σ : dS} (h : B68_109_5 d Q x2 (rat σ 113 5 x2) s0 σ) : B68_109_4 d Q x2 s0 σ := ut (m := M68_109) rfl h
theorem b68_109_5 {d : Nat} {Q : dR → dS → Prop} {x2 s0 s1 : Int} {σ : dS} (h : ∀ σ1 : dS, σ1 = rput σ 128 5 s1 s0 → (B68_109_3 d Q (wr (x2 + 1)) σ1)) : B68_109_5 d Q x2 s0 s1 σ := ut (m := M68_109) rfl h
theorem b68_109_6 {d : Nat} {Q : dR → dS → Prop} {σ : dS} (h : B68_109_7 d Q 0 σ) : B68_109_6 d Q σ := ut (m := M68_109) rfl h
theorem b68_109_7 {d : Nat} {Q : dR → dS → Prop} {x2 : Int} {σ : dS} (h : (((40 : Int) ≤ x2) → B68_109_9 d Q σ) ∧ (¬ ((40 : Int) ≤ x2) → wI (d + 1) 69 [.inr (.inr 114)] σ Q (fun v1 σ1 => ((v1 ≠ (-1 : Int)) → B68_109_8 d Q x2 v1 σ1) ∧ (¬ (v1 ≠ (-1 : Int)) → Q (.inl none) σ1)))) : B68_109_7 d Q x2 σ := ut (m := M68_109) rfl h
theorem b68_109_8 {d : Nat} {Q : dR → dS → Prop} {x2 x3 : Int} {σ : dS} (h : wV (d + 1) 70 [.inr (.inr 114), .inl x3, .inr (.inr 109)] σ Q (fun σ1 => B68_109_7 d Q (wr (x2 + 1)) σ1)) : B68_109_8 d Q x2 x3 σ := ut (m := M68_109) rfl h
theorem b68_109_9 {d : Nat} {Q : dR → dS → Prop} {σ : dS} (h : Q (.inl none) σ) : B68_109_9 d Q σ := ut (m := M68_109) rfl h
theorem c68_109 {d : Nat} {Q : dR → dS → Prop} {K : dS → Prop} {σ : dS} (h : B68_109_0 d (fun res σ1 => match res with | .inl none => K σ1 | .inl (some _) => False | .inr e => Q (.inr e) σ1) σ) : wV (d + 2) 68 [.inr (.inr 114), .inr (.inr 109)] σ Q K := ut0 rfl (Nat.le_of_ble_eq_true rfl) h
/-- WingTrams$Night.nextOwl()I, 69 -/
def M69 (lb : Nat) : List Bool := [[true, false, false, false], [true, true, true, true], [true, true, true, true], [false, true, false, false]].getD lb []
def B69_0 (d : Nat) (Q : dR → dS → Prop) (σ : dS) : Prop := UT d 69 Q 0 (0, 0) [some (.inr (.inr 114)), none, none, none] [] σ
def B69_1 (d : Nat) (Q : dR → dS → Prop) (x1 x2 x3 : Int) (σ : dS) : Prop := UT d 69 Q 1 (0, 0) [some (.inr (.inr 114)), some (.inl x1), some (.inl x2), some (.inl x3)] [] σ
def B69_2 (d : Nat) (Q : dR → dS → Prop) (x1 x2 x3 : Int) (σ : dS) : Prop := UT d 69 Q 2 (0, 0) [some (.inr (.inr 114)), some (.inl x1), some (.inl x2), some (.inl x3)] [] σ
def B69_3 (d : Nat) (Q : dR → dS → Prop) (x1 : Int) (σ : dS) : Prop := UT d 69 Q 3 (0, 0) [none, some (.inl x1), none, none] [] σ
theorem b69_0 {d : Nat} {Q : dR → dS → Prop} {σ : dS} (h : B69_1 d Q (-1) 2147483647 0 σ) : B69_0 d Q σ := ut (m := M69) rfl h
theorem b69_1 {d : Nat} {Q : dR → dS → Prop} {x1 x2 x3 : Int} {σ : dS} (h : (((σ 5 2) ≤ x3) → B69_3 d Q x1 σ) ∧ (¬ ((σ 5 2) ≤ x3) → ((x2 ≤ (rat σ 128 5 x3)) → B69_2 d Q x1 x2 x3 σ) ∧ (¬ (x2 ≤ (rat σ 128 5 x3)) → B69_2 d Q x3 (rat σ 128 5 x3) x3 σ))) : B69_1 d Q x1 x2 x3 σ := ut (m := M69) rfl h
theorem b69_2 {d : Nat} {Q : dR → dS → Prop} {x1 x2 x3 : Int} {σ : dS} (h : B69_1 d Q x1 x2 (wr (x3 + 1)) σ) : B69_2 d Q x1 x2 x3 σ := ut (m := M69) rfl h
theorem b69_3 {d : Nat} {Q : dR → dS → Prop} {x1 : Int} {σ : dS} (h : Q (.inl (some (.inl x1))) σ) : B69_3 d Q x1 σ := ut (m := M69) rfl h
theorem c69 {d : Nat} {Q : dR → dS → Prop} {K : Int → dS → Prop} {σ : dS} (h : B69_0 d (fun res σ1 => match res with | .inl (some (.inl v)) => K v σ1 | .inl _ => False | .inr e => Q (.inr e) σ1) σ) : wI (d + 2) 69 [.inr (.inr 114)] σ Q K := ut0 rfl (Nat.le_of_ble_eq_true rfl) h
/-- WingTrams$Night.come(ILWingTrams$Sky;)V, 70_70 -/
def M70_70 (lb : Nat) : List Bool := [[true, true, true, false, false, false, false, false, false], [true, true, true, true, false, false, true, true, false], [true, true, true, true, false, false, true, true, false], [true, true, true, true, false, false, true, true, false], [false, false, false, false, false, false, false, false, false], [false, false, false, false, false, false, false, false, false]].getD lb []
def B70_70_0 (d : Nat) (Q : dR → dS → Prop) (x1 : Int) (σ : dS) : Prop := UT d 70 Q 0 (0, 0) [some (.inr (.inr 114)), some (.inl x1), some (.inr (.inr 70)), none, none, none, none, none, none] [] σ
def B70_70_1 (d : Nat) (Q : dR → dS → Prop) (x1 x3 x6 x7 : Int) (σ : dS) : Prop := UT d 70 Q 1 (0, 0) [some (.inr (.inr 114)), some (.inl x1), some (.inr (.inr 70)), some (.inl x3), none, none, some (.inl x6), some (.inl x7), none] [] σ
def B70_70_2 (d : Nat) (Q : dR → dS → Prop) (x1 x3 x6 x7 : Int) (σ : dS) : Prop := UT d 70 Q 2 (0, 0) [some (.inr (.inr 114)), some (.inl x1), some (.inr (.inr 70)), some (.inl x3), none, none, some (.inl x6), some (.inl x7), none] [] σ
def B70_70_3 (d : Nat) (Q : dR → dS → Prop) (x1 x3 x6 x7 s0 : Int) (σ : dS) : Prop := UT d 70 Q 3 (0, 0) [some (.inr (.inr 114)), some (.inl x1), some (.inr (.inr 70)), some (.inl x3), none, none, some (.inl x6), some (.inl x7), none] [.inl s0] σ
def B70_70_4 (d : Nat) (Q : dR → dS → Prop) (s0 : Int) (σ : dS) : Prop := UT d 70 Q 4 (0, 0) [none, none, none, none, none, none, none, none, none] [.inl s0, .inr (.inr 127)] σ
def B70_70_5 (d : Nat) (Q : dR → dS → Prop) (s0 s1 : Int) (σ : dS) : Prop := UT d 70 Q 5 (0, 0) [none, none, none, none, none, none, none, none, none] [.inl s0, .inl s1, .inr (.inr 127)] σ
set_option maxRecDepth 20000 in
theorem b70_70_0 {d : Nat} {Q : dR → dS → Prop} {x1 : Int} {σ : dS} (h : wI (d + 1) 71 [.inr (.inr 114), .inl x1, .inl (rat σ 124 5 x1), .inl (rat σ 128 5 x1), .inr (.inr 70)] σ Q (fun v1 σ1 => ∀ σ2 : dS, σ2 = rput σ1 116 40 (wr ((wr (x1 * 8)) + (rat σ 124 5 x1))) (rat σ 128 5 x1) → (∀ σ3 : dS, σ3 = rput σ2 118 40 (wr ((wr (x1 * 8)) + (rat σ 124 5 x1))) (wr ((rat σ 128 5 x1) + v1)) → (∀ σ4 : dS, σ4 = rput σ3 126 40 (σ3 114 7) (wr ((wr (x1 * 8)) + (rat σ 124 5 x1))) → (∀ σ5 : dS, σ5 = up σ4 114 7 (wr ((σ4 114 7) + 1)) → (((v1 ≤ 0) → B70_70_1 d Q x1 (rat σ 124 5 x1) (rat σ 128 5 x1) v1 σ5) ∧ (¬ (v1 ≤ 0) → (((rat σ5 120 10 (rat σ 17 40 (wr ((wr (x1 * 8)) + (rat σ 124 5 x1))))) ≤ 0) → B70_70_1 d Q x1 (rat σ 124 5 x1) (rat σ 128 5 x1) v1 σ5) ∧ (¬ ((rat σ5 120 10 (rat σ 17 40 (wr ((wr (x1 * 8)) + (rat σ 124 5 x1))))) ≤ 0) → ∀ σ6 : dS, σ6 = rput σ5 120 10 (rat σ 17 40 (wr ((wr (x1 * 8)) + (rat σ 124 5 x1)))) (wr ((rat σ5 120 10 (rat σ 17 40 (wr ((wr (x1 * 8)) + (rat σ 124 5 x1))))) - 1)) → (∀ σ7 : dS, σ7 = rput σ6 122 5 x1 (wr ((rat σ6 122 5 x1) + 1)) → (B70_70_1 d Q x1 (rat σ 124 5 x1) (rat σ 128 5 x1) v1 σ7)))))))))) : B70_70_0 d Q x1 σ := ut (m := M70_70) rfl h
theorem b70_70_1 {d : Nat} {Q : dR → dS → Prop} {x1 x3 x6 x7 : Int} {σ : dS} (h : ∀ σ1 : dS, σ1 = rput σ 124 5 x1 (wr (x3 + 1)) → ((((rat σ1 15 5 x1) ≤ (wr (x3 + 1))) → B70_70_2 d Q x1 x3 x6 x7 σ1) ∧ (¬ ((rat σ1 15 5 x1) ≤ (wr (x3 + 1))) → B70_70_3 d Q x1 x3 x6 x7 1 σ1))) : B70_70_1 d Q x1 x3 x6 x7 σ := ut (m := M70_70) rfl h
theorem b70_70_2 {d : Nat} {Q : dR → dS → Prop} {x1 x3 x6 x7 : Int} {σ : dS} (h : B70_70_3 d Q x1 x3 x6 x7 0 σ) : B70_70_2 d Q x1 x3 x6 x7 σ := ut (m := M70_70) rfl h
theorem b70_70_3 {d : Nat} {Q : dR → dS → Prop} {x1 x3 x6 x7 s0 : Int} {σ : dS} (h : ((s0 = 0) → B70_70_4 d Q x1 σ) ∧ (¬ (s0 = 0) → wI (d + 1) 72 [.inr (.inr 114), .inl x1, .inl x3, .inr (.inr 70)] σ Q (fun v1 σ1 => B70_70_5 d Q (wr ((wr (x6 + x7)) + v1)) x1 σ1))) : B70_70_3 d Q x1 x3 x6 x7 s0 σ := ut (m := M70_70) rfl h
theorem b70_70_4 {d : Nat} {Q : dR → dS → Prop} {s0 : Int} {σ : dS} (h : B70_70_5 d Q 2147483647 s0 σ) : B70_70_4 d Q s0 σ := ut (m := M70_70) rfl h
theorem b70_70_5 {d : Nat} {Q : dR → dS → Prop} {s0 s1 : Int} {σ : dS} (h : ∀ σ1 : dS, σ1 = rput σ 128 5 s1 s0 → (Q (.inl none) σ1)) : B70_70_5 d Q s0 s1 σ := ut (m := M70_70) rfl h
theorem c70_70 {d : Nat} {Q : dR → dS → Prop} {K : dS → Prop} {x1 : Int} {σ : dS} (h : B70_70_0 d (fun res σ1 => match res with | .inl none => K σ1 | .inl (some _) => False | .inr e => Q (.inr e) σ1) x1 σ) : wV (d + 2) 70 [.inr (.inr 114), .inl x1, .inr (.inr 70)] σ Q K := ut0 rfl (Nat.le_of_ble_eq_true rfl) h
/-- WingTrams$Night.come(ILWingTrams$Sky;)V, 70_109 -/
def M70_109 (lb : Nat) : List Bool := [[true, true, true, false, false, false, false, false, false], [true, true, true, true, false, false, true, true, false], [true, true, true, true, false, false, true, true, false], [true, true, true, true, false, false, true, true, false], [false, false, false, false, false, false, false, false, false], [false, false, false, false, false, false, false, false, false]].getD lb []
def B70_109_0 (d : Nat) (Q : dR → dS → Prop) (x1 : Int) (σ : dS) : Prop := UT d 70 Q 0 (0, 0) [some (.inr (.inr 114)), some (.inl x1), some (.inr (.inr 109)), none, none, none, none, none, none] [] σ
def B70_109_1 (d : Nat) (Q : dR → dS → Prop) (x1 x3 x6 x7 : Int) (σ : dS) : Prop := UT d 70 Q 1 (0, 0) [some (.inr (.inr 114)), some (.inl x1), some (.inr (.inr 109)), some (.inl x3), none, none, some (.inl x6), some (.inl x7), none] [] σ
def B70_109_2 (d : Nat) (Q : dR → dS → Prop) (x1 x3 x6 x7 : Int) (σ : dS) : Prop := UT d 70 Q 2 (0, 0) [some (.inr (.inr 114)), some (.inl x1), some (.inr (.inr 109)), some (.inl x3), none, none, some (.inl x6), some (.inl x7), none] [] σ
def B70_109_3 (d : Nat) (Q : dR → dS → Prop) (x1 x3 x6 x7 s0 : Int) (σ : dS) : Prop := UT d 70 Q 3 (0, 0) [some (.inr (.inr 114)), some (.inl x1), some (.inr (.inr 109)), some (.inl x3), none, none, some (.inl x6), some (.inl x7), none] [.inl s0] σ
def B70_109_4 (d : Nat) (Q : dR → dS → Prop) (s0 : Int) (σ : dS) : Prop := UT d 70 Q 4 (0, 0) [none, none, none, none, none, none, none, none, none] [.inl s0, .inr (.inr 127)] σ
def B70_109_5 (d : Nat) (Q : dR → dS → Prop) (s0 s1 : Int) (σ : dS) : Prop := UT d 70 Q 5 (0, 0) [none, none, none, none, none, none, none, none, none] [.inl s0, .inl s1, .inr (.inr 127)] σ
set_option maxRecDepth 20000 in
theorem b70_109_0 {d : Nat} {Q : dR → dS → Prop} {x1 : Int} {σ : dS} (h : wI (d + 1) 71 [.inr (.inr 114), .inl x1, .inl (rat σ 124 5 x1), .inl (rat σ 128 5 x1), .inr (.inr 109)] σ Q (fun v1 σ1 => ∀ σ2 : dS, σ2 = rput σ1 116 40 (wr ((wr (x1 * 8)) + (rat σ 124 5 x1))) (rat σ 128 5 x1) → (∀ σ3 : dS, σ3 = rput σ2 118 40 (wr ((wr (x1 * 8)) + (rat σ 124 5 x1))) (wr ((rat σ 128 5 x1) + v1)) → (∀ σ4 : dS, σ4 = rput σ3 126 40 (σ3 114 7) (wr ((wr (x1 * 8)) + (rat σ 124 5 x1))) → (∀ σ5 : dS, σ5 = up σ4 114 7 (wr ((σ4 114 7) + 1)) → (((v1 ≤ 0) → B70_109_1 d Q x1 (rat σ 124 5 x1) (rat σ 128 5 x1) v1 σ5) ∧ (¬ (v1 ≤ 0) → (((rat σ5 120 10 (rat σ 17 40 (wr ((wr (x1 * 8)) + (rat σ 124 5 x1))))) ≤ 0) → B70_109_1 d Q x1 (rat σ 124 5 x1) (rat σ 128 5 x1) v1 σ5) ∧ (¬ ((rat σ5 120 10 (rat σ 17 40 (wr ((wr (x1 * 8)) + (rat σ 124 5 x1))))) ≤ 0) → ∀ σ6 : dS, σ6 = rput σ5 120 10 (rat σ 17 40 (wr ((wr (x1 * 8)) + (rat σ 124 5 x1)))) (wr ((rat σ5 120 10 (rat σ 17 40 (wr ((wr (x1 * 8)) + (rat σ 124 5 x1))))) - 1)) → (∀ σ7 : dS, σ7 = rput σ6 122 5 x1 (wr ((rat σ6 122 5 x1) + 1)) → (B70_109_1 d Q x1 (rat σ 124 5 x1) (rat σ 128 5 x1) v1 σ7)))))))))) : B70_109_0 d Q x1 σ := ut (m := M70_109) rfl h
theorem b70_109_1 {d : Nat} {Q : dR → dS → Prop} {x1 x3 x6 x7 : Int} {σ : dS} (h : ∀ σ1 : dS, σ1 = rput σ 124 5 x1 (wr (x3 + 1)) → ((((rat σ1 15 5 x1) ≤ (wr (x3 + 1))) → B70_109_2 d Q x1 x3 x6 x7 σ1) ∧ (¬ ((rat σ1 15 5 x1) ≤ (wr (x3 + 1))) → B70_109_3 d Q x1 x3 x6 x7 1 σ1))) : B70_109_1 d Q x1 x3 x6 x7 σ := ut (m := M70_109) rfl h
theorem b70_109_2 {d : Nat} {Q : dR → dS → Prop} {x1 x3 x6 x7 : Int} {σ : dS} (h : B70_109_3 d Q x1 x3 x6 x7 0 σ) : B70_109_2 d Q x1 x3 x6 x7 σ := ut (m := M70_109) rfl h
theorem b70_109_3 {d : Nat} {Q : dR → dS → Prop} {x1 x3 x6 x7 s0 : Int} {σ : dS} (h : ((s0 = 0) → B70_109_4 d Q x1 σ) ∧ (¬ (s0 = 0) → wI (d + 1) 72 [.inr (.inr 114), .inl x1, .inl x3, .inr (.inr 109)] σ Q (fun v1 σ1 => B70_109_5 d Q (wr ((wr (x6 + x7)) + v1)) x1 σ1))) : B70_109_3 d Q x1 x3 x6 x7 s0 σ := ut (m := M70_109) rfl h
theorem b70_109_4 {d : Nat} {Q : dR → dS → Prop} {s0 : Int} {σ : dS} (h : B70_109_5 d Q 2147483647 s0 σ) : B70_109_4 d Q s0 σ := ut (m := M70_109) rfl h
theorem b70_109_5 {d : Nat} {Q : dR → dS → Prop} {s0 s1 : Int} {σ : dS} (h : ∀ σ1 : dS, σ1 = rput σ 128 5 s1 s0 → (Q (.inl none) σ1)) : B70_109_5 d Q s0 s1 σ := ut (m := M70_109) rfl h
theorem c70_109 {d : Nat} {Q : dR → dS → Prop} {K : dS → Prop} {x1 : Int} {σ : dS} (h : B70_109_0 d (fun res σ1 => match res with | .inl none => K σ1 | .inl (some _) => False | .inr e => Q (.inr e) σ1) x1 σ) : wV (d + 2) 70 [.inr (.inr 114), .inl x1, .inr (.inr 109)] σ Q K := ut0 rfl (Nat.le_of_ble_eq_true rfl) h
/-- WingTrams$Night.minutesHunted(IIILWingTrams$Sky;)I, 71_70 -/
def M71_70 (lb : Nat) : List Bool := [[true, true, true, true, true, false], [false, false, false, false, false, false], [false, false, false, false, false, false], [true, true, true, true, true, true], [true, false, false, true, true, false], [true, false, false, true, true, false]].getD lb []
def B71_70_0 (d : Nat) (Q : dR → dS → Prop) (x1 x2 x3 : Int) (σ : dS) : Prop := UT d 71 Q 0 (0, 0) [some (.inr (.inr 114)), some (.inl x1), some (.inl x2), some (.inl x3), some (.inr (.inr 70)), none] [] σ
def B71_70_1 (d : Nat) (Q : dR → dS → Prop) (σ : dS) : Prop := UT d 71 Q 1 (0, 0) [none, none, none, none, none, none] [] σ
def B71_70_2 (d : Nat) (Q : dR → dS → Prop) (s0 : Int) (σ : dS) : Prop := UT d 71 Q 2 (0, 0) [none, none, none, none, none, none] [.inl s0] σ
def B71_70_3 (d : Nat) (Q : dR → dS → Prop) (x1 x2 x3 x5 : Int) (σ : dS) : Prop := UT d 71 Q 3 (0, 0) [some (.inr (.inr 114)), some (.inl x1), some (.inl x2), some (.inl x3), some (.inr (.inr 70)), some (.inl x5)] [] σ
def B71_70_4 (d : Nat) (Q : dR → dS → Prop) (x3 s0 : Int) (σ : dS) : Prop := UT d 71 Q 4 (0, 0) [some (.inr (.inr 114)), none, none, some (.inl x3), some (.inr (.inr 70)), none] [.inl s0, .inr (.inr 129)] σ
def B71_70_5 (d : Nat) (Q : dR → dS → Prop) (x3 s0 s1 : Int) (σ : dS) : Prop := UT d 71 Q 5 (0, 0) [some (.inr (.inr 114)), none, none, some (.inl x3), some (.inr (.inr 70)), none] [.inl s0, .inl s1, .inr (.inr 129)] σ
theorem b71_70_0 {d : Nat} {Q : dR → dS → Prop} {x1 x2 x3 : Int} {σ : dS} (h : (((σ 70 0) ≠ (-1 : Int)) → B71_70_3 d Q x1 x2 x3 (rat σ 17 40 (wr ((wr (x1 * 8)) + x2))) σ) ∧ (¬ ((σ 70 0) ≠ (-1 : Int)) → (((rat σ 120 10 (rat σ 17 40 (wr ((wr (x1 * 8)) + x2)))) ≤ 0) → B71_70_1 d Q σ) ∧ (¬ ((rat σ 120 10 (rat σ 17 40 (wr ((wr (x1 * 8)) + x2)))) ≤ 0) → B71_70_2 d Q 3 σ))) : B71_70_0 d Q x1 x2 x3 σ := ut (m := M71_70) rfl h
theorem b71_70_1 {d : Nat} {Q : dR → dS → Prop} {σ : dS} (h : B71_70_2 d Q 2 σ) : B71_70_1 d Q σ := ut (m := M71_70) rfl h
theorem b71_70_2 {d : Nat} {Q : dR → dS → Prop} {s0 : Int} {σ : dS} (h : Q (.inl (some (.inl s0))) σ) : B71_70_2 d Q s0 σ := ut (m := M71_70) rfl h
theorem b71_70_3 {d : Nat} {Q : dR → dS → Prop} {x1 x2 x3 x5 : Int} {σ : dS} (h : ∀ σ1 : dS, σ1 = rput σ 130 7 0 (rat σ 120 10 x5) → (∀ σ2 : dS, σ2 = rput σ1 130 7 1 (rat σ1 72 10 x5) → (∀ σ3 : dS, σ3 = rput σ2 130 7 2 (rat σ2 11 5 x1) → (∀ σ4 : dS, σ4 = rput σ3 130 7 3 x2 → (∀ σ5 : dS, σ5 = rput σ4 130 7 4 (σ4 70 1) → ((((σ5 70 2) = 0) → B71_70_4 d Q x3 5 σ5) ∧ (¬ ((σ5 70 2) = 0) → B71_70_5 d Q x3 1 5 σ5))))))) : B71_70_3 d Q x1 x2 x3 x5 σ := ut (m := M71_70) rfl h
theorem b71_70_4 {d : Nat} {Q : dR → dS → Prop} {x3 s0 : Int} {σ : dS} (h : B71_70_5 d Q x3 0 s0 σ) : B71_70_4 d Q x3 s0 σ := ut (m := M71_70) rfl h
theorem b71_70_5 {d : Nat} {Q : dR → dS → Prop} {x3 s0 s1 : Int} {σ : dS} (h : ∀ σ1 : dS, σ1 = rput σ 130 7 s1 s0 → (((60 : Int) ≠ 0) ∧ (∀ σ2 : dS, σ2 = rput σ1 130 7 6 (idv x3 60) → (wI (d + 1) 18 [.inr (.inr 26), .inl (σ2 70 0), .inr (.inr 129)] σ2 Q (fun v3 σ3 => Q (.inl (some (.inl (max 0 (min 30 v3))))) σ3))))) : B71_70_5 d Q x3 s0 s1 σ := ut (m := M71_70) rfl h
theorem c71_70 {d : Nat} {Q : dR → dS → Prop} {K : Int → dS → Prop} {x1 x2 x3 : Int} {σ : dS} (h : B71_70_0 d (fun res σ1 => match res with | .inl (some (.inl v)) => K v σ1 | .inl _ => False | .inr e => Q (.inr e) σ1) x1 x2 x3 σ) : wI (d + 2) 71 [.inr (.inr 114), .inl x1, .inl x2, .inl x3, .inr (.inr 70)] σ Q K := ut0 rfl (Nat.le_of_ble_eq_true rfl) h
/-- WingTrams$Night.minutesHunted(IIILWingTrams$Sky;)I, 71_109 -/
def M71_109 (lb : Nat) : List Bool := [[true, true, true, true, true, false], [false, false, false, false, false, false], [false, false, false, false, false, false], [true, true, true, true, true, true], [true, false, false, true, true, false], [true, false, false, true, true, false]].getD lb []
def B71_109_0 (d : Nat) (Q : dR → dS → Prop) (x1 x2 x3 : Int) (σ : dS) : Prop := UT d 71 Q 0 (0, 0) [some (.inr (.inr 114)), some (.inl x1), some (.inl x2), some (.inl x3), some (.inr (.inr 109)), none] [] σ
def B71_109_1 (d : Nat) (Q : dR → dS → Prop) (σ : dS) : Prop := UT d 71 Q 1 (0, 0) [none, none, none, none, none, none] [] σ
def B71_109_2 (d : Nat) (Q : dR → dS → Prop) (s0 : Int) (σ : dS) : Prop := UT d 71 Q 2 (0, 0) [none, none, none, none, none, none] [.inl s0] σ
def B71_109_3 (d : Nat) (Q : dR → dS → Prop) (x1 x2 x3 x5 : Int) (σ : dS) : Prop := UT d 71 Q 3 (0, 0) [some (.inr (.inr 114)), some (.inl x1), some (.inl x2), some (.inl x3), some (.inr (.inr 109)), some (.inl x5)] [] σ
def B71_109_4 (d : Nat) (Q : dR → dS → Prop) (x3 s0 : Int) (σ : dS) : Prop := UT d 71 Q 4 (0, 0) [some (.inr (.inr 114)), none, none, some (.inl x3), some (.inr (.inr 109)), none] [.inl s0, .inr (.inr 129)] σ
def B71_109_5 (d : Nat) (Q : dR → dS → Prop) (x3 s0 s1 : Int) (σ : dS) : Prop := UT d 71 Q 5 (0, 0) [some (.inr (.inr 114)), none, none, some (.inl x3), some (.inr (.inr 109)), none] [.inl s0, .inl s1, .inr (.inr 129)] σ
theorem b71_109_0 {d : Nat} {Q : dR → dS → Prop} {x1 x2 x3 : Int} {σ : dS} (h : (((σ 109 0) ≠ (-1 : Int)) → B71_109_3 d Q x1 x2 x3 (rat σ 17 40 (wr ((wr (x1 * 8)) + x2))) σ) ∧ (¬ ((σ 109 0) ≠ (-1 : Int)) → (((rat σ 120 10 (rat σ 17 40 (wr ((wr (x1 * 8)) + x2)))) ≤ 0) → B71_109_1 d Q σ) ∧ (¬ ((rat σ 120 10 (rat σ 17 40 (wr ((wr (x1 * 8)) + x2)))) ≤ 0) → B71_109_2 d Q 3 σ))) : B71_109_0 d Q x1 x2 x3 σ := ut (m := M71_109) rfl h
theorem b71_109_1 {d : Nat} {Q : dR → dS → Prop} {σ : dS} (h : B71_109_2 d Q 2 σ) : B71_109_1 d Q σ := ut (m := M71_109) rfl h
theorem b71_109_2 {d : Nat} {Q : dR → dS → Prop} {s0 : Int} {σ : dS} (h : Q (.inl (some (.inl s0))) σ) : B71_109_2 d Q s0 σ := ut (m := M71_109) rfl h
theorem b71_109_3 {d : Nat} {Q : dR → dS → Prop} {x1 x2 x3 x5 : Int} {σ : dS} (h : ∀ σ1 : dS, σ1 = rput σ 130 7 0 (rat σ 120 10 x5) → (∀ σ2 : dS, σ2 = rput σ1 130 7 1 (rat σ1 111 10 x5) → (∀ σ3 : dS, σ3 = rput σ2 130 7 2 (rat σ2 11 5 x1) → (∀ σ4 : dS, σ4 = rput σ3 130 7 3 x2 → (∀ σ5 : dS, σ5 = rput σ4 130 7 4 (σ4 109 1) → ((((σ5 109 2) = 0) → B71_109_4 d Q x3 5 σ5) ∧ (¬ ((σ5 109 2) = 0) → B71_109_5 d Q x3 1 5 σ5))))))) : B71_109_3 d Q x1 x2 x3 x5 σ := ut (m := M71_109) rfl h
theorem b71_109_4 {d : Nat} {Q : dR → dS → Prop} {x3 s0 : Int} {σ : dS} (h : B71_109_5 d Q x3 0 s0 σ) : B71_109_4 d Q x3 s0 σ := ut (m := M71_109) rfl h
theorem b71_109_5 {d : Nat} {Q : dR → dS → Prop} {x3 s0 s1 : Int} {σ : dS} (h : ∀ σ1 : dS, σ1 = rput σ 130 7 s1 s0 → (((60 : Int) ≠ 0) ∧ (∀ σ2 : dS, σ2 = rput σ1 130 7 6 (idv x3 60) → (wI (d + 1) 18 [.inr (.inr 26), .inl (σ2 109 0), .inr (.inr 129)] σ2 Q (fun v3 σ3 => Q (.inl (some (.inl (max 0 (min 30 v3))))) σ3))))) : B71_109_5 d Q x3 s0 s1 σ := ut (m := M71_109) rfl h
theorem c71_109 {d : Nat} {Q : dR → dS → Prop} {K : Int → dS → Prop} {x1 x2 x3 : Int} {σ : dS} (h : B71_109_0 d (fun res σ1 => match res with | .inl (some (.inl v)) => K v σ1 | .inl _ => False | .inr e => Q (.inr e) σ1) x1 x2 x3 σ) : wI (d + 2) 71 [.inr (.inr 114), .inl x1, .inl x2, .inl x3, .inr (.inr 109)] σ Q K := ut0 rfl (Nat.le_of_ble_eq_true rfl) h
/-- WingTrams$Night.minutesFlown(IILWingTrams$Sky;)I, 72_70 -/
def M72_70 (lb : Nat) : List Bool := [[true, true, true, true, false, false], [false, false, false, true, false, true], [false, false, false, false, false, true], [false, false, false, false, false, false]].getD lb []
def B72_70_0 (d : Nat) (Q : dR → dS → Prop) (x1 x2 : Int) (σ : dS) : Prop := UT d 72 Q 0 (0, 0) [some (.inr (.inr 114)), some (.inl x1), some (.inl x2), some (.inr (.inr 70)), none, none] [] σ
def B72_70_1 (d : Nat) (Q : dR → dS → Prop) (x5 : Int) (σ : dS) : Prop := UT d 72 Q 1 (0, 0) [none, none, none, some (.inr (.inr 70)), none, some (.inl x5)] [] σ
def B72_70_2 (d : Nat) (Q : dR → dS → Prop) (x5 : Int) (σ : dS) : Prop := UT d 72 Q 2 (0, 0) [none, none, none, none, none, some (.inl x5)] [] σ
def B72_70_3 (d : Nat) (Q : dR → dS → Prop) (s0 : Int) (σ : dS) : Prop := UT d 72 Q 3 (0, 0) [none, none, none, none, none, none] [.inl s0] σ
theorem b72_70_0 {d : Nat} {Q : dR → dS → Prop} {x1 x2 : Int} {σ : dS} (h : wI (d + 1) 28 [.inr (.inr 5), .inl (rat σ 17 40 (wr ((wr (x1 * 8)) + x2))), .inl (rat σ 17 40 (wr ((wr ((wr (x1 * 8)) + x2)) + 1)))] σ Q (fun v1 σ1 => (((rat σ1 11 5 x1) ≠ (1 : Int)) → B72_70_1 d Q v1 σ1) ∧ (¬ ((rat σ1 11 5 x1) ≠ (1 : Int)) → (((σ1 70 1) < (4 : Int)) → B72_70_1 d Q v1 σ1) ∧ (¬ ((σ1 70 1) < (4 : Int)) → ((2 : Int) ≠ 0) ∧ (B72_70_1 d Q (idv (wr (v1 + 1)) 2) σ1))))) : B72_70_0 d Q x1 x2 σ := ut (m := M72_70) rfl h
theorem b72_70_1 {d : Nat} {Q : dR → dS → Prop} {x5 : Int} {σ : dS} (h : (((σ 70 2) = 0) → B72_70_2 d Q x5 σ) ∧ (¬ ((σ 70 2) = 0) → B72_70_3 d Q (wr (2 * x5)) σ)) : B72_70_1 d Q x5 σ := ut (m := M72_70) rfl h
theorem b72_70_2 {d : Nat} {Q : dR → dS → Prop} {x5 : Int} {σ : dS} (h : B72_70_3 d Q x5 σ) : B72_70_2 d Q x5 σ := ut (m := M72_70) rfl h
theorem b72_70_3 {d : Nat} {Q : dR → dS → Prop} {s0 : Int} {σ : dS} (h : Q (.inl (some (.inl s0))) σ) : B72_70_3 d Q s0 σ := ut (m := M72_70) rfl h
theorem c72_70 {d : Nat} {Q : dR → dS → Prop} {K : Int → dS → Prop} {x1 x2 : Int} {σ : dS} (h : B72_70_0 d (fun res σ1 => match res with | .inl (some (.inl v)) => K v σ1 | .inl _ => False | .inr e => Q (.inr e) σ1) x1 x2 σ) : wI (d + 2) 72 [.inr (.inr 114), .inl x1, .inl x2, .inr (.inr 70)] σ Q K := ut0 rfl (Nat.le_of_ble_eq_true rfl) h
/-- WingTrams$Night.minutesFlown(IILWingTrams$Sky;)I, 72_109 -/
def M72_109 (lb : Nat) : List Bool := [[true, true, true, true, false, false], [false, false, false, true, false, true], [false, false, false, false, false, true], [false, false, false, false, false, false]].getD lb []
def B72_109_0 (d : Nat) (Q : dR → dS → Prop) (x1 x2 : Int) (σ : dS) : Prop := UT d 72 Q 0 (0, 0) [some (.inr (.inr 114)), some (.inl x1), some (.inl x2), some (.inr (.inr 109)), none, none] [] σ
def B72_109_1 (d : Nat) (Q : dR → dS → Prop) (x5 : Int) (σ : dS) : Prop := UT d 72 Q 1 (0, 0) [none, none, none, some (.inr (.inr 109)), none, some (.inl x5)] [] σ
def B72_109_2 (d : Nat) (Q : dR → dS → Prop) (x5 : Int) (σ : dS) : Prop := UT d 72 Q 2 (0, 0) [none, none, none, none, none, some (.inl x5)] [] σ
def B72_109_3 (d : Nat) (Q : dR → dS → Prop) (s0 : Int) (σ : dS) : Prop := UT d 72 Q 3 (0, 0) [none, none, none, none, none, none] [.inl s0] σ
theorem b72_109_0 {d : Nat} {Q : dR → dS → Prop} {x1 x2 : Int} {σ : dS} (h : wI (d + 1) 28 [.inr (.inr 5), .inl (rat σ 17 40 (wr ((wr (x1 * 8)) + x2))), .inl (rat σ 17 40 (wr ((wr ((wr (x1 * 8)) + x2)) + 1)))] σ Q (fun v1 σ1 => (((rat σ1 11 5 x1) ≠ (1 : Int)) → B72_109_1 d Q v1 σ1) ∧ (¬ ((rat σ1 11 5 x1) ≠ (1 : Int)) → (((σ1 109 1) < (4 : Int)) → B72_109_1 d Q v1 σ1) ∧ (¬ ((σ1 109 1) < (4 : Int)) → ((2 : Int) ≠ 0) ∧ (B72_109_1 d Q (idv (wr (v1 + 1)) 2) σ1))))) : B72_109_0 d Q x1 x2 σ := ut (m := M72_109) rfl h
theorem b72_109_1 {d : Nat} {Q : dR → dS → Prop} {x5 : Int} {σ : dS} (h : (((σ 109 2) = 0) → B72_109_2 d Q x5 σ) ∧ (¬ ((σ 109 2) = 0) → B72_109_3 d Q (wr (2 * x5)) σ)) : B72_109_1 d Q x5 σ := ut (m := M72_109) rfl h
theorem b72_109_2 {d : Nat} {Q : dR → dS → Prop} {x5 : Int} {σ : dS} (h : B72_109_3 d Q x5 σ) : B72_109_2 d Q x5 σ := ut (m := M72_109) rfl h
theorem b72_109_3 {d : Nat} {Q : dR → dS → Prop} {s0 : Int} {σ : dS} (h : Q (.inl (some (.inl s0))) σ) : B72_109_3 d Q s0 σ := ut (m := M72_109) rfl h
theorem c72_109 {d : Nat} {Q : dR → dS → Prop} {K : Int → dS → Prop} {x1 x2 : Int} {σ : dS} (h : B72_109_0 d (fun res σ1 => match res with | .inl (some (.inl v)) => K v σ1 | .inl _ => False | .inr e => Q (.inr e) σ1) x1 x2 σ) : wI (d + 2) 72 [.inr (.inr 114), .inl x1, .inl x2, .inr (.inr 109)] σ Q K := ut0 rfl (Nat.le_of_ble_eq_true rfl) h
/-- WingTrams$Night.lastMinuteOn(I)I, 73 -/
def M73 (lb : Nat) : List Bool := [[true, true, false], [true, true, false], [true, true, false], [true, true, false], [false, false, false]].getD lb []
def B73_0 (d : Nat) (Q : dR → dS → Prop) (x1 : Int) (σ : dS) : Prop := UT d 73 Q 0 (0, 0) [some (.inr (.inr 114)), some (.inl x1), none] [] σ
def B73_1 (d : Nat) (Q : dR → dS → Prop) (x1 : Int) (σ : dS) : Prop := UT d 73 Q 1 (0, 0) [some (.inr (.inr 114)), some (.inl x1), none] [] σ
def B73_2 (d : Nat) (Q : dR → dS → Prop) (x1 s0 : Int) (σ : dS) : Prop := UT d 73 Q 2 (0, 0) [some (.inr (.inr 114)), some (.inl x1), none] [.inl s0] σ
def B73_3 (d : Nat) (Q : dR → dS → Prop) (x1 : Int) (σ : dS) : Prop := UT d 73 Q 3 (0, 0) [some (.inr (.inr 114)), some (.inl x1), none] [] σ
def B73_4 (d : Nat) (Q : dR → dS → Prop) (s0 : Int) (σ : dS) : Prop := UT d 73 Q 4 (0, 0) [none, none, none] [.inl s0] σ
theorem b73_0 {d : Nat} {Q : dR → dS → Prop} {x1 : Int} {σ : dS} (h : ((8 : Int) ≠ 0) ∧ (((8 : Int) ≠ 0) ∧ ((((irm x1 8) ≠ (wr ((rat σ 15 5 (idv x1 8)) - 1))) → B73_1 d Q x1 σ) ∧ (¬ ((irm x1 8) ≠ (wr ((rat σ 15 5 (idv x1 8)) - 1))) → B73_2 d Q x1 1 σ)))) : B73_0 d Q x1 σ := ut (m := M73) rfl h
theorem b73_1 {d : Nat} {Q : dR → dS → Prop} {x1 : Int} {σ : dS} (h : B73_2 d Q x1 0 σ) : B73_1 d Q x1 σ := ut (m := M73) rfl h
theorem b73_2 {d : Nat} {Q : dR → dS → Prop} {x1 s0 : Int} {σ : dS} (h : ((s0 = 0) → B73_3 d Q x1 σ) ∧ (¬ (s0 = 0) → B73_4 d Q 2147483647 σ)) : B73_2 d Q x1 s0 σ := ut (m := M73) rfl h
theorem b73_3 {d : Nat} {Q : dR → dS → Prop} {x1 : Int} {σ : dS} (h : B73_4 d Q (rat σ 118 40 x1) σ) : B73_3 d Q x1 σ := ut (m := M73) rfl h
theorem b73_4 {d : Nat} {Q : dR → dS → Prop} {s0 : Int} {σ : dS} (h : Q (.inl (some (.inl s0))) σ) : B73_4 d Q s0 σ := ut (m := M73) rfl h
theorem c73 {d : Nat} {Q : dR → dS → Prop} {K : Int → dS → Prop} {x1 : Int} {σ : dS} (h : B73_0 d (fun res σ1 => match res with | .inl (some (.inl v)) => K v σ1 | .inl _ => False | .inr e => Q (.inr e) σ1) x1 σ) : wI (d + 2) 73 [.inr (.inr 114), .inl x1] σ Q K := ut0 rfl (Nat.le_of_ble_eq_true rfl) h
/-- WingTrams$Night.roofOf(II)I, 74 -/
def M74 (lb : Nat) : List Bool := [[true, true, true, false, false], [true, true, true, true, false], [true, true, true, true, false], [false, false, false, false, false]].getD lb []
def B74_0 (d : Nat) (Q : dR → dS → Prop) (x1 x2 : Int) (σ : dS) : Prop := UT d 74 Q 0 (0, 0) [some (.inr (.inr 114)), some (.inl x1), some (.inl x2), none, none] [] σ
def B74_1 (d : Nat) (Q : dR → dS → Prop) (x1 x2 x3 : Int) (σ : dS) : Prop := UT d 74 Q 1 (0, 0) [some (.inr (.inr 114)), some (.inl x1), some (.inl x2), some (.inl x3), none] [] σ
def B74_2 (d : Nat) (Q : dR → dS → Prop) (x1 x2 x3 : Int) (σ : dS) : Prop := UT d 74 Q 2 (0, 0) [some (.inr (.inr 114)), some (.inl x1), some (.inl x2), some (.inl x3), none] [] σ
def B74_3 (d : Nat) (Q : dR → dS → Prop) (σ : dS) : Prop := UT d 74 Q 3 (0, 0) [none, none, none, none, none] [] σ
theorem b74_0 {d : Nat} {Q : dR → dS → Prop} {x1 x2 : Int} {σ : dS} (h : B74_1 d Q x1 x2 0 σ) : B74_0 d Q x1 x2 σ := ut (m := M74) rfl h
theorem b74_1 {d : Nat} {Q : dR → dS → Prop} {x1 x2 x3 : Int} {σ : dS} (h : (((rat σ 124 5 x1) ≤ x3) → B74_3 d Q σ) ∧ (¬ ((rat σ 124 5 x1) ≤ x3) → ((x2 < (rat σ 116 40 (wr ((wr (x1 * 8)) + x3)))) → B74_2 d Q x1 x2 x3 σ) ∧ (¬ (x2 < (rat σ 116 40 (wr ((wr (x1 * 8)) + x3)))) → wI (d + 1) 73 [.inr (.inr 114), .inl (wr ((wr (x1 * 8)) + x3))] σ Q (fun v1 σ1 => ((v1 < x2) → B74_2 d Q x1 x2 x3 σ1) ∧ (¬ (v1 < x2) → Q (.inl (some (.inl (rat σ1 17 40 (wr ((wr (x1 * 8)) + x3)))))) σ1))))) : B74_1 d Q x1 x2 x3 σ := ut (m := M74) rfl h
theorem b74_2 {d : Nat} {Q : dR → dS → Prop} {x1 x2 x3 : Int} {σ : dS} (h : B74_1 d Q x1 x2 (wr (x3 + 1)) σ) : B74_2 d Q x1 x2 x3 σ := ut (m := M74) rfl h
theorem b74_3 {d : Nat} {Q : dR → dS → Prop} {σ : dS} (h : Q (.inl (some (.inl (-1)))) σ) : B74_3 d Q σ := ut (m := M74) rfl h
theorem c74 {d : Nat} {Q : dR → dS → Prop} {K : Int → dS → Prop} {x1 x2 : Int} {σ : dS} (h : B74_0 d (fun res σ1 => match res with | .inl (some (.inl v)) => K v σ1 | .inl _ => False | .inr e => Q (.inr e) σ1) x1 x2 σ) : wI (d + 2) 74 [.inr (.inr 114), .inl x1, .inl x2] σ Q K := ut0 rfl (Nat.le_of_ble_eq_true rfl) h
/-- WingTrams$Night.minutesTogether(I)I, 75 -/
def M75 (lb : Nat) : List Bool := [[true, true, false, false, false, false], [true, true, true, true, false, false], [true, true, true, true, true, false], [true, true, true, true, true, true], [true, true, true, true, true, false], [true, true, true, true, false, false], [true, false, true, false, false, false], [true, false, true, true, false, false], [false, false, true, false, false, false]].getD lb []
def B75_0 (d : Nat) (Q : dR → dS → Prop) (x1 : Int) (σ : dS) : Prop := UT d 75 Q 0 (0, 0) [some (.inr (.inr 114)), some (.inl x1), none, none, none, none] [] σ
def B75_1 (d : Nat) (Q : dR → dS → Prop) (x1 x2 x3 : Int) (σ : dS) : Prop := UT d 75 Q 1 (0, 0) [some (.inr (.inr 114)), some (.inl x1), some (.inl x2), some (.inl x3), none, none] [] σ
def B75_2 (d : Nat) (Q : dR → dS → Prop) (x1 x2 x3 x4 : Int) (σ : dS) : Prop := UT d 75 Q 2 (0, 0) [some (.inr (.inr 114)), some (.inl x1), some (.inl x2), some (.inl x3), some (.inl x4), none] [] σ
def B75_3 (d : Nat) (Q : dR → dS → Prop) (x1 x2 x3 x4 x5 : Int) (σ : dS) : Prop := UT d 75 Q 3 (0, 0) [some (.inr (.inr 114)), some (.inl x1), some (.inl x2), some (.inl x3), some (.inl x4), some (.inl x5)] [] σ
def B75_4 (d : Nat) (Q : dR → dS → Prop) (x1 x2 x3 x4 : Int) (σ : dS) : Prop := UT d 75 Q 4 (0, 0) [some (.inr (.inr 114)), some (.inl x1), some (.inl x2), some (.inl x3), some (.inl x4), none] [] σ
def B75_5 (d : Nat) (Q : dR → dS → Prop) (x1 x2 x3 : Int) (σ : dS) : Prop := UT d 75 Q 5 (0, 0) [some (.inr (.inr 114)), some (.inl x1), some (.inl x2), some (.inl x3), none, none] [] σ
def B75_6 (d : Nat) (Q : dR → dS → Prop) (x2 : Int) (σ : dS) : Prop := UT d 75 Q 6 (0, 0) [some (.inr (.inr 114)), none, some (.inl x2), none, none, none] [] σ
def B75_7 (d : Nat) (Q : dR → dS → Prop) (x2 x3 : Int) (σ : dS) : Prop := UT d 75 Q 7 (0, 0) [some (.inr (.inr 114)), none, some (.inl x2), some (.inl x3), none, none] [] σ
def B75_8 (d : Nat) (Q : dR → dS → Prop) (x2 : Int) (σ : dS) : Prop := UT d 75 Q 8 (0, 0) [none, none, some (.inl x2), none, none, none] [] σ
theorem b75_0 {d : Nat} {Q : dR → dS → Prop} {x1 : Int} {σ : dS} (h : ∀ σ1 : dS, σ1 = rfill σ 132 601 0 0 → (B75_1 d Q x1 0 0 σ1)) : B75_0 d Q x1 σ := ut (m := M75) rfl h
theorem b75_1 {d : Nat} {Q : dR → dS → Prop} {x1 x2 x3 : Int} {σ : dS} (h : (((σ 5 2) ≤ x3) → B75_6 d Q x2 σ) ∧ (¬ ((σ 5 2) ≤ x3) → B75_2 d Q x1 x2 x3 0 σ)) : B75_1 d Q x1 x2 x3 σ := ut (m := M75) rfl h
theorem b75_2 {d : Nat} {Q : dR → dS → Prop} {x1 x2 x3 x4 : Int} {σ : dS} (h : (((rat σ 124 5 x1) ≤ x4) → B75_5 d Q x1 x2 x3 σ) ∧ (¬ ((rat σ 124 5 x1) ≤ x4) → ((x3 = x1) → B75_5 d Q x1 x2 x3 σ) ∧ (¬ (x3 = x1) → B75_3 d Q x1 x2 x3 x4 0 σ))) : B75_2 d Q x1 x2 x3 x4 σ := ut (m := M75) rfl h
theorem b75_3 {d : Nat} {Q : dR → dS → Prop} {x1 x2 x3 x4 x5 : Int} {σ : dS} (h : (((rat σ 124 5 x3) ≤ x5) → B75_4 d Q x1 x2 x3 x4 σ) ∧ (¬ ((rat σ 124 5 x3) ≤ x5) → wV (d + 1) 76 [.inr (.inr 114), .inl (wr ((wr (x1 * 8)) + x4)), .inl (wr ((wr (x3 * 8)) + x5))] σ Q (fun σ1 => B75_3 d Q x1 x2 x3 x4 (wr (x5 + 1)) σ1))) : B75_3 d Q x1 x2 x3 x4 x5 σ := ut (m := M75) rfl h
theorem b75_4 {d : Nat} {Q : dR → dS → Prop} {x1 x2 x3 x4 : Int} {σ : dS} (h : B75_2 d Q x1 x2 x3 (wr (x4 + 1)) σ) : B75_4 d Q x1 x2 x3 x4 σ := ut (m := M75) rfl h
theorem b75_5 {d : Nat} {Q : dR → dS → Prop} {x1 x2 x3 : Int} {σ : dS} (h : B75_1 d Q x1 x2 (wr (x3 + 1)) σ) : B75_5 d Q x1 x2 x3 σ := ut (m := M75) rfl h
theorem b75_6 {d : Nat} {Q : dR → dS → Prop} {x2 : Int} {σ : dS} (h : B75_7 d Q x2 0 σ) : B75_6 d Q x2 σ := ut (m := M75) rfl h
theorem b75_7 {d : Nat} {Q : dR → dS → Prop} {x2 x3 : Int} {σ : dS} (h : (((600 : Int) < x3) → B75_8 d Q x2 σ) ∧ (¬ ((600 : Int) < x3) → B75_7 d Q (wr (x2 + (rat σ 132 601 x3))) (wr (x3 + 1)) σ)) : B75_7 d Q x2 x3 σ := ut (m := M75) rfl h
theorem b75_8 {d : Nat} {Q : dR → dS → Prop} {x2 : Int} {σ : dS} (h : Q (.inl (some (.inl x2))) σ) : B75_8 d Q x2 σ := ut (m := M75) rfl h
theorem c75 {d : Nat} {Q : dR → dS → Prop} {K : Int → dS → Prop} {x1 : Int} {σ : dS} (h : B75_0 d (fun res σ1 => match res with | .inl (some (.inl v)) => K v σ1 | .inl _ => False | .inr e => Q (.inr e) σ1) x1 σ) : wI (d + 2) 75 [.inr (.inr 114), .inl x1] σ Q K := ut0 rfl (Nat.le_of_ble_eq_true rfl) h
/-- WingTrams$Night.markBoth(II)V, 76 -/
def M76 (lb : Nat) : List Bool := [[true, true, true, false, false, false], [true, true, true, false, false, false], [true, false, false, false, true, true], [false, false, false, false, false, false]].getD lb []
def B76_0 (d : Nat) (Q : dR → dS → Prop) (x1 x2 : Int) (σ : dS) : Prop := UT d 76 Q 0 (0, 0) [some (.inr (.inr 114)), some (.inl x1), some (.inl x2), none, none, none] [] σ
def B76_1 (d : Nat) (Q : dR → dS → Prop) (x1 x2 : Int) (σ : dS) : Prop := UT d 76 Q 1 (0, 0) [some (.inr (.inr 114)), some (.inl x1), some (.inl x2), none, none, none] [] σ
def B76_2 (d : Nat) (Q : dR → dS → Prop) (x4 x5 : Int) (σ : dS) : Prop := UT d 76 Q 2 (0, 0) [some (.inr (.inr 114)), none, none, none, some (.inl x4), some (.inl x5)] [] σ
def B76_3 (d : Nat) (Q : dR → dS → Prop) (σ : dS) : Prop := UT d 76 Q 3 (0, 0) [none, none, none, none, none, none] [] σ
theorem b76_0 {d : Nat} {Q : dR → dS → Prop} {x1 x2 : Int} {σ : dS} (h : (((rat σ 17 40 x1) = (rat σ 17 40 x2)) → B76_1 d Q x1 x2 σ) ∧ (¬ ((rat σ 17 40 x1) = (rat σ 17 40 x2)) → Q (.inl none) σ)) : B76_0 d Q x1 x2 σ := ut (m := M76) rfl h
theorem b76_1 {d : Nat} {Q : dR → dS → Prop} {x1 x2 : Int} {σ : dS} (h : wI (d + 1) 73 [.inr (.inr 114), .inl x1] σ Q (fun v1 σ1 => wI (d + 1) 73 [.inr (.inr 114), .inl x2] σ1 Q (fun v2 σ2 => B76_2 d Q (min v1 v2) (max (rat σ 116 40 x1) (rat σ 116 40 x2)) σ2))) : B76_1 d Q x1 x2 σ := ut (m := M76) rfl h
theorem b76_2 {d : Nat} {Q : dR → dS → Prop} {x4 x5 : Int} {σ : dS} (h : ((x4 < x5) → B76_3 d Q σ) ∧ (¬ (x4 < x5) → (((σ 5 4) < x5) → B76_3 d Q σ) ∧ (¬ ((σ 5 4) < x5) → ∀ σ1 : dS, σ1 = rput σ 132 601 x5 1 → (B76_2 d Q x4 (wr (x5 + 1)) σ1)))) : B76_2 d Q x4 x5 σ := ut (m := M76) rfl h
theorem b76_3 {d : Nat} {Q : dR → dS → Prop} {σ : dS} (h : Q (.inl none) σ) : B76_3 d Q σ := ut (m := M76) rfl h
theorem c76 {d : Nat} {Q : dR → dS → Prop} {K : dS → Prop} {x1 x2 : Int} {σ : dS} (h : B76_0 d (fun res σ1 => match res with | .inl none => K σ1 | .inl (some _) => False | .inr e => Q (.inr e) σ1) x1 x2 σ) : wV (d + 2) 76 [.inr (.inr 114), .inl x1, .inl x2] σ Q K := ut0 rfl (Nat.le_of_ble_eq_true rfl) h
