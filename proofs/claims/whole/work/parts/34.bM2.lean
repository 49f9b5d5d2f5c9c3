/-! BLOCKS AS CLEAN ROWS, by program (wip/whole/gen/g26.py) -/
/-- WingTramsModel.count(I)I, 214 -/
def M214 (lb : Nat) : List Bool := [[true, true], [true, true], [true, false], [true, false], [true, false], [true, false], [true, false], [true, false], [true, false], [true, false], [true, false], [true, false], [true, false], [true, false], [true, false], [true, false], [true, true]].getD lb []
def B214_0 (d : Nat) (Q : dR → dS → Prop) (x1 : Int) (σ : dS) : Prop := UT d 214 Q 0 (0, 0) [some (.inr (.inr 153)), some (.inl x1)] [] σ
def B214_1 (d : Nat) (Q : dR → dS → Prop) (x1 : Int) (σ : dS) : Prop := UT d 214 Q 1 (0, 0) [some (.inr (.inr 153)), some (.inl x1)] [] σ
def B214_2 (d : Nat) (Q : dR → dS → Prop) (σ : dS) : Prop := UT d 214 Q 2 (0, 0) [some (.inr (.inr 153)), none] [] σ
def B214_3 (d : Nat) (Q : dR → dS → Prop) (σ : dS) : Prop := UT d 214 Q 3 (0, 0) [some (.inr (.inr 153)), none] [] σ
def B214_4 (d : Nat) (Q : dR → dS → Prop) (σ : dS) : Prop := UT d 214 Q 4 (0, 0) [some (.inr (.inr 153)), none] [] σ
def B214_5 (d : Nat) (Q : dR → dS → Prop) (σ : dS) : Prop := UT d 214 Q 5 (0, 0) [some (.inr (.inr 153)), none] [] σ
def B214_6 (d : Nat) (Q : dR → dS → Prop) (σ : dS) : Prop := UT d 214 Q 6 (0, 0) [some (.inr (.inr 153)), none] [] σ
def B214_7 (d : Nat) (Q : dR → dS → Prop) (σ : dS) : Prop := UT d 214 Q 7 (0, 0) [some (.inr (.inr 153)), none] [] σ
def B214_8 (d : Nat) (Q : dR → dS → Prop) (σ : dS) : Prop := UT d 214 Q 8 (0, 0) [some (.inr (.inr 153)), none] [] σ
def B214_9 (d : Nat) (Q : dR → dS → Prop) (σ : dS) : Prop := UT d 214 Q 9 (0, 0) [some (.inr (.inr 153)), none] [] σ
def B214_10 (d : Nat) (Q : dR → dS → Prop) (σ : dS) : Prop := UT d 214 Q 10 (0, 0) [some (.inr (.inr 153)), none] [] σ
def B214_11 (d : Nat) (Q : dR → dS → Prop) (σ : dS) : Prop := UT d 214 Q 11 (0, 0) [some (.inr (.inr 153)), none] [] σ
def B214_12 (d : Nat) (Q : dR → dS → Prop) (σ : dS) : Prop := UT d 214 Q 12 (0, 0) [some (.inr (.inr 153)), none] [] σ
def B214_13 (d : Nat) (Q : dR → dS → Prop) (σ : dS) : Prop := UT d 214 Q 13 (0, 0) [some (.inr (.inr 153)), none] [] σ
def B214_14 (d : Nat) (Q : dR → dS → Prop) (σ : dS) : Prop := UT d 214 Q 14 (0, 0) [some (.inr (.inr 153)), none] [] σ
def B214_15 (d : Nat) (Q : dR → dS → Prop) (σ : dS) : Prop := UT d 214 Q 15 (0, 0) [some (.inr (.inr 153)), none] [] σ
def B214_16 (d : Nat) (Q : dR → dS → Prop) (x1 : Int) (σ : dS) : Prop := UT d 214 Q 16 (0, 0) [some (.inr (.inr 153)), some (.inl x1)] [] σ
theorem b214_0 {d : Nat} {Q : dR → dS → Prop} {x1 : Int} {σ : dS} (h : ∀ σ1 : dS, σ1 = up σ 153 0 0 → (wI (d + 1) 159 [.inl x1, .inl 0, .inl 16] σ1 Q (fun v2 σ2 => wI (d + 1) 158 [.inr (.inr 153), .inl v2, .inl 1] σ2 Q (fun v3 σ3 => ((v3 ≠ 0) → B214_1 d Q x1 σ3) ∧ (¬ (v3 ≠ 0) → Q (.inl (some (.inl 0))) σ3))))) : B214_0 d Q x1 σ := ut (m := M214) rfl h
set_option maxRecDepth 20000 in
theorem b214_1 {d : Nat} {Q : dR → dS → Prop} {x1 : Int} {σ : dS} (h : ((x1 = 0) → B214_2 d Q σ) ∧ (¬ (x1 = 0) → ((x1 = 1) → B214_3 d Q σ) ∧ (¬ (x1 = 1) → ((x1 = 2) → B214_4 d Q σ) ∧ (¬ (x1 = 2) → ((x1 = 3) → B214_5 d Q σ) ∧ (¬ (x1 = 3) → ((x1 = 4) → B214_6 d Q σ) ∧ (¬ (x1 = 4) → ((x1 = 5) → B214_7 d Q σ) ∧ (¬ (x1 = 5) → ((x1 = 6) → B214_8 d Q σ) ∧ (¬ (x1 = 6) → ((x1 = 7) → B214_9 d Q σ) ∧ (¬ (x1 = 7) → ((x1 = 8) → B214_10 d Q σ) ∧ (¬ (x1 = 8) → ((x1 = 9) → B214_11 d Q σ) ∧ (¬ (x1 = 9) → ((x1 = 10) → B214_12 d Q σ) ∧ (¬ (x1 = 10) → ((x1 = 11) → B214_13 d Q σ) ∧ (¬ (x1 = 11) → ((x1 = 12) → B214_14 d Q σ) ∧ (¬ (x1 = 12) → ((x1 = 13) → B214_15 d Q σ) ∧ (¬ (x1 = 13) → B214_16 d Q x1 σ))))))))))))))) : B214_1 d Q x1 σ := ut (m := M214) rfl h
theorem b214_2 {d : Nat} {Q : dR → dS → Prop} {σ : dS} (h : Q (.inl (some (.inl (σ 153 1)))) σ) : B214_2 d Q σ := ut (m := M214) rfl h
theorem b214_3 {d : Nat} {Q : dR → dS → Prop} {σ : dS} (h : Q (.inl (some (.inl (σ 153 2)))) σ) : B214_3 d Q σ := ut (m := M214) rfl h
theorem b214_4 {d : Nat} {Q : dR → dS → Prop} {σ : dS} (h : Q (.inl (some (.inl (σ 153 3)))) σ) : B214_4 d Q σ := ut (m := M214) rfl h
theorem b214_5 {d : Nat} {Q : dR → dS → Prop} {σ : dS} (h : Q (.inl (some (.inl (σ 153 4)))) σ) : B214_5 d Q σ := ut (m := M214) rfl h
theorem b214_6 {d : Nat} {Q : dR → dS → Prop} {σ : dS} (h : Q (.inl (some (.inl (σ 153 5)))) σ) : B214_6 d Q σ := ut (m := M214) rfl h
theorem b214_7 {d : Nat} {Q : dR → dS → Prop} {σ : dS} (h : (0 ≤ (0 : Int)) ∧ ((0 : Int) < 19) ∧ (Q (.inl (some (.inl (σ 174 0)))) σ)) : B214_7 d Q σ := ut (m := M214) rfl h
theorem b214_8 {d : Nat} {Q : dR → dS → Prop} {σ : dS} (h : Q (.inl (some (.inl (σ 153 6)))) σ) : B214_8 d Q σ := ut (m := M214) rfl h
theorem b214_9 {d : Nat} {Q : dR → dS → Prop} {σ : dS} (h : (0 ≤ (1 : Int)) ∧ ((1 : Int) < 19) ∧ (Q (.inl (some (.inl (σ 174 1)))) σ)) : B214_9 d Q σ := ut (m := M214) rfl h
theorem b214_10 {d : Nat} {Q : dR → dS → Prop} {σ : dS} (h : (0 ≤ (2 : Int)) ∧ ((2 : Int) < 19) ∧ (Q (.inl (some (.inl (σ 174 2)))) σ)) : B214_10 d Q σ := ut (m := M214) rfl h
theorem b214_11 {d : Nat} {Q : dR → dS → Prop} {σ : dS} (h : (0 ≤ (3 : Int)) ∧ ((3 : Int) < 19) ∧ (Q (.inl (some (.inl (σ 174 3)))) σ)) : B214_11 d Q σ := ut (m := M214) rfl h
theorem b214_12 {d : Nat} {Q : dR → dS → Prop} {σ : dS} (h : wI (d + 1) 213 [.inr (.inr 153)] σ Q (fun v1 σ1 => Q (.inl (some (.inl v1))) σ1)) : B214_12 d Q σ := ut (m := M214) rfl h
theorem b214_13 {d : Nat} {Q : dR → dS → Prop} {σ : dS} (h : Q (.inl (some (.inl (σ 153 50)))) σ) : B214_13 d Q σ := ut (m := M214) rfl h
theorem b214_14 {d : Nat} {Q : dR → dS → Prop} {σ : dS} (h : Q (.inl (some (.inl (σ 153 67)))) σ) : B214_14 d Q σ := ut (m := M214) rfl h
theorem b214_15 {d : Nat} {Q : dR → dS → Prop} {σ : dS} (h : Q (.inl (some (.inl (σ 153 15)))) σ) : B214_15 d Q σ := ut (m := M214) rfl h
theorem b214_16 {d : Nat} {Q : dR → dS → Prop} {x1 : Int} {σ : dS} (h : (0 ≤ (wr (x1 - 14))) ∧ ((wr (x1 - 14)) < 3) ∧ (Q (.inl (some (.inl (σ 162 (wr (x1 - 14)))))) σ)) : B214_16 d Q x1 σ := ut (m := M214) rfl h
theorem c214 {d : Nat} {Q : dR → dS → Prop} {K : Int → dS → Prop} {x1 : Int} {σ : dS} (h : B214_0 d (fun res σ1 => match res with | .inl (some (.inl v)) => K v σ1 | .inl _ => False | .inr e => Q (.inr e) σ1) x1 σ) : wI (d + 2) 214 [.inr (.inr 153), .inl x1] σ Q K := ut0 rfl (Nat.le_of_ble_eq_true rfl) h
/-- WingTramsModel.isRoof(I)Z, 215 -/
def M215 (lb : Nat) : List Bool := [[true, true], [false, false], [false, false]].getD lb []
def B215_0 (d : Nat) (Q : dR → dS → Prop) (x1 : Int) (σ : dS) : Prop := UT d 215 Q 0 (0, 0) [some (.inr (.inr 153)), some (.inl x1)] [] σ
def B215_1 (d : Nat) (Q : dR → dS → Prop) (σ : dS) : Prop := UT d 215 Q 1 (0, 0) [none, none] [.inr (.inr 153)] σ
def B215_2 (d : Nat) (Q : dR → dS → Prop) (s0 : Int) (σ : dS) : Prop := UT d 215 Q 2 (0, 0) [none, none] [.inl s0, .inr (.inr 153)] σ
theorem b215_0 {d : Nat} {Q : dR → dS → Prop} {x1 : Int} {σ : dS} (h : ((x1 < 0) → B215_1 d Q σ) ∧ (¬ (x1 < 0) → (((σ 153 1) ≤ x1) → B215_1 d Q σ) ∧ (¬ ((σ 153 1) ≤ x1) → B215_2 d Q 1 σ))) : B215_0 d Q x1 σ := ut (m := M215) rfl h
theorem b215_1 {d : Nat} {Q : dR → dS → Prop} {σ : dS} (h : B215_2 d Q 0 σ) : B215_1 d Q σ := ut (m := M215) rfl h
theorem b215_2 {d : Nat} {Q : dR → dS → Prop} {s0 : Int} {σ : dS} (h : wI (d + 1) 158 [.inr (.inr 153), .inl s0, .inl 1] σ Q (fun v1 σ1 => (v1 = 0 ∨ v1 = 1) ∧ Q (.inl (some (.inl v1))) σ1)) : B215_2 d Q s0 σ := ut (m := M215) rfl h
theorem c215 {d : Nat} {Q : dR → dS → Prop} {K : Int → dS → Prop} {x1 : Int} {σ : dS} (h : B215_0 d (fun res σ1 => match res with | .inl (some (.inl v)) => K v σ1 | .inl _ => False | .inr e => Q (.inr e) σ1) x1 σ) : wI (d + 2) 215 [.inr (.inr 153), .inl x1] σ Q K := ut0 rfl (Nat.le_of_ble_eq_true rfl) h
/-- WingTramsModel.isOwl(I)Z, 216 -/
def M216 (lb : Nat) : List Bool := [[true, true], [false, false], [false, false]].getD lb []
def B216_0 (d : Nat) (Q : dR → dS → Prop) (x1 : Int) (σ : dS) : Prop := UT d 216 Q 0 (0, 0) [some (.inr (.inr 153)), some (.inl x1)] [] σ
def B216_1 (d : Nat) (Q : dR → dS → Prop) (σ : dS) : Prop := UT d 216 Q 1 (0, 0) [none, none] [.inr (.inr 153)] σ
def B216_2 (d : Nat) (Q : dR → dS → Prop) (s0 : Int) (σ : dS) : Prop := UT d 216 Q 2 (0, 0) [none, none] [.inl s0, .inr (.inr 153)] σ
theorem b216_0 {d : Nat} {Q : dR → dS → Prop} {x1 : Int} {σ : dS} (h : ((x1 < 0) → B216_1 d Q σ) ∧ (¬ (x1 < 0) → (((σ 153 3) ≤ x1) → B216_1 d Q σ) ∧ (¬ ((σ 153 3) ≤ x1) → B216_2 d Q 1 σ))) : B216_0 d Q x1 σ := ut (m := M216) rfl h
theorem b216_1 {d : Nat} {Q : dR → dS → Prop} {σ : dS} (h : B216_2 d Q 0 σ) : B216_1 d Q σ := ut (m := M216) rfl h
theorem b216_2 {d : Nat} {Q : dR → dS → Prop} {s0 : Int} {σ : dS} (h : wI (d + 1) 158 [.inr (.inr 153), .inl s0, .inl 1] σ Q (fun v1 σ1 => (v1 = 0 ∨ v1 = 1) ∧ Q (.inl (some (.inl v1))) σ1)) : B216_2 d Q s0 σ := ut (m := M216) rfl h
theorem c216 {d : Nat} {Q : dR → dS → Prop} {K : Int → dS → Prop} {x1 : Int} {σ : dS} (h : B216_0 d (fun res σ1 => match res with | .inl (some (.inl v)) => K v σ1 | .inl _ => False | .inr e => Q (.inr e) σ1) x1 σ) : wI (d + 2) 216 [.inr (.inr 153), .inl x1] σ Q K := ut0 rfl (Nat.le_of_ble_eq_true rfl) h
/-- WingTramsModel.isRider(I)Z, 217 -/
def M217 (lb : Nat) : List Bool := [[true, true], [false, false], [false, false]].getD lb []
def B217_0 (d : Nat) (Q : dR → dS → Prop) (x1 : Int) (σ : dS) : Prop := UT d 217 Q 0 (0, 0) [some (.inr (.inr 153)), some (.inl x1)] [] σ
def B217_1 (d : Nat) (Q : dR → dS → Prop) (σ : dS) : Prop := UT d 217 Q 1 (0, 0) [none, none] [.inr (.inr 153)] σ
def B217_2 (d : Nat) (Q : dR → dS → Prop) (s0 : Int) (σ : dS) : Prop := UT d 217 Q 2 (0, 0) [none, none] [.inl s0, .inr (.inr 153)] σ
theorem b217_0 {d : Nat} {Q : dR → dS → Prop} {x1 : Int} {σ : dS} (h : ((x1 < 0) → B217_1 d Q σ) ∧ (¬ (x1 < 0) → (((σ 153 4) ≤ x1) → B217_1 d Q σ) ∧ (¬ ((σ 153 4) ≤ x1) → B217_2 d Q 1 σ))) : B217_0 d Q x1 σ := ut (m := M217) rfl h
theorem b217_1 {d : Nat} {Q : dR → dS → Prop} {σ : dS} (h : B217_2 d Q 0 σ) : B217_1 d Q σ := ut (m := M217) rfl h
theorem b217_2 {d : Nat} {Q : dR → dS → Prop} {s0 : Int} {σ : dS} (h : wI (d + 1) 158 [.inr (.inr 153), .inl s0, .inl 1] σ Q (fun v1 σ1 => (v1 = 0 ∨ v1 = 1) ∧ Q (.inl (some (.inl v1))) σ1)) : B217_2 d Q s0 σ := ut (m := M217) rfl h
theorem c217 {d : Nat} {Q : dR → dS → Prop} {K : Int → dS → Prop} {x1 : Int} {σ : dS} (h : B217_0 d (fun res σ1 => match res with | .inl (some (.inl v)) => K v σ1 | .inl _ => False | .inr e => Q (.inr e) σ1) x1 σ) : wI (d + 2) 217 [.inr (.inr 153), .inl x1] σ Q K := ut0 rfl (Nat.le_of_ble_eq_true rfl) h
/-- WingTramsModel.isWhat(II)Z, 218 -/
def M218 (lb : Nat) : List Bool := [[true, true, true]].getD lb []
def B218_0 (d : Nat) (Q : dR → dS → Prop) (x1 x2 : Int) (σ : dS) : Prop := UT d 218 Q 0 (0, 0) [some (.inr (.inr 153)), some (.inl x1), some (.inl x2)] [] σ
theorem b218_0 {d : Nat} {Q : dR → dS → Prop} {x1 x2 : Int} {σ : dS} (h : wI (d + 1) 159 [.inl x1, .inl 0, .inl x2] σ Q (fun v1 σ1 => wI (d + 1) 158 [.inr (.inr 153), .inl v1, .inl 1] σ1 Q (fun v2 σ2 => (v2 = 0 ∨ v2 = 1) ∧ Q (.inl (some (.inl v2))) σ2))) : B218_0 d Q x1 x2 σ := ut (m := M218) rfl h
theorem c218 {d : Nat} {Q : dR → dS → Prop} {K : Int → dS → Prop} {x1 x2 : Int} {σ : dS} (h : B218_0 d (fun res σ1 => match res with | .inl (some (.inl v)) => K v σ1 | .inl _ => False | .inr e => Q (.inr e) σ1) x1 x2 σ) : wI (d + 2) 218 [.inr (.inr 153), .inl x1, .inl x2] σ Q K := ut0 rfl (Nat.le_of_ble_eq_true rfl) h
/-- WingTramsModel.roof(II)I, 219 -/
def M219 (lb : Nat) : List Bool := [[true, true, true, false, false], [false, false, false, false, false], [true, true, true, false, false], [true, true, false, false, false], [true, true, false, false, false], [true, true, false, false, false], [true, true, false, true, false], [true, true, false, true, true], [true, true, false, false, true], [true, true, false, false, true], [false, false, false, true, false], [true, true, false, true, false], [true, true, false, true, true], [true, true, false, false, true], [true, true, false, false, true], [false, false, false, true, false]].getD lb []
def B219_0 (d : Nat) (Q : dR → dS → Prop) (x1 x2 : Int) (σ : dS) : Prop := UT d 219 Q 0 (0, 0) [some (.inr (.inr 153)), some (.inl x1), some (.inl x2), none, none] [] σ
def B219_1 (d : Nat) (Q : dR → dS → Prop) (σ : dS) : Prop := UT d 219 Q 1 (0, 0) [none, none, none, none, none] [] σ
def B219_2 (d : Nat) (Q : dR → dS → Prop) (x1 x2 : Int) (σ : dS) : Prop := UT d 219 Q 2 (0, 0) [some (.inr (.inr 153)), some (.inl x1), some (.inl x2), none, none] [] σ
def B219_3 (d : Nat) (Q : dR → dS → Prop) (x1 : Int) (σ : dS) : Prop := UT d 219 Q 3 (0, 0) [some (.inr (.inr 153)), some (.inl x1), none, none, none] [] σ
def B219_4 (d : Nat) (Q : dR → dS → Prop) (x1 : Int) (σ : dS) : Prop := UT d 219 Q 4 (0, 0) [some (.inr (.inr 153)), some (.inl x1), none, none, none] [] σ
def B219_5 (d : Nat) (Q : dR → dS → Prop) (x1 : Int) (σ : dS) : Prop := UT d 219 Q 5 (0, 0) [some (.inr (.inr 153)), some (.inl x1), none, none, none] [] σ
def B219_6 (d : Nat) (Q : dR → dS → Prop) (x1 x3 : Int) (σ : dS) : Prop := UT d 219 Q 6 (0, 0) [some (.inr (.inr 153)), some (.inl x1), none, some (.inl x3), none] [] σ
def B219_7 (d : Nat) (Q : dR → dS → Prop) (x1 x3 x4 : Int) (σ : dS) : Prop := UT d 219 Q 7 (0, 0) [some (.inr (.inr 153)), some (.inl x1), none, some (.inl x3), some (.inl x4)] [] σ
def B219_8 (d : Nat) (Q : dR → dS → Prop) (x1 x4 s0 : Int) (σ : dS) : Prop := UT d 219 Q 8 (0, 0) [some (.inr (.inr 153)), some (.inl x1), none, none, some (.inl x4)] [.inl s0] σ
def B219_9 (d : Nat) (Q : dR → dS → Prop) (x1 x4 s0 s1 : Int) (σ : dS) : Prop := UT d 219 Q 9 (0, 0) [some (.inr (.inr 153)), some (.inl x1), none, none, some (.inl x4)] [.inl s0, .inl s1] σ
def B219_10 (d : Nat) (Q : dR → dS → Prop) (x3 : Int) (σ : dS) : Prop := UT d 219 Q 10 (0, 0) [none, none, none, some (.inl x3), none] [] σ
def B219_11 (d : Nat) (Q : dR → dS → Prop) (x1 x3 : Int) (σ : dS) : Prop := UT d 219 Q 11 (0, 0) [some (.inr (.inr 153)), some (.inl x1), none, some (.inl x3), none] [] σ
def B219_12 (d : Nat) (Q : dR → dS → Prop) (x1 x3 x4 : Int) (σ : dS) : Prop := UT d 219 Q 12 (0, 0) [some (.inr (.inr 153)), some (.inl x1), none, some (.inl x3), some (.inl x4)] [] σ
def B219_13 (d : Nat) (Q : dR → dS → Prop) (x1 x4 s0 : Int) (σ : dS) : Prop := UT d 219 Q 13 (0, 0) [some (.inr (.inr 153)), some (.inl x1), none, none, some (.inl x4)] [.inl s0] σ
def B219_14 (d : Nat) (Q : dR → dS → Prop) (x1 x4 s0 s1 : Int) (σ : dS) : Prop := UT d 219 Q 14 (0, 0) [some (.inr (.inr 153)), some (.inl x1), none, none, some (.inl x4)] [.inl s0, .inl s1] σ
def B219_15 (d : Nat) (Q : dR → dS → Prop) (x3 : Int) (σ : dS) : Prop := UT d 219 Q 15 (0, 0) [none, none, none, some (.inl x3), none] [] σ
theorem b219_0 {d : Nat} {Q : dR → dS → Prop} {x1 x2 : Int} {σ : dS} (h : ∀ σ1 : dS, σ1 = up σ 153 0 0 → (wI (d + 1) 215 [.inr (.inr 153), .inl x1] σ1 Q (fun v2 σ2 => ((v2 = 0) → B219_1 d Q σ2) ∧ (¬ (v2 = 0) → wI (d + 1) 218 [.inr (.inr 153), .inl x2, .inl 4] σ2 Q (fun v3 σ3 => ((v3 ≠ 0) → B219_2 d Q x1 x2 σ3) ∧ (¬ (v3 ≠ 0) → B219_1 d Q σ3)))))) : B219_0 d Q x1 x2 σ := ut (m := M219) rfl h
theorem b219_1 {d : Nat} {Q : dR → dS → Prop} {σ : dS} (h : Q (.inl (some (.inl 0))) σ) : B219_1 d Q σ := ut (m := M219) rfl h
theorem b219_2 {d : Nat} {Q : dR → dS → Prop} {x1 x2 : Int} {σ : dS} (h : wV (d + 1) 205 [.inr (.inr 153)] σ Q (fun σ1 => ((x2 = 0) → B219_3 d Q x1 σ1) ∧ (¬ (x2 = 0) → ((x2 = 1) → B219_4 d Q x1 σ1) ∧ (¬ (x2 = 1) → ((x2 = 2) → B219_5 d Q x1 σ1) ∧ (¬ (x2 = 2) → ((x2 = 3) → B219_6 d Q x1 0 σ1) ∧ (¬ (x2 = 3) → B219_11 d Q x1 0 σ1)))))) : B219_2 d Q x1 x2 σ := ut (m := M219) rfl h
theorem b219_3 {d : Nat} {Q : dR → dS → Prop} {x1 : Int} {σ : dS} (h : (0 ≤ (wr (4 + x1))) ∧ ((wr (4 + x1)) < 19) ∧ (Q (.inl (some (.inl (σ 174 (wr (4 + x1)))))) σ)) : B219_3 d Q x1 σ := ut (m := M219) rfl h
theorem b219_4 {d : Nat} {Q : dR → dS → Prop} {x1 : Int} {σ : dS} (h : (0 ≤ (wr (4 + x1))) ∧ ((wr (4 + x1)) < 19) ∧ (Q (.inl (some (.inl (wr (2 * (σ 174 (wr (4 + x1)))))))) σ)) : B219_4 d Q x1 σ := ut (m := M219) rfl h
theorem b219_5 {d : Nat} {Q : dR → dS → Prop} {x1 : Int} {σ : dS} (h : (0 ≤ x1) ∧ (x1 < 10) ∧ (Q (.inl (some (.inl (σ 182 x1)))) σ)) : B219_5 d Q x1 σ := ut (m := M219) rfl h
theorem b219_6 {d : Nat} {Q : dR → dS → Prop} {x1 x3 : Int} {σ : dS} (h : B219_7 d Q x1 x3 0 σ) : B219_6 d Q x1 x3 σ := ut (m := M219) rfl h
theorem b219_7 {d : Nat} {Q : dR → dS → Prop} {x1 x3 x4 : Int} {σ : dS} (h : (((σ 153 4) ≤ x4) → B219_10 d Q x3 σ) ∧ (¬ ((σ 153 4) ≤ x4) → wI (d + 1) 210 [.inr (.inr 153), .inl x4] σ Q (fun v1 σ1 => ((v1 ≠ x1) → B219_8 d Q x1 x4 x3 σ1) ∧ (¬ (v1 ≠ x1) → B219_9 d Q x1 x4 (shl 1 x4) x3 σ1)))) : B219_7 d Q x1 x3 x4 σ := ut (m := M219) rfl h
theorem b219_8 {d : Nat} {Q : dR → dS → Prop} {x1 x4 s0 : Int} {σ : dS} (h : B219_9 d Q x1 x4 0 s0 σ) : B219_8 d Q x1 x4 s0 σ := ut (m := M219) rfl h
theorem b219_9 {d : Nat} {Q : dR → dS → Prop} {x1 x4 s0 s1 : Int} {σ : dS} (h : B219_7 d Q x1 (ior s1 s0) (wr (x4 + 1)) σ) : B219_9 d Q x1 x4 s0 s1 σ := ut (m := M219) rfl h
theorem b219_10 {d : Nat} {Q : dR → dS → Prop} {x3 : Int} {σ : dS} (h : Q (.inl (some (.inl x3))) σ) : B219_10 d Q x3 σ := ut (m := M219) rfl h
theorem b219_11 {d : Nat} {Q : dR → dS → Prop} {x1 x3 : Int} {σ : dS} (h : B219_12 d Q x1 x3 0 σ) : B219_11 d Q x1 x3 σ := ut (m := M219) rfl h
theorem b219_12 {d : Nat} {Q : dR → dS → Prop} {x1 x3 x4 : Int} {σ : dS} (h : (((σ 153 1) ≤ x4) → B219_15 d Q x3 σ) ∧ (¬ ((σ 153 1) ≤ x4) → (0 ≤ (wr ((wr (10 * x1)) + x4))) ∧ ((wr ((wr (10 * x1)) + x4)) < 100) ∧ ((((σ 154 (wr ((wr (10 * x1)) + x4))) ≤ 0) → B219_13 d Q x1 x4 x3 σ) ∧ (¬ ((σ 154 (wr ((wr (10 * x1)) + x4))) ≤ 0) → B219_14 d Q x1 x4 1 x3 σ)))) : B219_12 d Q x1 x3 x4 σ := ut (m := M219) rfl h
theorem b219_13 {d : Nat} {Q : dR → dS → Prop} {x1 x4 s0 : Int} {σ : dS} (h : B219_14 d Q x1 x4 0 s0 σ) : B219_13 d Q x1 x4 s0 σ := ut (m := M219) rfl h
theorem b219_14 {d : Nat} {Q : dR → dS → Prop} {x1 x4 s0 s1 : Int} {σ : dS} (h : B219_12 d Q x1 (wr (s1 + s0)) (wr (x4 + 1)) σ) : B219_14 d Q x1 x4 s0 s1 σ := ut (m := M219) rfl h
theorem b219_15 {d : Nat} {Q : dR → dS → Prop} {x3 : Int} {σ : dS} (h : Q (.inl (some (.inl x3))) σ) : B219_15 d Q x3 σ := ut (m := M219) rfl h
theorem c219 {d : Nat} {Q : dR → dS → Prop} {K : Int → dS → Prop} {x1 x2 : Int} {σ : dS} (h : B219_0 d (fun res σ1 => match res with | .inl (some (.inl v)) => K v σ1 | .inl _ => False | .inr e => Q (.inr e) σ1) x1 x2 σ) : wI (d + 2) 219 [.inr (.inr 153), .inl x1, .inl x2] σ Q K := ut0 rfl (Nat.le_of_ble_eq_true rfl) h
/-- WingTramsModel.flight(II)I, 220 -/
def M220 (lb : Nat) : List Bool := [[true, true, true], [false, false, false], [true, true, true], [false, false, false], [false, false, false]].getD lb []
def B220_0 (d : Nat) (Q : dR → dS → Prop) (x1 x2 : Int) (σ : dS) : Prop := UT d 220 Q 0 (0, 0) [some (.inr (.inr 153)), some (.inl x1), some (.inl x2)] [] σ
def B220_1 (d : Nat) (Q : dR → dS → Prop) (σ : dS) : Prop := UT d 220 Q 1 (0, 0) [none, none, none] [] σ
def B220_2 (d : Nat) (Q : dR → dS → Prop) (x1 x2 : Int) (σ : dS) : Prop := UT d 220 Q 2 (0, 0) [some (.inr (.inr 153)), some (.inl x1), some (.inl x2)] [] σ
def B220_3 (d : Nat) (Q : dR → dS → Prop) (σ : dS) : Prop := UT d 220 Q 3 (0, 0) [none, none, none] [] σ
def B220_4 (d : Nat) (Q : dR → dS → Prop) (s0 : Int) (σ : dS) : Prop := UT d 220 Q 4 (0, 0) [none, none, none] [.inl s0] σ
theorem b220_0 {d : Nat} {Q : dR → dS → Prop} {x1 x2 : Int} {σ : dS} (h : ∀ σ1 : dS, σ1 = up σ 153 0 0 → (wI (d + 1) 215 [.inr (.inr 153), .inl x1] σ1 Q (fun v2 σ2 => ((v2 = 0) → B220_1 d Q σ2) ∧ (¬ (v2 = 0) → wI (d + 1) 215 [.inr (.inr 153), .inl x2] σ2 Q (fun v3 σ3 => ((v3 ≠ 0) → B220_2 d Q x1 x2 σ3) ∧ (¬ (v3 ≠ 0) → B220_1 d Q σ3)))))) : B220_0 d Q x1 x2 σ := ut (m := M220) rfl h
theorem b220_1 {d : Nat} {Q : dR → dS → Prop} {σ : dS} (h : Q (.inl (some (.inl 0))) σ) : B220_1 d Q σ := ut (m := M220) rfl h
theorem b220_2 {d : Nat} {Q : dR → dS → Prop} {x1 x2 : Int} {σ : dS} (h : (0 ≤ (wr ((wr (10 * x1)) + x2))) ∧ ((wr ((wr (10 * x1)) + x2)) < 100) ∧ ((((σ 154 (wr ((wr (10 * x1)) + x2))) ≤ 0) → B220_3 d Q σ) ∧ (¬ ((σ 154 (wr ((wr (10 * x1)) + x2))) ≤ 0) → (0 ≤ (wr ((wr (10 * x1)) + x2))) ∧ ((wr ((wr (10 * x1)) + x2)) < 100) ∧ (B220_4 d Q (σ 154 (wr ((wr (10 * x1)) + x2))) σ)))) : B220_2 d Q x1 x2 σ := ut (m := M220) rfl h
theorem b220_3 {d : Nat} {Q : dR → dS → Prop} {σ : dS} (h : B220_4 d Q (-1) σ) : B220_3 d Q σ := ut (m := M220) rfl h
theorem b220_4 {d : Nat} {Q : dR → dS → Prop} {s0 : Int} {σ : dS} (h : Q (.inl (some (.inl s0))) σ) : B220_4 d Q s0 σ := ut (m := M220) rfl h
theorem c220 {d : Nat} {Q : dR → dS → Prop} {K : Int → dS → Prop} {x1 x2 : Int} {σ : dS} (h : B220_0 d (fun res σ1 => match res with | .inl (some (.inl v)) => K v σ1 | .inl _ => False | .inr e => Q (.inr e) σ1) x1 x2 σ) : wI (d + 2) 220 [.inr (.inr 153), .inl x1, .inl x2] σ Q K := ut0 rfl (Nat.le_of_ble_eq_true rfl) h
/-- WingTramsModel.together(I)I, 221 -/
def M221 (lb : Nat) : List Bool := [[true, true, false, false, false, false, false], [true, true, true, true, false, false, false], [true, true, true, true, true, true, true], [true, true, true, true, true, false, true], [true, true, true, true, true, false, true], [true, true, true, true, true, false, true], [true, true, true, true, false, true, false], [true, true, false, true, false, false, false], [true, true, false, true, false, false, false], [false, false, true, false, false, false, false]].getD lb []
def B221_0 (d : Nat) (Q : dR → dS → Prop) (x1 : Int) (σ : dS) : Prop := UT d 221 Q 0 (0, 0) [some (.inr (.inr 153)), some (.inl x1), none, none, none, none, none] [] σ
def B221_1 (d : Nat) (Q : dR → dS → Prop) (x1 x2 x3 : Int) (σ : dS) : Prop := UT d 221 Q 1 (0, 0) [some (.inr (.inr 153)), some (.inl x1), some (.inl x2), some (.inl x3), none, none, none] [] σ
def B221_2 (d : Nat) (Q : dR → dS → Prop) (x1 x2 x3 x4 x5 x6 : Int) (σ : dS) : Prop := UT d 221 Q 2 (0, 0) [some (.inr (.inr 153)), some (.inl x1), some (.inl x2), some (.inl x3), some (.inl x4), some (.inl x5), some (.inl x6)] [] σ
def B221_3 (d : Nat) (Q : dR → dS → Prop) (x1 x2 x3 x4 x6 : Int) (σ : dS) : Prop := UT d 221 Q 3 (0, 0) [some (.inr (.inr 153)), some (.inl x1), some (.inl x2), some (.inl x3), some (.inl x4), none, some (.inl x6)] [] σ
def B221_4 (d : Nat) (Q : dR → dS → Prop) (x1 x2 x3 x4 x6 : Int) (σ : dS) : Prop := UT d 221 Q 4 (0, 0) [some (.inr (.inr 153)), some (.inl x1), some (.inl x2), some (.inl x3), some (.inl x4), none, some (.inl x6)] [] σ
def B221_5 (d : Nat) (Q : dR → dS → Prop) (x1 x2 x3 x4 x6 s0 : Int) (σ : dS) : Prop := UT d 221 Q 5 (0, 0) [some (.inr (.inr 153)), some (.inl x1), some (.inl x2), some (.inl x3), some (.inl x4), none, some (.inl x6)] [.inl s0] σ
def B221_6 (d : Nat) (Q : dR → dS → Prop) (x1 x2 x3 x5 : Int) (σ : dS) : Prop := UT d 221 Q 6 (0, 0) [some (.inr (.inr 153)), some (.inl x1), some (.inl x2), some (.inl x3), none, some (.inl x5), none] [] σ
def B221_7 (d : Nat) (Q : dR → dS → Prop) (x1 x3 s0 : Int) (σ : dS) : Prop := UT d 221 Q 7 (0, 0) [some (.inr (.inr 153)), some (.inl x1), none, some (.inl x3), none, none, none] [.inl s0] σ
def B221_8 (d : Nat) (Q : dR → dS → Prop) (x1 x3 s0 s1 : Int) (σ : dS) : Prop := UT d 221 Q 8 (0, 0) [some (.inr (.inr 153)), some (.inl x1), none, some (.inl x3), none, none, none] [.inl s0, .inl s1] σ
def B221_9 (d : Nat) (Q : dR → dS → Prop) (x2 : Int) (σ : dS) : Prop := UT d 221 Q 9 (0, 0) [none, none, some (.inl x2), none, none, none, none] [] σ
theorem b221_0 {d : Nat} {Q : dR → dS → Prop} {x1 : Int} {σ : dS} (h : B221_1 d Q x1 0 0 σ) : B221_0 d Q x1 σ := ut (m := M221) rfl h
theorem b221_1 {d : Nat} {Q : dR → dS → Prop} {x1 x2 x3 : Int} {σ : dS} (h : (((σ 153 6) < x3) → B221_9 d Q x2 σ) ∧ (¬ ((σ 153 6) < x3) → wI (d + 1) 206 [.inr (.inr 153), .inl x1, .inl x3] σ Q (fun v1 σ1 => B221_2 d Q x1 x2 x3 v1 0 0 σ1))) : B221_1 d Q x1 x2 x3 σ := ut (m := M221) rfl h
theorem b221_2 {d : Nat} {Q : dR → dS → Prop} {x1 x2 x3 x4 x5 x6 : Int} {σ : dS} (h : (((σ 153 3) ≤ x6) → B221_6 d Q x1 x2 x3 x5 σ) ∧ (¬ ((σ 153 3) ≤ x6) → ((x5 ≠ 0) → B221_3 d Q x1 x2 x3 x4 x6 σ) ∧ (¬ (x5 ≠ 0) → ((x6 = x1) → B221_4 d Q x1 x2 x3 x4 x6 σ) ∧ (¬ (x6 = x1) → ((x4 = (-1 : Int)) → B221_4 d Q x1 x2 x3 x4 x6 σ) ∧ (¬ (x4 = (-1 : Int)) → wI (d + 1) 206 [.inr (.inr 153), .inl x6, .inl x3] σ Q (fun v1 σ1 => ((v1 ≠ x4) → B221_4 d Q x1 x2 x3 x4 x6 σ1) ∧ (¬ (v1 ≠ x4) → B221_3 d Q x1 x2 x3 x4 x6 σ1))))))) : B221_2 d Q x1 x2 x3 x4 x5 x6 σ := ut (m := M221) rfl h
theorem b221_3 {d : Nat} {Q : dR → dS → Prop} {x1 x2 x3 x4 x6 : Int} {σ : dS} (h : B221_5 d Q x1 x2 x3 x4 x6 1 σ) : B221_3 d Q x1 x2 x3 x4 x6 σ := ut (m := M221) rfl h
theorem b221_4 {d : Nat} {Q : dR → dS → Prop} {x1 x2 x3 x4 x6 : Int} {σ : dS} (h : B221_5 d Q x1 x2 x3 x4 x6 0 σ) : B221_4 d Q x1 x2 x3 x4 x6 σ := ut (m := M221) rfl h
theorem b221_5 {d : Nat} {Q : dR → dS → Prop} {x1 x2 x3 x4 x6 s0 : Int} {σ : dS} (h : B221_2 d Q x1 x2 x3 x4 s0 (wr (x6 + 1)) σ) : B221_5 d Q x1 x2 x3 x4 x6 s0 σ := ut (m := M221) rfl h
theorem b221_6 {d : Nat} {Q : dR → dS → Prop} {x1 x2 x3 x5 : Int} {σ : dS} (h : ((x5 = 0) → B221_7 d Q x1 x3 x2 σ) ∧ (¬ (x5 = 0) → B221_8 d Q x1 x3 1 x2 σ)) : B221_6 d Q x1 x2 x3 x5 σ := ut (m := M221) rfl h
theorem b221_7 {d : Nat} {Q : dR → dS → Prop} {x1 x3 s0 : Int} {σ : dS} (h : B221_8 d Q x1 x3 0 s0 σ) : B221_7 d Q x1 x3 s0 σ := ut (m := M221) rfl h
theorem b221_8 {d : Nat} {Q : dR → dS → Prop} {x1 x3 s0 s1 : Int} {σ : dS} (h : B221_1 d Q x1 (wr (s1 + s0)) (wr (x3 + 1)) σ) : B221_8 d Q x1 x3 s0 s1 σ := ut (m := M221) rfl h
theorem b221_9 {d : Nat} {Q : dR → dS → Prop} {x2 : Int} {σ : dS} (h : Q (.inl (some (.inl x2))) σ) : B221_9 d Q x2 σ := ut (m := M221) rfl h
theorem c221 {d : Nat} {Q : dR → dS → Prop} {K : Int → dS → Prop} {x1 : Int} {σ : dS} (h : B221_0 d (fun res σ1 => match res with | .inl (some (.inl v)) => K v σ1 | .inl _ => False | .inr e => Q (.inr e) σ1) x1 σ) : wI (d + 2) 221 [.inr (.inr 153), .inl x1] σ Q K := ut0 rfl (Nat.le_of_ble_eq_true rfl) h
/-- WingTramsModel.owl(II)I, 222 -/
def M222 (lb : Nat) : List Bool := [[true, true, true], [false, false, false], [true, true, true], [true, true, false], [true, true, false], [true, true, false], [true, true, false], [true, true, false], [false, false, false], [false, false, false], [true, true, false]].getD lb []
def B222_0 (d : Nat) (Q : dR → dS → Prop) (x1 x2 : Int) (σ : dS) : Prop := UT d 222 Q 0 (0, 0) [some (.inr (.inr 153)), some (.inl x1), some (.inl x2)] [] σ
def B222_1 (d : Nat) (Q : dR → dS → Prop) (σ : dS) : Prop := UT d 222 Q 1 (0, 0) [none, none, none] [] σ
def B222_2 (d : Nat) (Q : dR → dS → Prop) (x1 x2 : Int) (σ : dS) : Prop := UT d 222 Q 2 (0, 0) [some (.inr (.inr 153)), some (.inl x1), some (.inl x2)] [] σ
def B222_3 (d : Nat) (Q : dR → dS → Prop) (x1 : Int) (σ : dS) : Prop := UT d 222 Q 3 (0, 0) [some (.inr (.inr 153)), some (.inl x1), none] [] σ
def B222_4 (d : Nat) (Q : dR → dS → Prop) (x1 : Int) (σ : dS) : Prop := UT d 222 Q 4 (0, 0) [some (.inr (.inr 153)), some (.inl x1), none] [] σ
def B222_5 (d : Nat) (Q : dR → dS → Prop) (x1 : Int) (σ : dS) : Prop := UT d 222 Q 5 (0, 0) [some (.inr (.inr 153)), some (.inl x1), none] [] σ
def B222_6 (d : Nat) (Q : dR → dS → Prop) (x1 : Int) (σ : dS) : Prop := UT d 222 Q 6 (0, 0) [some (.inr (.inr 153)), some (.inl x1), none] [] σ
def B222_7 (d : Nat) (Q : dR → dS → Prop) (x1 : Int) (σ : dS) : Prop := UT d 222 Q 7 (0, 0) [some (.inr (.inr 153)), some (.inl x1), none] [] σ
def B222_8 (d : Nat) (Q : dR → dS → Prop) (σ : dS) : Prop := UT d 222 Q 8 (0, 0) [none, none, none] [] σ
def B222_9 (d : Nat) (Q : dR → dS → Prop) (s0 : Int) (σ : dS) : Prop := UT d 222 Q 9 (0, 0) [none, none, none] [.inl s0] σ
def B222_10 (d : Nat) (Q : dR → dS → Prop) (x1 : Int) (σ : dS) : Prop := UT d 222 Q 10 (0, 0) [some (.inr (.inr 153)), some (.inl x1), none] [] σ
theorem b222_0 {d : Nat} {Q : dR → dS → Prop} {x1 x2 : Int} {σ : dS} (h : ∀ σ1 : dS, σ1 = up σ 153 0 0 → (wI (d + 1) 216 [.inr (.inr 153), .inl x1] σ1 Q (fun v2 σ2 => ((v2 = 0) → B222_1 d Q σ2) ∧ (¬ (v2 = 0) → wI (d + 1) 218 [.inr (.inr 153), .inl x2, .inl 5] σ2 Q (fun v3 σ3 => ((v3 ≠ 0) → B222_2 d Q x1 x2 σ3) ∧ (¬ (v3 ≠ 0) → B222_1 d Q σ3)))))) : B222_0 d Q x1 x2 σ := ut (m := M222) rfl h
theorem b222_1 {d : Nat} {Q : dR → dS → Prop} {σ : dS} (h : Q (.inl (some (.inl 0))) σ) : B222_1 d Q σ := ut (m := M222) rfl h
theorem b222_2 {d : Nat} {Q : dR → dS → Prop} {x1 x2 : Int} {σ : dS} (h : wV (d + 1) 205 [.inr (.inr 153)] σ Q (fun σ1 => ((x2 = 0) → B222_3 d Q x1 σ1) ∧ (¬ (x2 = 0) → ((x2 = 1) → B222_4 d Q x1 σ1) ∧ (¬ (x2 = 1) → ((x2 = 2) → B222_5 d Q x1 σ1) ∧ (¬ (x2 = 2) → ((x2 = 3) → B222_6 d Q x1 σ1) ∧ (¬ (x2 = 3) → ((x2 = 4) → B222_7 d Q x1 σ1) ∧ (¬ (x2 = 4) → B222_10 d Q x1 σ1))))))) : B222_2 d Q x1 x2 σ := ut (m := M222) rfl h
theorem b222_3 {d : Nat} {Q : dR → dS → Prop} {x1 : Int} {σ : dS} (h : (0 ≤ x1) ∧ (x1 < 5) ∧ (Q (.inl (some (.inl (σ 155 x1)))) σ)) : B222_3 d Q x1 σ := ut (m := M222) rfl h
theorem b222_4 {d : Nat} {Q : dR → dS → Prop} {x1 : Int} {σ : dS} (h : (0 ≤ (wr (14 + x1))) ∧ ((wr (14 + x1)) < 19) ∧ (Q (.inl (some (.inl (σ 174 (wr (14 + x1)))))) σ)) : B222_4 d Q x1 σ := ut (m := M222) rfl h
theorem b222_5 {d : Nat} {Q : dR → dS → Prop} {x1 : Int} {σ : dS} (h : (0 ≤ x1) ∧ (x1 < 5) ∧ (Q (.inl (some (.inl (σ 156 x1)))) σ)) : B222_5 d Q x1 σ := ut (m := M222) rfl h
theorem b222_6 {d : Nat} {Q : dR → dS → Prop} {x1 : Int} {σ : dS} (h : (0 ≤ x1) ∧ (x1 < 5) ∧ (Q (.inl (some (.inl (σ 183 x1)))) σ)) : B222_6 d Q x1 σ := ut (m := M222) rfl h
theorem b222_7 {d : Nat} {Q : dR → dS → Prop} {x1 : Int} {σ : dS} (h : wI (d + 1) 202 [.inr (.inr 153), .inl x1] σ Q (fun v1 σ1 => ((v1 = 0) → B222_8 d Q σ1) ∧ (¬ (v1 = 0) → B222_9 d Q 1 σ1))) : B222_7 d Q x1 σ := ut (m := M222) rfl h
theorem b222_8 {d : Nat} {Q : dR → dS → Prop} {σ : dS} (h : B222_9 d Q 0 σ) : B222_8 d Q σ := ut (m := M222) rfl h
theorem b222_9 {d : Nat} {Q : dR → dS → Prop} {s0 : Int} {σ : dS} (h : Q (.inl (some (.inl s0))) σ) : B222_9 d Q s0 σ := ut (m := M222) rfl h
theorem b222_10 {d : Nat} {Q : dR → dS → Prop} {x1 : Int} {σ : dS} (h : wI (d + 1) 221 [.inr (.inr 153), .inl x1] σ Q (fun v1 σ1 => Q (.inl (some (.inl v1))) σ1)) : B222_10 d Q x1 σ := ut (m := M222) rfl h
theorem c222 {d : Nat} {Q : dR → dS → Prop} {K : Int → dS → Prop} {x1 x2 : Int} {σ : dS} (h : B222_0 d (fun res σ1 => match res with | .inl (some (.inl v)) => K v σ1 | .inl _ => False | .inr e => Q (.inr e) σ1) x1 x2 σ) : wI (d + 2) 222 [.inr (.inr 153), .inl x1, .inl x2] σ Q K := ut0 rfl (Nat.le_of_ble_eq_true rfl) h
/-- WingTramsModel.stop(III)I, 223 -/
def M223 (lb : Nat) : List Bool := [[true, true, true, true], [true, true, true, true], [true, true, true, true], [false, false, false, false], [true, true, true, true], [true, true, true, true], [true, true, true, true], [true, true, true, false], [false, false, false, false]].getD lb []
def B223_0 (d : Nat) (Q : dR → dS → Prop) (x1 x2 x3 : Int) (σ : dS) : Prop := UT d 223 Q 0 (0, 0) [some (.inr (.inr 153)), some (.inl x1), some (.inl x2), some (.inl x3)] [] σ
def B223_1 (d : Nat) (Q : dR → dS → Prop) (x1 x2 x3 : Int) (σ : dS) : Prop := UT d 223 Q 1 (0, 0) [some (.inr (.inr 153)), some (.inl x1), some (.inl x2), some (.inl x3)] [.inr (.inr 153)] σ
def B223_2 (d : Nat) (Q : dR → dS → Prop) (x1 x2 x3 s0 : Int) (σ : dS) : Prop := UT d 223 Q 2 (0, 0) [some (.inr (.inr 153)), some (.inl x1), some (.inl x2), some (.inl x3)] [.inl s0, .inr (.inr 153)] σ
def B223_3 (d : Nat) (Q : dR → dS → Prop) (σ : dS) : Prop := UT d 223 Q 3 (0, 0) [none, none, none, none] [] σ
def B223_4 (d : Nat) (Q : dR → dS → Prop) (x1 x2 x3 : Int) (σ : dS) : Prop := UT d 223 Q 4 (0, 0) [some (.inr (.inr 153)), some (.inl x1), some (.inl x2), some (.inl x3)] [] σ
def B223_5 (d : Nat) (Q : dR → dS → Prop) (x1 x2 x3 : Int) (σ : dS) : Prop := UT d 223 Q 5 (0, 0) [some (.inr (.inr 153)), some (.inl x1), some (.inl x2), some (.inl x3)] [] σ
def B223_6 (d : Nat) (Q : dR → dS → Prop) (x1 x2 x3 : Int) (σ : dS) : Prop := UT d 223 Q 6 (0, 0) [some (.inr (.inr 153)), some (.inl x1), some (.inl x2), some (.inl x3)] [] σ
def B223_7 (d : Nat) (Q : dR → dS → Prop) (x1 x2 : Int) (σ : dS) : Prop := UT d 223 Q 7 (0, 0) [some (.inr (.inr 153)), some (.inl x1), some (.inl x2), none] [] σ
def B223_8 (d : Nat) (Q : dR → dS → Prop) (s0 : Int) (σ : dS) : Prop := UT d 223 Q 8 (0, 0) [none, none, none, none] [.inl s0] σ
theorem b223_0 {d : Nat} {Q : dR → dS → Prop} {x1 x2 x3 : Int} {σ : dS} (h : ∀ σ1 : dS, σ1 = up σ 153 0 0 → (wI (d + 1) 216 [.inr (.inr 153), .inl x1] σ1 Q (fun v2 σ2 => ((v2 = 0) → B223_3 d Q σ2) ∧ (¬ (v2 = 0) → ((x2 < 0) → B223_1 d Q x1 x2 x3 σ2) ∧ (¬ (x2 < 0) → (0 ≤ x1) ∧ (x1 < 5) ∧ ((((σ2 156 x1) ≤ x2) → B223_1 d Q x1 x2 x3 σ2) ∧ (¬ ((σ2 156 x1) ≤ x2) → B223_2 d Q x1 x2 x3 1 σ2))))))) : B223_0 d Q x1 x2 x3 σ := ut (m := M223) rfl h
theorem b223_1 {d : Nat} {Q : dR → dS → Prop} {x1 x2 x3 : Int} {σ : dS} (h : B223_2 d Q x1 x2 x3 0 σ) : B223_1 d Q x1 x2 x3 σ := ut (m := M223) rfl h
theorem b223_2 {d : Nat} {Q : dR → dS → Prop} {x1 x2 x3 s0 : Int} {σ : dS} (h : wI (d + 1) 158 [.inr (.inr 153), .inl s0, .inl 1] σ Q (fun v1 σ1 => ((v1 = 0) → B223_3 d Q σ1) ∧ (¬ (v1 = 0) → wI (d + 1) 218 [.inr (.inr 153), .inl x3, .inl 2] σ1 Q (fun v2 σ2 => ((v2 ≠ 0) → B223_4 d Q x1 x2 x3 σ2) ∧ (¬ (v2 ≠ 0) → B223_3 d Q σ2))))) : B223_2 d Q x1 x2 x3 s0 σ := ut (m := M223) rfl h
theorem b223_3 {d : Nat} {Q : dR → dS → Prop} {σ : dS} (h : Q (.inl (some (.inl 0))) σ) : B223_3 d Q σ := ut (m := M223) rfl h
theorem b223_4 {d : Nat} {Q : dR → dS → Prop} {x1 x2 x3 : Int} {σ : dS} (h : wV (d + 1) 205 [.inr (.inr 153)] σ Q (fun σ1 => ((x3 ≠ 0) → B223_5 d Q x1 x2 x3 σ1) ∧ (¬ (x3 ≠ 0) → (0 ≤ (wr ((wr (8 * x1)) + x2))) ∧ ((wr ((wr (8 * x1)) + x2)) < 40) ∧ (B223_8 d Q (σ1 157 (wr ((wr (8 * x1)) + x2))) σ1)))) : B223_4 d Q x1 x2 x3 σ := ut (m := M223) rfl h
theorem b223_5 {d : Nat} {Q : dR → dS → Prop} {x1 x2 x3 : Int} {σ : dS} (h : wI (d + 1) 202 [.inr (.inr 153), .inl x1] σ Q (fun v1 σ1 => ((v1 = 0) → B223_6 d Q x1 x2 x3 σ1) ∧ (¬ (v1 = 0) → B223_8 d Q (-1) σ1))) : B223_5 d Q x1 x2 x3 σ := ut (m := M223) rfl h
theorem b223_6 {d : Nat} {Q : dR → dS → Prop} {x1 x2 x3 : Int} {σ : dS} (h : ((x3 ≠ (1 : Int)) → B223_7 d Q x1 x2 σ) ∧ (¬ (x3 ≠ (1 : Int)) → (0 ≤ (wr ((wr (8 * x1)) + x2))) ∧ ((wr ((wr (8 * x1)) + x2)) < 40) ∧ (B223_8 d Q (σ 180 (wr ((wr (8 * x1)) + x2))) σ))) : B223_6 d Q x1 x2 x3 σ := ut (m := M223) rfl h
theorem b223_7 {d : Nat} {Q : dR → dS → Prop} {x1 x2 : Int} {σ : dS} (h : (0 ≤ (wr ((wr (8 * x1)) + x2))) ∧ ((wr ((wr (8 * x1)) + x2)) < 40) ∧ (B223_8 d Q (σ 181 (wr ((wr (8 * x1)) + x2))) σ)) : B223_7 d Q x1 x2 σ := ut (m := M223) rfl h
theorem b223_8 {d : Nat} {Q : dR → dS → Prop} {s0 : Int} {σ : dS} (h : Q (.inl (some (.inl s0))) σ) : B223_8 d Q s0 σ := ut (m := M223) rfl h
theorem c223 {d : Nat} {Q : dR → dS → Prop} {K : Int → dS → Prop} {x1 x2 x3 : Int} {σ : dS} (h : B223_0 d (fun res σ1 => match res with | .inl (some (.inl v)) => K v σ1 | .inl _ => False | .inr e => Q (.inr e) σ1) x1 x2 x3 σ) : wI (d + 2) 223 [.inr (.inr 153), .inl x1, .inl x2, .inl x3] σ Q K := ut0 rfl (Nat.le_of_ble_eq_true rfl) h
/-- WingTramsModel.rider(II)I, 224 -/
def M224 (lb : Nat) : List Bool := [[true, true, true], [false, false, false], [false, false, false]].getD lb []
def B224_0 (d : Nat) (Q : dR → dS → Prop) (x1 x2 : Int) (σ : dS) : Prop := UT d 224 Q 0 (0, 0) [some (.inr (.inr 153)), some (.inl x1), some (.inl x2)] [] σ
def B224_1 (d : Nat) (Q : dR → dS → Prop) (σ : dS) : Prop := UT d 224 Q 1 (0, 0) [none, none, none] [] σ
def B224_2 (d : Nat) (Q : dR → dS → Prop) (s0 : Int) (σ : dS) : Prop := UT d 224 Q 2 (0, 0) [none, none, none] [.inl s0] σ
theorem b224_0 {d : Nat} {Q : dR → dS → Prop} {x1 x2 : Int} {σ : dS} (h : ∀ σ1 : dS, σ1 = up σ 153 0 0 → (wI (d + 1) 217 [.inr (.inr 153), .inl x1] σ1 Q (fun v2 σ2 => ((v2 = 0) → B224_1 d Q σ2) ∧ (¬ (v2 = 0) → wI (d + 1) 218 [.inr (.inr 153), .inl x2, .inl 3] σ2 Q (fun v3 σ3 => ((v3 = 0) → B224_1 d Q σ3) ∧ (¬ (v3 = 0) → (0 ≤ (wr ((wr (4 * x1)) + x2))) ∧ ((wr ((wr (4 * x1)) + x2)) < 32) ∧ (B224_2 d Q (σ3 158 (wr ((wr (4 * x1)) + x2))) σ3))))))) : B224_0 d Q x1 x2 σ := ut (m := M224) rfl h
theorem b224_1 {d : Nat} {Q : dR → dS → Prop} {σ : dS} (h : B224_2 d Q 0 σ) : B224_1 d Q σ := ut (m := M224) rfl h
theorem b224_2 {d : Nat} {Q : dR → dS → Prop} {s0 : Int} {σ : dS} (h : Q (.inl (some (.inl s0))) σ) : B224_2 d Q s0 σ := ut (m := M224) rfl h
theorem c224 {d : Nat} {Q : dR → dS → Prop} {K : Int → dS → Prop} {x1 x2 : Int} {σ : dS} (h : B224_0 d (fun res σ1 => match res with | .inl (some (.inl v)) => K v σ1 | .inl _ => False | .inr e => Q (.inr e) σ1) x1 x2 σ) : wI (d + 2) 224 [.inr (.inr 153), .inl x1, .inl x2] σ Q K := ut0 rfl (Nat.le_of_ble_eq_true rfl) h
/-- WingTramsModel.where(II)I, 225 -/
def M225 (lb : Nat) : List Bool := [[true, true, true], [true, true, true]].getD lb []
def B225_0 (d : Nat) (Q : dR → dS → Prop) (x1 x2 : Int) (σ : dS) : Prop := UT d 225 Q 0 (0, 0) [some (.inr (.inr 153)), some (.inl x1), some (.inl x2)] [] σ
def B225_1 (d : Nat) (Q : dR → dS → Prop) (x1 x2 : Int) (σ : dS) : Prop := UT d 225 Q 1 (0, 0) [some (.inr (.inr 153)), some (.inl x1), some (.inl x2)] [] σ
theorem b225_0 {d : Nat} {Q : dR → dS → Prop} {x1 x2 : Int} {σ : dS} (h : ∀ σ1 : dS, σ1 = up σ 153 0 0 → (wI (d + 1) 216 [.inr (.inr 153), .inl x1] σ1 Q (fun v2 σ2 => ((v2 ≠ 0) → B225_1 d Q x1 x2 σ2) ∧ (¬ (v2 ≠ 0) → Q (.inl (some (.inl 0))) σ2)))) : B225_0 d Q x1 x2 σ := ut (m := M225) rfl h
theorem b225_1 {d : Nat} {Q : dR → dS → Prop} {x1 x2 : Int} {σ : dS} (h : wV (d + 1) 205 [.inr (.inr 153)] σ Q (fun σ1 => wI (d + 1) 206 [.inr (.inr 153), .inl x1, .inl x2] σ1 Q (fun v2 σ2 => Q (.inl (some (.inl v2))) σ2))) : B225_1 d Q x1 x2 σ := ut (m := M225) rfl h
theorem c225 {d : Nat} {Q : dR → dS → Prop} {K : Int → dS → Prop} {x1 x2 : Int} {σ : dS} (h : B225_0 d (fun res σ1 => match res with | .inl (some (.inl v)) => K v σ1 | .inl _ => False | .inr e => Q (.inr e) σ1) x1 x2 σ) : wI (d + 2) 225 [.inr (.inr 153), .inl x1, .inl x2] σ Q K := ut0 rfl (Nat.le_of_ble_eq_true rfl) h
/-- WingTramsModel.obey(I)Z, 226 -/
def M226 (lb : Nat) : List Bool := [[true, true], [true, false], [false, false], [false, false], [true, true]].getD lb []
def B226_0 (d : Nat) (Q : dR → dS → Prop) (x1 : Int) (σ : dS) : Prop := UT d 226 Q 0 (0, 0) [some (.inr (.inr 153)), some (.inl x1)] [] σ
def B226_1 (d : Nat) (Q : dR → dS → Prop) (σ : dS) : Prop := UT d 226 Q 1 (0, 0) [some (.inr (.inr 153)), none] [] σ
def B226_2 (d : Nat) (Q : dR → dS → Prop) (σ : dS) : Prop := UT d 226 Q 2 (0, 0) [none, none] [] σ
def B226_3 (d : Nat) (Q : dR → dS → Prop) (s0 : Int) (σ : dS) : Prop := UT d 226 Q 3 (0, 0) [none, none] [.inl s0] σ
def B226_4 (d : Nat) (Q : dR → dS → Prop) (x1 : Int) (σ : dS) : Prop := UT d 226 Q 4 (0, 0) [some (.inr (.inr 153)), some (.inl x1)] [] σ
theorem b226_0 {d : Nat} {Q : dR → dS → Prop} {x1 : Int} {σ : dS} (h : ∀ σ1 : dS, σ1 = up σ 153 0 0 → (((x1 < (-1 : Int)) → B226_1 d Q σ1) ∧ (¬ (x1 < (-1 : Int)) → ((x1 < (σ1 153 5)) → B226_4 d Q x1 σ1) ∧ (¬ (x1 < (σ1 153 5)) → B226_1 d Q σ1)))) : B226_0 d Q x1 σ := ut (m := M226) rfl h
theorem b226_1 {d : Nat} {Q : dR → dS → Prop} {σ : dS} (h : wI (d + 1) 196 [.inr (.inr 153), .inl 1] σ Q (fun v1 σ1 => ((v1 ≤ 0) → B226_2 d Q σ1) ∧ (¬ (v1 ≤ 0) → B226_3 d Q 1 σ1))) : B226_1 d Q σ := ut (m := M226) rfl h
theorem b226_2 {d : Nat} {Q : dR → dS → Prop} {σ : dS} (h : B226_3 d Q 0 σ) : B226_2 d Q σ := ut (m := M226) rfl h
theorem b226_3 {d : Nat} {Q : dR → dS → Prop} {s0 : Int} {σ : dS} (h : (s0 = 0 ∨ s0 = 1) ∧ Q (.inl (some (.inl s0))) σ) : B226_3 d Q s0 σ := ut (m := M226) rfl h
theorem b226_4 {d : Nat} {Q : dR → dS → Prop} {x1 : Int} {σ : dS} (h : wI (d + 1) 197 [.inr (.inr 153), .inl 0, .inl x1] σ Q (fun v1 σ1 => ((1 : Int) = 0 ∨ (1 : Int) = 1) ∧ Q (.inl (some (.inl 1))) σ1)) : B226_4 d Q x1 σ := ut (m := M226) rfl h
theorem c226 {d : Nat} {Q : dR → dS → Prop} {K : Int → dS → Prop} {x1 : Int} {σ : dS} (h : B226_0 d (fun res σ1 => match res with | .inl (some (.inl v)) => K v σ1 | .inl _ => False | .inr e => Q (.inr e) σ1) x1 σ) : wI (d + 2) 226 [.inr (.inr 153), .inl x1] σ Q K := ut0 rfl (Nat.le_of_ble_eq_true rfl) h
/-- WingTramsModel.moon(I)I, 227 -/
def M227 (lb : Nat) : List Bool := [[true, true], [true, false], [false, false]].getD lb []
def B227_0 (d : Nat) (Q : dR → dS → Prop) (x1 : Int) (σ : dS) : Prop := UT d 227 Q 0 (0, 0) [some (.inr (.inr 153)), some (.inl x1)] [] σ
def B227_1 (d : Nat) (Q : dR → dS → Prop) (σ : dS) : Prop := UT d 227 Q 1 (0, 0) [some (.inr (.inr 153)), none] [] σ
def B227_2 (d : Nat) (Q : dR → dS → Prop) (s0 : Int) (σ : dS) : Prop := UT d 227 Q 2 (0, 0) [none, none] [.inl s0] σ
theorem b227_0 {d : Nat} {Q : dR → dS → Prop} {x1 : Int} {σ : dS} (h : ∀ σ1 : dS, σ1 = up σ 153 0 0 → (wI (d + 1) 159 [.inl x1, .inl 0, .inl 7] σ1 Q (fun v2 σ2 => ((v2 = 0) → B227_1 d Q σ2) ∧ (¬ (v2 = 0) → wI (d + 1) 197 [.inr (.inr 153), .inl 1, .inl x1] σ2 Q (fun v3 σ3 => B227_2 d Q v3 σ3))))) : B227_0 d Q x1 σ := ut (m := M227) rfl h
theorem b227_1 {d : Nat} {Q : dR → dS → Prop} {σ : dS} (h : wI (d + 1) 196 [.inr (.inr 153), .inl 1] σ Q (fun v1 σ1 => B227_2 d Q v1 σ1)) : B227_1 d Q σ := ut (m := M227) rfl h
theorem b227_2 {d : Nat} {Q : dR → dS → Prop} {s0 : Int} {σ : dS} (h : Q (.inl (some (.inl s0))) σ) : B227_2 d Q s0 σ := ut (m := M227) rfl h
theorem c227 {d : Nat} {Q : dR → dS → Prop} {K : Int → dS → Prop} {x1 : Int} {σ : dS} (h : B227_0 d (fun res σ1 => match res with | .inl (some (.inl v)) => K v σ1 | .inl _ => False | .inr e => Q (.inr e) σ1) x1 σ) : wI (d + 2) 227 [.inr (.inr 153), .inl x1] σ Q K := ut0 rfl (Nat.le_of_ble_eq_true rfl) h
/-- WingTramsModel.wet(Z)Z, 228 -/
def M228 (lb : Nat) : List Bool := [[true, true], [false, false], [false, false], [false, false], [false, false]].getD lb []
def B228_0 (d : Nat) (Q : dR → dS → Prop) (x1 : Int) (σ : dS) : Prop := UT d 228 Q 0 (0, 0) [some (.inr (.inr 153)), some (.inl x1)] [] σ
def B228_1 (d : Nat) (Q : dR → dS → Prop) (s0 : Int) (σ : dS) : Prop := UT d 228 Q 1 (0, 0) [none, none] [.inl s0, .inr (.inr 153)] σ
def B228_2 (d : Nat) (Q : dR → dS → Prop) (s0 s1 : Int) (σ : dS) : Prop := UT d 228 Q 2 (0, 0) [none, none] [.inl s0, .inl s1, .inr (.inr 153)] σ
def B228_3 (d : Nat) (Q : dR → dS → Prop) (σ : dS) : Prop := UT d 228 Q 3 (0, 0) [none, none] [] σ
def B228_4 (d : Nat) (Q : dR → dS → Prop) (s0 : Int) (σ : dS) : Prop := UT d 228 Q 4 (0, 0) [none, none] [.inl s0] σ
theorem b228_0 {d : Nat} {Q : dR → dS → Prop} {x1 : Int} {σ : dS} (h : ∀ σ1 : dS, σ1 = up σ 153 0 0 → (((x1 = 0) → B228_1 d Q 2 σ1) ∧ (¬ (x1 = 0) → B228_2 d Q 1 2 σ1))) : B228_0 d Q x1 σ := ut (m := M228) rfl h
theorem b228_1 {d : Nat} {Q : dR → dS → Prop} {s0 : Int} {σ : dS} (h : B228_2 d Q 0 s0 σ) : B228_1 d Q s0 σ := ut (m := M228) rfl h
theorem b228_2 {d : Nat} {Q : dR → dS → Prop} {s0 s1 : Int} {σ : dS} (h : wI (d + 1) 197 [.inr (.inr 153), .inl s1, .inl s0] σ Q (fun v1 σ1 => ((v1 ≠ (1 : Int)) → B228_3 d Q σ1) ∧ (¬ (v1 ≠ (1 : Int)) → B228_4 d Q 1 σ1))) : B228_2 d Q s0 s1 σ := ut (m := M228) rfl h
theorem b228_3 {d : Nat} {Q : dR → dS → Prop} {σ : dS} (h : B228_4 d Q 0 σ) : B228_3 d Q σ := ut (m := M228) rfl h
theorem b228_4 {d : Nat} {Q : dR → dS → Prop} {s0 : Int} {σ : dS} (h : (s0 = 0 ∨ s0 = 1) ∧ Q (.inl (some (.inl s0))) σ) : B228_4 d Q s0 σ := ut (m := M228) rfl h
theorem c228 {d : Nat} {Q : dR → dS → Prop} {K : Int → dS → Prop} {x1 : Int} {σ : dS} (h : B228_0 d (fun res σ1 => match res with | .inl (some (.inl v)) => K v σ1 | .inl _ => False | .inr e => Q (.inr e) σ1) x1 σ) : wI (d + 2) 228 [.inr (.inr 153), .inl x1] σ Q K := ut0 rfl (Nat.le_of_ble_eq_true rfl) h
/-- WingTramsModel.nest(IZ)Z, 229 -/
def M229 (lb : Nat) : List Bool := [[true, true, true], [true, true, true], [false, false, false], [false, false, false], [true, true, false]].getD lb []
def B229_0 (d : Nat) (Q : dR → dS → Prop) (x1 x2 : Int) (σ : dS) : Prop := UT d 229 Q 0 (0, 0) [some (.inr (.inr 153)), some (.inl x1), some (.inl x2)] [] σ
def B229_1 (d : Nat) (Q : dR → dS → Prop) (x1 x2 : Int) (σ : dS) : Prop := UT d 229 Q 1 (0, 0) [some (.inr (.inr 153)), some (.inl x1), some (.inl x2)] [] σ
def B229_2 (d : Nat) (Q : dR → dS → Prop) (σ : dS) : Prop := UT d 229 Q 2 (0, 0) [none, none, none] [] σ
def B229_3 (d : Nat) (Q : dR → dS → Prop) (s0 : Int) (σ : dS) : Prop := UT d 229 Q 3 (0, 0) [none, none, none] [.inl s0] σ
def B229_4 (d : Nat) (Q : dR → dS → Prop) (x1 : Int) (σ : dS) : Prop := UT d 229 Q 4 (0, 0) [some (.inr (.inr 153)), some (.inl x1), none] [] σ
theorem b229_0 {d : Nat} {Q : dR → dS → Prop} {x1 x2 : Int} {σ : dS} (h : ∀ σ1 : dS, σ1 = up σ 153 0 0 → (wI (d + 1) 216 [.inr (.inr 153), .inl x1] σ1 Q (fun v2 σ2 => ((v2 ≠ 0) → B229_1 d Q x1 x2 σ2) ∧ (¬ (v2 ≠ 0) → ((0 : Int) = 0 ∨ (0 : Int) = 1) ∧ Q (.inl (some (.inl 0))) σ2)))) : B229_0 d Q x1 x2 σ := ut (m := M229) rfl h
theorem b229_1 {d : Nat} {Q : dR → dS → Prop} {x1 x2 : Int} {σ : dS} (h : wI (d + 1) 202 [.inr (.inr 153), .inl x1] σ Q (fun v1 σ1 => ((v1 ≠ x2) → B229_4 d Q x1 σ1) ∧ (¬ (v1 ≠ x2) → wI (d + 1) 196 [.inr (.inr 153), .inl 1] σ1 Q (fun v2 σ2 => ((v2 ≤ 0) → B229_2 d Q σ2) ∧ (¬ (v2 ≤ 0) → B229_3 d Q 1 σ2))))) : B229_1 d Q x1 x2 σ := ut (m := M229) rfl h
theorem b229_2 {d : Nat} {Q : dR → dS → Prop} {σ : dS} (h : B229_3 d Q 0 σ) : B229_2 d Q σ := ut (m := M229) rfl h
theorem b229_3 {d : Nat} {Q : dR → dS → Prop} {s0 : Int} {σ : dS} (h : (s0 = 0 ∨ s0 = 1) ∧ Q (.inl (some (.inl s0))) σ) : B229_3 d Q s0 σ := ut (m := M229) rfl h
theorem b229_4 {d : Nat} {Q : dR → dS → Prop} {x1 : Int} {σ : dS} (h : (0 ≤ (3 : Int)) ∧ ((3 : Int) < 19) ∧ (wI (d + 1) 197 [.inr (.inr 153), .inl 3, .inl (ixr (σ 174 3) (shl 1 x1))] σ Q (fun v1 σ1 => ((1 : Int) = 0 ∨ (1 : Int) = 1) ∧ Q (.inl (some (.inl 1))) σ1))) : B229_4 d Q x1 σ := ut (m := M229) rfl h
theorem c229 {d : Nat} {Q : dR → dS → Prop} {K : Int → dS → Prop} {x1 x2 : Int} {σ : dS} (h : B229_0 d (fun res σ1 => match res with | .inl (some (.inl v)) => K v σ1 | .inl _ => False | .inr e => Q (.inr e) σ1) x1 x2 σ) : wI (d + 2) 229 [.inr (.inr 153), .inl x1, .inl x2] σ Q K := ut0 rfl (Nat.le_of_ble_eq_true rfl) h
/-- WingTramsModel.grain(II)I, 230 -/
def M230 (lb : Nat) : List Bool := [[true, true, true], [true, true, true], [true, false, false], [false, false, false]].getD lb []
def B230_0 (d : Nat) (Q : dR → dS → Prop) (x1 x2 : Int) (σ : dS) : Prop := UT d 230 Q 0 (0, 0) [some (.inr (.inr 153)), some (.inl x1), some (.inl x2)] [] σ
def B230_1 (d : Nat) (Q : dR → dS → Prop) (x1 x2 : Int) (σ : dS) : Prop := UT d 230 Q 1 (0, 0) [some (.inr (.inr 153)), some (.inl x1), some (.inl x2)] [] σ
def B230_2 (d : Nat) (Q : dR → dS → Prop) (σ : dS) : Prop := UT d 230 Q 2 (0, 0) [some (.inr (.inr 153)), none, none] [] σ
def B230_3 (d : Nat) (Q : dR → dS → Prop) (s0 : Int) (σ : dS) : Prop := UT d 230 Q 3 (0, 0) [none, none, none] [.inl s0] σ
theorem b230_0 {d : Nat} {Q : dR → dS → Prop} {x1 x2 : Int} {σ : dS} (h : ∀ σ1 : dS, σ1 = up σ 153 0 0 → (wI (d + 1) 215 [.inr (.inr 153), .inl x1] σ1 Q (fun v2 σ2 => ((v2 ≠ 0) → B230_1 d Q x1 x2 σ2) ∧ (¬ (v2 ≠ 0) → Q (.inl (some (.inl 0))) σ2)))) : B230_0 d Q x1 x2 σ := ut (m := M230) rfl h
theorem b230_1 {d : Nat} {Q : dR → dS → Prop} {x1 x2 : Int} {σ : dS} (h : wI (d + 1) 159 [.inl x2, .inl 0, .inl 9] σ Q (fun v1 σ1 => ((v1 = 0) → B230_2 d Q σ1) ∧ (¬ (v1 = 0) → wI (d + 1) 197 [.inr (.inr 153), .inl (wr (4 + x1)), .inl x2] σ1 Q (fun v2 σ2 => B230_3 d Q v2 σ2)))) : B230_1 d Q x1 x2 σ := ut (m := M230) rfl h
theorem b230_2 {d : Nat} {Q : dR → dS → Prop} {σ : dS} (h : wI (d + 1) 196 [.inr (.inr 153), .inl 1] σ Q (fun v1 σ1 => B230_3 d Q v1 σ1)) : B230_2 d Q σ := ut (m := M230) rfl h
theorem b230_3 {d : Nat} {Q : dR → dS → Prop} {s0 : Int} {σ : dS} (h : Q (.inl (some (.inl s0))) σ) : B230_3 d Q s0 σ := ut (m := M230) rfl h
theorem c230 {d : Nat} {Q : dR → dS → Prop} {K : Int → dS → Prop} {x1 x2 : Int} {σ : dS} (h : B230_0 d (fun res σ1 => match res with | .inl (some (.inl v)) => K v σ1 | .inl _ => False | .inr e => Q (.inr e) σ1) x1 x2 σ) : wI (d + 2) 230 [.inr (.inr 153), .inl x1, .inl x2] σ Q K := ut0 rfl (Nat.le_of_ble_eq_true rfl) h
/-- WingTramsModel.start(II)I, 231 -/
def M231 (lb : Nat) : List Bool := [[true, true, true], [true, true, true], [true, false, false], [false, false, false]].getD lb []
def B231_0 (d : Nat) (Q : dR → dS → Prop) (x1 x2 : Int) (σ : dS) : Prop := UT d 231 Q 0 (0, 0) [some (.inr (.inr 153)), some (.inl x1), some (.inl x2)] [] σ
def B231_1 (d : Nat) (Q : dR → dS → Prop) (x1 x2 : Int) (σ : dS) : Prop := UT d 231 Q 1 (0, 0) [some (.inr (.inr 153)), some (.inl x1), some (.inl x2)] [] σ
def B231_2 (d : Nat) (Q : dR → dS → Prop) (σ : dS) : Prop := UT d 231 Q 2 (0, 0) [some (.inr (.inr 153)), none, none] [] σ
def B231_3 (d : Nat) (Q : dR → dS → Prop) (s0 : Int) (σ : dS) : Prop := UT d 231 Q 3 (0, 0) [none, none, none] [.inl s0] σ
theorem b231_0 {d : Nat} {Q : dR → dS → Prop} {x1 x2 : Int} {σ : dS} (h : ∀ σ1 : dS, σ1 = up σ 153 0 0 → (wI (d + 1) 216 [.inr (.inr 153), .inl x1] σ1 Q (fun v2 σ2 => ((v2 ≠ 0) → B231_1 d Q x1 x2 σ2) ∧ (¬ (v2 ≠ 0) → Q (.inl (some (.inl 0))) σ2)))) : B231_0 d Q x1 x2 σ := ut (m := M231) rfl h
theorem b231_1 {d : Nat} {Q : dR → dS → Prop} {x1 x2 : Int} {σ : dS} (h : wI (d + 1) 159 [.inl x2, .inl 0, .inl 300] σ Q (fun v1 σ1 => ((v1 = 0) → B231_2 d Q σ1) ∧ (¬ (v1 = 0) → wI (d + 1) 197 [.inr (.inr 153), .inl (wr (14 + x1)), .inl x2] σ1 Q (fun v2 σ2 => B231_3 d Q v2 σ2)))) : B231_1 d Q x1 x2 σ := ut (m := M231) rfl h
theorem b231_2 {d : Nat} {Q : dR → dS → Prop} {σ : dS} (h : wI (d + 1) 196 [.inr (.inr 153), .inl 1] σ Q (fun v1 σ1 => B231_3 d Q v1 σ1)) : B231_2 d Q σ := ut (m := M231) rfl h
theorem b231_3 {d : Nat} {Q : dR → dS → Prop} {s0 : Int} {σ : dS} (h : Q (.inl (some (.inl s0))) σ) : B231_3 d Q s0 σ := ut (m := M231) rfl h
theorem c231 {d : Nat} {Q : dR → dS → Prop} {K : Int → dS → Prop} {x1 x2 : Int} {σ : dS} (h : B231_0 d (fun res σ1 => match res with | .inl (some (.inl v)) => K v σ1 | .inl _ => False | .inr e => Q (.inr e) σ1) x1 x2 σ) : wI (d + 2) 231 [.inr (.inr 153), .inl x1, .inl x2] σ Q K := ut0 rfl (Nat.le_of_ble_eq_true rfl) h
/-- WingTramsModel.shown(I)I, 232 -/
def M232 (lb : Nat) : List Bool := [[true], [true], [false]].getD lb []
def B232_0 (d : Nat) (Q : dR → dS → Prop) (x0 : Int) (σ : dS) : Prop := UT d 232 Q 0 (0, 0) [some (.inl x0)] [] σ
def B232_1 (d : Nat) (Q : dR → dS → Prop) (x0 : Int) (σ : dS) : Prop := UT d 232 Q 1 (0, 0) [some (.inl x0)] [] σ
def B232_2 (d : Nat) (Q : dR → dS → Prop) (s0 : Int) (σ : dS) : Prop := UT d 232 Q 2 (0, 0) [none] [.inl s0] σ
theorem b232_0 {d : Nat} {Q : dR → dS → Prop} {x0 : Int} {σ : dS} (h : ((x0 < (1000000 : Int)) → B232_1 d Q x0 σ) ∧ (¬ (x0 < (1000000 : Int)) → B232_2 d Q (-1) σ)) : B232_0 d Q x0 σ := ut (m := M232) rfl h
theorem b232_1 {d : Nat} {Q : dR → dS → Prop} {x0 : Int} {σ : dS} (h : B232_2 d Q x0 σ) : B232_1 d Q x0 σ := ut (m := M232) rfl h
theorem b232_2 {d : Nat} {Q : dR → dS → Prop} {s0 : Int} {σ : dS} (h : Q (.inl (some (.inl s0))) σ) : B232_2 d Q s0 σ := ut (m := M232) rfl h
theorem c232 {d : Nat} {Q : dR → dS → Prop} {K : Int → dS → Prop} {x0 : Int} {σ : dS} (h : B232_0 d (fun res σ1 => match res with | .inl (some (.inl v)) => K v σ1 | .inl _ => False | .inr e => Q (.inr e) σ1) x0 σ) : wI (d + 2) 232 [.inl x0] σ Q K := ut0 rfl (Nat.le_of_ble_eq_true rfl) h
/-- WingTramsModel.home(I)I, 233 -/
def M233 (lb : Nat) : List Bool := [[true, true], [true, true]].getD lb []
def B233_0 (d : Nat) (Q : dR → dS → Prop) (x1 : Int) (σ : dS) : Prop := UT d 233 Q 0 (0, 0) [some (.inr (.inr 153)), some (.inl x1)] [] σ
def B233_1 (d : Nat) (Q : dR → dS → Prop) (x1 : Int) (σ : dS) : Prop := UT d 233 Q 1 (0, 0) [some (.inr (.inr 153)), some (.inl x1)] [] σ
theorem b233_0 {d : Nat} {Q : dR → dS → Prop} {x1 : Int} {σ : dS} (h : ∀ σ1 : dS, σ1 = up σ 153 0 0 → (wI (d + 1) 217 [.inr (.inr 153), .inl x1] σ1 Q (fun v2 σ2 => ((v2 ≠ 0) → B233_1 d Q x1 σ2) ∧ (¬ (v2 ≠ 0) → Q (.inl (some (.inl 0))) σ2)))) : B233_0 d Q x1 σ := ut (m := M233) rfl h
theorem b233_1 {d : Nat} {Q : dR → dS → Prop} {x1 : Int} {σ : dS} (h : wV (d + 1) 205 [.inr (.inr 153)] σ Q (fun σ1 => wI (d + 1) 211 [.inr (.inr 153), .inl x1] σ1 Q (fun v2 σ2 => wI (d + 1) 232 [.inl v2] σ2 Q (fun v3 σ3 => Q (.inl (some (.inl v3))) σ3)))) : B233_1 d Q x1 σ := ut (m := M233) rfl h
theorem c233 {d : Nat} {Q : dR → dS → Prop} {K : Int → dS → Prop} {x1 : Int} {σ : dS} (h : B233_0 d (fun res σ1 => match res with | .inl (some (.inl v)) => K v σ1 | .inl _ => False | .inr e => Q (.inr e) σ1) x1 σ) : wI (d + 2) 233 [.inr (.inr 153), .inl x1] σ Q K := ut0 rfl (Nat.le_of_ble_eq_true rfl) h
/-- WingTramsModel.owlsFor(I)I, 234 -/
def M234 (lb : Nat) : List Bool := [[true, true, false, false], [true, true, true, false], [true, true, true, false], [true, true, true, true], [true, true, true, false], [false, false, false, false]].getD lb []
def B234_0 (d : Nat) (Q : dR → dS → Prop) (x1 : Int) (σ : dS) : Prop := UT d 234 Q 0 (0, 0) [some (.inr (.inr 153)), some (.inl x1), none, none] [] σ
def B234_1 (d : Nat) (Q : dR → dS → Prop) (x1 x2 : Int) (σ : dS) : Prop := UT d 234 Q 1 (0, 0) [some (.inr (.inr 153)), some (.inl x1), some (.inl x2), none] [] σ
def B234_2 (d : Nat) (Q : dR → dS → Prop) (x1 x2 : Int) (σ : dS) : Prop := UT d 234 Q 2 (0, 0) [some (.inr (.inr 153)), some (.inl x1), some (.inl x2), none] [] σ
def B234_3 (d : Nat) (Q : dR → dS → Prop) (x1 x2 x3 : Int) (σ : dS) : Prop := UT d 234 Q 3 (0, 0) [some (.inr (.inr 153)), some (.inl x1), some (.inl x2), some (.inl x3)] [] σ
def B234_4 (d : Nat) (Q : dR → dS → Prop) (x1 x2 : Int) (σ : dS) : Prop := UT d 234 Q 4 (0, 0) [some (.inr (.inr 153)), some (.inl x1), some (.inl x2), none] [] σ
def B234_5 (d : Nat) (Q : dR → dS → Prop) (σ : dS) : Prop := UT d 234 Q 5 (0, 0) [none, none, none, none] [] σ
theorem b234_0 {d : Nat} {Q : dR → dS → Prop} {x1 : Int} {σ : dS} (h : wV (d + 1) 207 [.inr (.inr 153), .inl x1, .inr (.inr 186)] σ Q (fun σ1 => B234_1 d Q x1 0 σ1)) : B234_0 d Q x1 σ := ut (m := M234) rfl h
theorem b234_1 {d : Nat} {Q : dR → dS → Prop} {x1 x2 : Int} {σ : dS} (h : (((10 : Int) < x2) → B234_5 d Q σ) ∧ (¬ ((10 : Int) < x2) → wI (d + 1) 210 [.inr (.inr 153), .inl x1] σ Q (fun v1 σ1 => (0 ≤ v1) ∧ (v1 < 10) ∧ ((((σ1 153 6) < (σ1 186 v1)) → B234_2 d Q x1 x2 σ1) ∧ (¬ ((σ1 153 6) < (σ1 186 v1)) → Q (.inl (some (.inl x2))) σ1))))) : B234_1 d Q x1 x2 σ := ut (m := M234) rfl h
theorem b234_2 {d : Nat} {Q : dR → dS → Prop} {x1 x2 : Int} {σ : dS} (h : wV (d + 1) 161 [.inr (.inr 153), .inr (.inr 186), .inr (.inr 187)] σ Q (fun σ1 => B234_3 d Q x1 x2 0 σ1)) : B234_2 d Q x1 x2 σ := ut (m := M234) rfl h
theorem b234_3 {d : Nat} {Q : dR → dS → Prop} {x1 x2 x3 : Int} {σ : dS} (h : (((σ 153 3) ≤ x3) → B234_4 d Q x1 x2 σ) ∧ (¬ ((σ 153 3) ≤ x3) → wI (d + 1) 208 [.inr (.inr 153), .inl x3, .inr (.inr 187), .inl 0, .inr (.inr 186), .inl 0] σ Q (fun v1 σ1 => B234_3 d Q x1 x2 (wr (x3 + 1)) σ1))) : B234_3 d Q x1 x2 x3 σ := ut (m := M234) rfl h
theorem b234_4 {d : Nat} {Q : dR → dS → Prop} {x1 x2 : Int} {σ : dS} (h : B234_1 d Q x1 (wr (x2 + 1)) σ) : B234_4 d Q x1 x2 σ := ut (m := M234) rfl h
theorem b234_5 {d : Nat} {Q : dR → dS → Prop} {σ : dS} (h : Q (.inl (some (.inl (-1)))) σ) : B234_5 d Q σ := ut (m := M234) rfl h
theorem c234 {d : Nat} {Q : dR → dS → Prop} {K : Int → dS → Prop} {x1 : Int} {σ : dS} (h : B234_0 d (fun res σ1 => match res with | .inl (some (.inl v)) => K v σ1 | .inl _ => False | .inr e => Q (.inr e) σ1) x1 σ) : wI (d + 2) 234 [.inr (.inr 153), .inl x1] σ Q K := ut0 rfl (Nat.le_of_ble_eq_true rfl) h
/-- WingTramsModel.changes(I)I, 235 -/
def M235 (lb : Nat) : List Bool := [[true, true, false], [true, true, false], [false, false, true], [false, false, false]].getD lb []
def B235_0 (d : Nat) (Q : dR → dS → Prop) (x1 : Int) (σ : dS) : Prop := UT d 235 Q 0 (0, 0) [some (.inr (.inr 153)), some (.inl x1), none] [] σ
def B235_1 (d : Nat) (Q : dR → dS → Prop) (x1 : Int) (σ : dS) : Prop := UT d 235 Q 1 (0, 0) [some (.inr (.inr 153)), some (.inl x1), none] [] σ
def B235_2 (d : Nat) (Q : dR → dS → Prop) (x2 : Int) (σ : dS) : Prop := UT d 235 Q 2 (0, 0) [none, none, some (.inl x2)] [] σ
def B235_3 (d : Nat) (Q : dR → dS → Prop) (s0 : Int) (σ : dS) : Prop := UT d 235 Q 3 (0, 0) [none, none, none] [.inl s0] σ
theorem b235_0 {d : Nat} {Q : dR → dS → Prop} {x1 : Int} {σ : dS} (h : ∀ σ1 : dS, σ1 = up σ 153 0 0 → (wI (d + 1) 217 [.inr (.inr 153), .inl x1] σ1 Q (fun v2 σ2 => ((v2 ≠ 0) → B235_1 d Q x1 σ2) ∧ (¬ (v2 ≠ 0) → Q (.inl (some (.inl 0))) σ2)))) : B235_0 d Q x1 σ := ut (m := M235) rfl h
theorem b235_1 {d : Nat} {Q : dR → dS → Prop} {x1 : Int} {σ : dS} (h : wV (d + 1) 205 [.inr (.inr 153)] σ Q (fun σ1 => wI (d + 1) 234 [.inr (.inr 153), .inl x1] σ1 Q (fun v2 σ2 => ((v2 ≤ 0) → B235_2 d Q v2 σ2) ∧ (¬ (v2 ≤ 0) → B235_3 d Q (wr (v2 - 1)) σ2)))) : B235_1 d Q x1 σ := ut (m := M235) rfl h
theorem b235_2 {d : Nat} {Q : dR → dS → Prop} {x2 : Int} {σ : dS} (h : B235_3 d Q x2 σ) : B235_2 d Q x2 σ := ut (m := M235) rfl h
theorem b235_3 {d : Nat} {Q : dR → dS → Prop} {s0 : Int} {σ : dS} (h : Q (.inl (some (.inl s0))) σ) : B235_3 d Q s0 σ := ut (m := M235) rfl h
theorem c235 {d : Nat} {Q : dR → dS → Prop} {K : Int → dS → Prop} {x1 : Int} {σ : dS} (h : B235_0 d (fun res σ1 => match res with | .inl (some (.inl v)) => K v σ1 | .inl _ => False | .inr e => Q (.inr e) σ1) x1 σ) : wI (d + 2) 235 [.inr (.inr 153), .inl x1] σ Q K := ut0 rfl (Nat.le_of_ble_eq_true rfl) h
/-- WingTramsModel.cheapest(I)I, 236 -/
def M236 (lb : Nat) : List Bool := [[true, true, false, false], [true, true, false, false], [true, true, true, false], [true, true, false, false], [true, true, true, false], [true, true, true, false], [true, true, true, false], [true, true, true, true], [true, true, true, false], [true, true, true, true], [true, true, true, true], [true, true, true, false], [false, false, false, false]].getD lb []
def B236_0 (d : Nat) (Q : dR → dS → Prop) (x1 : Int) (σ : dS) : Prop := UT d 236 Q 0 (0, 0) [some (.inr (.inr 153)), some (.inl x1), none, none] [] σ
def B236_1 (d : Nat) (Q : dR → dS → Prop) (x1 : Int) (σ : dS) : Prop := UT d 236 Q 1 (0, 0) [some (.inr (.inr 153)), some (.inl x1), none, none] [] σ
def B236_2 (d : Nat) (Q : dR → dS → Prop) (x1 x2 : Int) (σ : dS) : Prop := UT d 236 Q 2 (0, 0) [some (.inr (.inr 153)), some (.inl x1), some (.inl x2), none] [] σ
def B236_3 (d : Nat) (Q : dR → dS → Prop) (x1 : Int) (σ : dS) : Prop := UT d 236 Q 3 (0, 0) [some (.inr (.inr 153)), some (.inl x1), none, none] [] σ
def B236_4 (d : Nat) (Q : dR → dS → Prop) (x1 x2 : Int) (σ : dS) : Prop := UT d 236 Q 4 (0, 0) [some (.inr (.inr 153)), some (.inl x1), some (.inl x2), none] [] σ
def B236_5 (d : Nat) (Q : dR → dS → Prop) (x1 x2 : Int) (σ : dS) : Prop := UT d 236 Q 5 (0, 0) [some (.inr (.inr 153)), some (.inl x1), some (.inl x2), none] [] σ
def B236_6 (d : Nat) (Q : dR → dS → Prop) (x1 x2 : Int) (σ : dS) : Prop := UT d 236 Q 6 (0, 0) [some (.inr (.inr 153)), some (.inl x1), some (.inl x2), none] [] σ
def B236_7 (d : Nat) (Q : dR → dS → Prop) (x1 x2 x3 : Int) (σ : dS) : Prop := UT d 236 Q 7 (0, 0) [some (.inr (.inr 153)), some (.inl x1), some (.inl x2), some (.inl x3)] [] σ
def B236_8 (d : Nat) (Q : dR → dS → Prop) (x1 x2 : Int) (σ : dS) : Prop := UT d 236 Q 8 (0, 0) [some (.inr (.inr 153)), some (.inl x1), some (.inl x2), none] [] σ
def B236_9 (d : Nat) (Q : dR → dS → Prop) (x1 x2 x3 : Int) (σ : dS) : Prop := UT d 236 Q 9 (0, 0) [some (.inr (.inr 153)), some (.inl x1), some (.inl x2), some (.inl x3)] [] σ
def B236_10 (d : Nat) (Q : dR → dS → Prop) (x1 x2 x3 : Int) (σ : dS) : Prop := UT d 236 Q 10 (0, 0) [some (.inr (.inr 153)), some (.inl x1), some (.inl x2), some (.inl x3)] [] σ
def B236_11 (d : Nat) (Q : dR → dS → Prop) (x1 x2 : Int) (σ : dS) : Prop := UT d 236 Q 11 (0, 0) [some (.inr (.inr 153)), some (.inl x1), some (.inl x2), none] [] σ
def B236_12 (d : Nat) (Q : dR → dS → Prop) (σ : dS) : Prop := UT d 236 Q 12 (0, 0) [none, none, none, none] [] σ
theorem b236_0 {d : Nat} {Q : dR → dS → Prop} {x1 : Int} {σ : dS} (h : ∀ σ1 : dS, σ1 = up σ 153 0 0 → (wI (d + 1) 217 [.inr (.inr 153), .inl x1] σ1 Q (fun v2 σ2 => ((v2 ≠ 0) → B236_1 d Q x1 σ2) ∧ (¬ (v2 ≠ 0) → Q (.inl (some (.inl 0))) σ2)))) : B236_0 d Q x1 σ := ut (m := M236) rfl h
theorem b236_1 {d : Nat} {Q : dR → dS → Prop} {x1 : Int} {σ : dS} (h : wV (d + 1) 205 [.inr (.inr 153)] σ Q (fun σ1 => wV (d + 1) 207 [.inr (.inr 153), .inl x1, .inr (.inr 186)] σ1 Q (fun σ2 => B236_2 d Q x1 0 σ2))) : B236_1 d Q x1 σ := ut (m := M236) rfl h
theorem b236_2 {d : Nat} {Q : dR → dS → Prop} {x1 x2 : Int} {σ : dS} (h : (((10 : Int) ≤ x2) → B236_3 d Q x1 σ) ∧ (¬ ((10 : Int) ≤ x2) → (0 ≤ x2) ∧ (x2 < 10) ∧ ((0 ≤ x2) ∧ (x2 < 400) ∧ (∀ σ1 : dS, σ1 = up σ 188 x2 (σ 186 x2) → (B236_2 d Q x1 (wr (x2 + 1)) σ1))))) : B236_2 d Q x1 x2 σ := ut (m := M236) rfl h
theorem b236_3 {d : Nat} {Q : dR → dS → Prop} {x1 : Int} {σ : dS} (h : B236_4 d Q x1 0 σ) : B236_3 d Q x1 σ := ut (m := M236) rfl h
theorem b236_4 {d : Nat} {Q : dR → dS → Prop} {x1 x2 : Int} {σ : dS} (h : (((40 : Int) ≤ x2) → B236_12 d Q σ) ∧ (¬ ((40 : Int) ≤ x2) → wI (d + 1) 210 [.inr (.inr 153), .inl x1] σ Q (fun v1 σ1 => (0 ≤ (wr ((wr (10 * x2)) + v1))) ∧ ((wr ((wr (10 * x2)) + v1)) < 400) ∧ ((((σ1 153 6) < (σ1 188 (wr ((wr (10 * x2)) + v1)))) → B236_5 d Q x1 x2 σ1) ∧ (¬ ((σ1 153 6) < (σ1 188 (wr ((wr (10 * x2)) + v1)))) → Q (.inl (some (.inl x2))) σ1))))) : B236_4 d Q x1 x2 σ := ut (m := M236) rfl h
theorem b236_5 {d : Nat} {Q : dR → dS → Prop} {x1 x2 : Int} {σ : dS} (h : ((x2 ≠ (39 : Int)) → B236_6 d Q x1 x2 σ) ∧ (¬ (x2 ≠ (39 : Int)) → Q (.inl (some (.inl (-1)))) σ)) : B236_5 d Q x1 x2 σ := ut (m := M236) rfl h
theorem b236_6 {d : Nat} {Q : dR → dS → Prop} {x1 x2 : Int} {σ : dS} (h : B236_7 d Q x1 x2 0 σ) : B236_6 d Q x1 x2 σ := ut (m := M236) rfl h
theorem b236_7 {d : Nat} {Q : dR → dS → Prop} {x1 x2 x3 : Int} {σ : dS} (h : (((10 : Int) ≤ x3) → B236_8 d Q x1 x2 σ) ∧ (¬ ((10 : Int) ≤ x3) → (0 ≤ (wr ((wr (10 * x2)) + x3))) ∧ ((wr ((wr (10 * x2)) + x3)) < 400) ∧ ((0 ≤ (wr ((wr ((wr (10 * x2)) + 10)) + x3))) ∧ ((wr ((wr ((wr (10 * x2)) + 10)) + x3)) < 400) ∧ (∀ σ1 : dS, σ1 = up σ 188 (wr ((wr ((wr (10 * x2)) + 10)) + x3)) (σ 188 (wr ((wr (10 * x2)) + x3))) → (B236_7 d Q x1 x2 (wr (x3 + 1)) σ1))))) : B236_7 d Q x1 x2 x3 σ := ut (m := M236) rfl h
theorem b236_8 {d : Nat} {Q : dR → dS → Prop} {x1 x2 : Int} {σ : dS} (h : B236_9 d Q x1 x2 0 σ) : B236_8 d Q x1 x2 σ := ut (m := M236) rfl h
theorem b236_9 {d : Nat} {Q : dR → dS → Prop} {x1 x2 x3 : Int} {σ : dS} (h : (((σ 153 3) ≤ x3) → B236_11 d Q x1 x2 σ) ∧ (¬ ((σ 153 3) ≤ x3) → (0 ≤ x3) ∧ (x3 < 5) ∧ (((x2 < (σ 155 x3)) → B236_10 d Q x1 x2 x3 σ) ∧ (¬ (x2 < (σ 155 x3)) → (0 ≤ x3) ∧ (x3 < 5) ∧ (wI (d + 1) 208 [.inr (.inr 153), .inl x3, .inr (.inr 188), .inl (wr (10 * (wr (x2 - (σ 155 x3))))), .inr (.inr 188), .inl (wr ((wr (10 * x2)) + 10))] σ Q (fun v1 σ1 => B236_10 d Q x1 x2 x3 σ1)))))) : B236_9 d Q x1 x2 x3 σ := ut (m := M236) rfl h
theorem b236_10 {d : Nat} {Q : dR → dS → Prop} {x1 x2 x3 : Int} {σ : dS} (h : B236_9 d Q x1 x2 (wr (x3 + 1)) σ) : B236_10 d Q x1 x2 x3 σ := ut (m := M236) rfl h
theorem b236_11 {d : Nat} {Q : dR → dS → Prop} {x1 x2 : Int} {σ : dS} (h : B236_4 d Q x1 (wr (x2 + 1)) σ) : B236_11 d Q x1 x2 σ := ut (m := M236) rfl h
theorem b236_12 {d : Nat} {Q : dR → dS → Prop} {σ : dS} (h : Q (.inl (some (.inl (-1)))) σ) : B236_12 d Q σ := ut (m := M236) rfl h
theorem c236 {d : Nat} {Q : dR → dS → Prop} {K : Int → dS → Prop} {x1 : Int} {σ : dS} (h : B236_0 d (fun res σ1 => match res with | .inl (some (.inl v)) => K v σ1 | .inl _ => False | .inr e => Q (.inr e) σ1) x1 σ) : wI (d + 2) 236 [.inr (.inr 153), .inl x1] σ Q K := ut0 rfl (Nat.le_of_ble_eq_true rfl) h
/-- WingTramsModel.last(I)I, 237 -/
def M237 (lb : Nat) : List Bool := [[true, true, false, false, false, false, false], [true, true, false, false, false, false, false], [false, false, false, false, false, false, false], [true, true, true, false, false, false, false], [true, true, true, true, false, false, false], [true, true, true, true, true, true, false], [true, true, true, true, true, true, true], [true, true, true, true, false, true, false], [true, true, true, true, false, true, false], [true, true, true, true, false, true, false], [true, true, true, true, false, false, false], [false, false, false, false, false, false, false]].getD lb []
def B237_0 (d : Nat) (Q : dR → dS → Prop) (x1 : Int) (σ : dS) : Prop := UT d 237 Q 0 (0, 0) [some (.inr (.inr 153)), some (.inl x1), none, none, none, none, none] [] σ
def B237_1 (d : Nat) (Q : dR → dS → Prop) (x1 : Int) (σ : dS) : Prop := UT d 237 Q 1 (0, 0) [some (.inr (.inr 153)), some (.inl x1), none, none, none, none, none] [] σ
def B237_2 (d : Nat) (Q : dR → dS → Prop) (σ : dS) : Prop := UT d 237 Q 2 (0, 0) [none, none, none, none, none, none, none] [] σ
def B237_3 (d : Nat) (Q : dR → dS → Prop) (x1 x2 : Int) (σ : dS) : Prop := UT d 237 Q 3 (0, 0) [some (.inr (.inr 153)), some (.inl x1), some (.inl x2), none, none, none, none] [] σ
def B237_4 (d : Nat) (Q : dR → dS → Prop) (x1 x2 x3 : Int) (σ : dS) : Prop := UT d 237 Q 4 (0, 0) [some (.inr (.inr 153)), some (.inl x1), some (.inl x2), some (.inl x3), none, none, none] [] σ
def B237_5 (d : Nat) (Q : dR → dS → Prop) (x1 x2 x3 x4 x5 : Int) (σ : dS) : Prop := UT d 237 Q 5 (0, 0) [some (.inr (.inr 153)), some (.inl x1), some (.inl x2), some (.inl x3), some (.inl x4), some (.inl x5), none] [] σ
def B237_6 (d : Nat) (Q : dR → dS → Prop) (x1 x2 x3 x4 x5 x6 : Int) (σ : dS) : Prop := UT d 237 Q 6 (0, 0) [some (.inr (.inr 153)), some (.inl x1), some (.inl x2), some (.inl x3), some (.inl x4), some (.inl x5), some (.inl x6)] [] σ
def B237_7 (d : Nat) (Q : dR → dS → Prop) (x1 x2 x3 x5 : Int) (σ : dS) : Prop := UT d 237 Q 7 (0, 0) [some (.inr (.inr 153)), some (.inl x1), some (.inl x2), some (.inl x3), none, some (.inl x5), none] [] σ
def B237_8 (d : Nat) (Q : dR → dS → Prop) (x1 x2 x3 x5 : Int) (σ : dS) : Prop := UT d 237 Q 8 (0, 0) [some (.inr (.inr 153)), some (.inl x1), some (.inl x2), some (.inl x3), none, some (.inl x5), none] [] σ
def B237_9 (d : Nat) (Q : dR → dS → Prop) (x1 x2 x3 x5 s0 : Int) (σ : dS) : Prop := UT d 237 Q 9 (0, 0) [some (.inr (.inr 153)), some (.inl x1), some (.inl x2), some (.inl x3), none, some (.inl x5), none] [.inl s0] σ
def B237_10 (d : Nat) (Q : dR → dS → Prop) (x1 x2 x3 : Int) (σ : dS) : Prop := UT d 237 Q 10 (0, 0) [some (.inr (.inr 153)), some (.inl x1), some (.inl x2), some (.inl x3), none, none, none] [] σ
def B237_11 (d : Nat) (Q : dR → dS → Prop) (σ : dS) : Prop := UT d 237 Q 11 (0, 0) [none, none, none, none, none, none, none] [] σ
theorem b237_0 {d : Nat} {Q : dR → dS → Prop} {x1 : Int} {σ : dS} (h : ∀ σ1 : dS, σ1 = up σ 153 0 0 → (wI (d + 1) 217 [.inr (.inr 153), .inl x1] σ1 Q (fun v2 σ2 => ((v2 ≠ 0) → B237_1 d Q x1 σ2) ∧ (¬ (v2 ≠ 0) → Q (.inl (some (.inl 0))) σ2)))) : B237_0 d Q x1 σ := ut (m := M237) rfl h
theorem b237_1 {d : Nat} {Q : dR → dS → Prop} {x1 : Int} {σ : dS} (h : wV (d + 1) 205 [.inr (.inr 153)] σ Q (fun σ1 => wI (d + 1) 211 [.inr (.inr 153), .inl x1] σ1 Q (fun v2 σ2 => (((1000000 : Int) ≤ v2) → B237_2 d Q σ2) ∧ (¬ ((1000000 : Int) ≤ v2) → wI (d + 1) 212 [.inr (.inr 153), .inl x1] σ2 Q (fun v3 σ3 => ((v3 = 0) → B237_3 d Q x1 v2 σ3) ∧ (¬ (v3 = 0) → B237_2 d Q σ3)))))) : B237_1 d Q x1 σ := ut (m := M237) rfl h
theorem b237_2 {d : Nat} {Q : dR → dS → Prop} {σ : dS} (h : Q (.inl (some (.inl (-1)))) σ) : B237_2 d Q σ := ut (m := M237) rfl h
theorem b237_3 {d : Nat} {Q : dR → dS → Prop} {x1 x2 : Int} {σ : dS} (h : B237_4 d Q x1 x2 0 σ) : B237_3 d Q x1 x2 σ := ut (m := M237) rfl h
theorem b237_4 {d : Nat} {Q : dR → dS → Prop} {x1 x2 x3 : Int} {σ : dS} (h : (((σ 153 3) ≤ x3) → B237_11 d Q σ) ∧ (¬ ((σ 153 3) ≤ x3) → B237_5 d Q x1 x2 x3 0 0 σ)) : B237_4 d Q x1 x2 x3 σ := ut (m := M237) rfl h
set_option maxRecDepth 20000 in
theorem b237_5 {d : Nat} {Q : dR → dS → Prop} {x1 x2 x3 x4 x5 : Int} {σ : dS} (h : (0 ≤ x3) ∧ (x3 < 5) ∧ ((((σ 156 x3) ≤ x5) → B237_10 d Q x1 x2 x3 σ) ∧ (¬ ((σ 156 x3) ≤ x5) → wI (d + 1) 202 [.inr (.inr 153), .inl x3] σ Q (fun v1 σ1 => ((v1 ≠ 0) → B237_10 d Q x1 x2 x3 σ1) ∧ (¬ (v1 ≠ 0) → (0 ≤ (wr ((wr (8 * x3)) + x5))) ∧ ((wr ((wr (8 * x3)) + x5)) < 40) ∧ (((x4 = 0) → B237_6 d Q x1 x2 x3 x4 x5 (σ1 157 (wr ((wr (8 * x3)) + x5))) σ1) ∧ (¬ (x4 = 0) → wI (d + 1) 210 [.inr (.inr 153), .inl x1] σ1 Q (fun v2 σ2 => (((σ1 157 (wr ((wr (8 * x3)) + x5))) ≠ v2) → B237_6 d Q x1 x2 x3 x4 x5 (σ1 157 (wr ((wr (8 * x3)) + x5))) σ2) ∧ (¬ ((σ1 157 (wr ((wr (8 * x3)) + x5))) ≠ v2) → (0 ≤ (wr ((wr (8 * x3)) + x5))) ∧ ((wr ((wr (8 * x3)) + x5)) < 40) ∧ ((((σ2 180 (wr ((wr (8 * x3)) + x5))) ≠ x2) → B237_6 d Q x1 x2 x3 x4 x5 (σ1 157 (wr ((wr (8 * x3)) + x5))) σ2) ∧ (¬ ((σ2 180 (wr ((wr (8 * x3)) + x5))) ≠ x2) → Q (.inl (some (.inl x3))) σ2))))))))))) : B237_5 d Q x1 x2 x3 x4 x5 σ := ut (m := M237) rfl h
theorem b237_6 {d : Nat} {Q : dR → dS → Prop} {x1 x2 x3 x4 x5 x6 : Int} {σ : dS} (h : ((x4 ≠ 0) → B237_7 d Q x1 x2 x3 x5 σ) ∧ (¬ (x4 ≠ 0) → (0 ≤ x6) ∧ (x6 < 10) ∧ ((0 ≤ (wr ((wr (8 * x3)) + x5))) ∧ ((wr ((wr (8 * x3)) + x5)) < 40) ∧ ((((σ 181 (wr ((wr (8 * x3)) + x5))) < (σ 186 x6)) → B237_8 d Q x1 x2 x3 x5 σ) ∧ (¬ ((σ 181 (wr ((wr (8 * x3)) + x5))) < (σ 186 x6)) → B237_7 d Q x1 x2 x3 x5 σ))))) : B237_6 d Q x1 x2 x3 x4 x5 x6 σ := ut (m := M237) rfl h
theorem b237_7 {d : Nat} {Q : dR → dS → Prop} {x1 x2 x3 x5 : Int} {σ : dS} (h : B237_9 d Q x1 x2 x3 x5 1 σ) : B237_7 d Q x1 x2 x3 x5 σ := ut (m := M237) rfl h
theorem b237_8 {d : Nat} {Q : dR → dS → Prop} {x1 x2 x3 x5 : Int} {σ : dS} (h : B237_9 d Q x1 x2 x3 x5 0 σ) : B237_8 d Q x1 x2 x3 x5 σ := ut (m := M237) rfl h
theorem b237_9 {d : Nat} {Q : dR → dS → Prop} {x1 x2 x3 x5 s0 : Int} {σ : dS} (h : B237_5 d Q x1 x2 x3 s0 (wr (x5 + 1)) σ) : B237_9 d Q x1 x2 x3 x5 s0 σ := ut (m := M237) rfl h
theorem b237_10 {d : Nat} {Q : dR → dS → Prop} {x1 x2 x3 : Int} {σ : dS} (h : B237_4 d Q x1 x2 (wr (x3 + 1)) σ) : B237_10 d Q x1 x2 x3 σ := ut (m := M237) rfl h
theorem b237_11 {d : Nat} {Q : dR → dS → Prop} {σ : dS} (h : Q (.inl (some (.inl (-1)))) σ) : B237_11 d Q σ := ut (m := M237) rfl h
theorem c237 {d : Nat} {Q : dR → dS → Prop} {K : Int → dS → Prop} {x1 : Int} {σ : dS} (h : B237_0 d (fun res σ1 => match res with | .inl (some (.inl v)) => K v σ1 | .inl _ => False | .inr e => Q (.inr e) σ1) x1 σ) : wI (d + 2) 237 [.inr (.inr 153), .inl x1] σ Q K := ut0 rfl (Nat.le_of_ble_eq_true rfl) h
/-- WingTramsModel.never()I, 238 -/
def M238 (lb : Nat) : List Bool := [[true, false, false], [true, true, true], [true, false, true], [true, false, true], [false, true, false]].getD lb []
def B238_0 (d : Nat) (Q : dR → dS → Prop) (σ : dS) : Prop := UT d 238 Q 0 (0, 0) [some (.inr (.inr 153)), none, none] [] σ
def B238_1 (d : Nat) (Q : dR → dS → Prop) (x1 x2 : Int) (σ : dS) : Prop := UT d 238 Q 1 (0, 0) [some (.inr (.inr 153)), some (.inl x1), some (.inl x2)] [] σ
def B238_2 (d : Nat) (Q : dR → dS → Prop) (x2 s0 : Int) (σ : dS) : Prop := UT d 238 Q 2 (0, 0) [some (.inr (.inr 153)), none, some (.inl x2)] [.inl s0] σ
def B238_3 (d : Nat) (Q : dR → dS → Prop) (x2 s0 s1 : Int) (σ : dS) : Prop := UT d 238 Q 3 (0, 0) [some (.inr (.inr 153)), none, some (.inl x2)] [.inl s0, .inl s1] σ
def B238_4 (d : Nat) (Q : dR → dS → Prop) (x1 : Int) (σ : dS) : Prop := UT d 238 Q 4 (0, 0) [none, some (.inl x1), none] [] σ
theorem b238_0 {d : Nat} {Q : dR → dS → Prop} {σ : dS} (h : ∀ σ1 : dS, σ1 = up σ 153 0 0 → (wV (d + 1) 205 [.inr (.inr 153)] σ1 Q (fun σ2 => B238_1 d Q 0 0 σ2))) : B238_0 d Q σ := ut (m := M238) rfl h
theorem b238_1 {d : Nat} {Q : dR → dS → Prop} {x1 x2 : Int} {σ : dS} (h : (((σ 153 4) ≤ x2) → B238_4 d Q x1 σ) ∧ (¬ ((σ 153 4) ≤ x2) → wI (d + 1) 211 [.inr (.inr 153), .inl x2] σ Q (fun v1 σ1 => ((v1 < (1000000 : Int)) → B238_2 d Q x2 x1 σ1) ∧ (¬ (v1 < (1000000 : Int)) → B238_3 d Q x2 (shl 1 x2) x1 σ1)))) : B238_1 d Q x1 x2 σ := ut (m := M238) rfl h
theorem b238_2 {d : Nat} {Q : dR → dS → Prop} {x2 s0 : Int} {σ : dS} (h : B238_3 d Q x2 0 s0 σ) : B238_2 d Q x2 s0 σ := ut (m := M238) rfl h
theorem b238_3 {d : Nat} {Q : dR → dS → Prop} {x2 s0 s1 : Int} {σ : dS} (h : B238_1 d Q (ior s1 s0) (wr (x2 + 1)) σ) : B238_3 d Q x2 s0 s1 σ := ut (m := M238) rfl h
theorem b238_4 {d : Nat} {Q : dR → dS → Prop} {x1 : Int} {σ : dS} (h : Q (.inl (some (.inl x1))) σ) : B238_4 d Q x1 σ := ut (m := M238) rfl h
theorem c238 {d : Nat} {Q : dR → dS → Prop} {K : Int → dS → Prop} {σ : dS} (h : B238_0 d (fun res σ1 => match res with | .inl (some (.inl v)) => K v σ1 | .inl _ => False | .inr e => Q (.inr e) σ1) σ) : wI (d + 2) 238 [.inr (.inr 153)] σ Q K := ut0 rfl (Nat.le_of_ble_eq_true rfl) h
/-- WingTramsModel.areHome(II)Z, 239 -/
def M239 (lb : Nat) : List Bool := [[true, true, true, false], [true, true, true, true], [true, true, true, true], [false, false, false, false]].getD lb []
def B239_0 (d : Nat) (Q : dR → dS → Prop) (x1 x2 : Int) (σ : dS) : Prop := UT d 239 Q 0 (0, 0) [some (.inr (.inr 153)), some (.inl x1), some (.inl x2), none] [] σ
def B239_1 (d : Nat) (Q : dR → dS → Prop) (x1 x2 x3 : Int) (σ : dS) : Prop := UT d 239 Q 1 (0, 0) [some (.inr (.inr 153)), some (.inl x1), some (.inl x2), some (.inl x3)] [] σ
def B239_2 (d : Nat) (Q : dR → dS → Prop) (x1 x2 x3 : Int) (σ : dS) : Prop := UT d 239 Q 2 (0, 0) [some (.inr (.inr 153)), some (.inl x1), some (.inl x2), some (.inl x3)] [] σ
def B239_3 (d : Nat) (Q : dR → dS → Prop) (σ : dS) : Prop := UT d 239 Q 3 (0, 0) [none, none, none, none] [] σ
theorem b239_0 {d : Nat} {Q : dR → dS → Prop} {x1 x2 : Int} {σ : dS} (h : wV (d + 1) 205 [.inr (.inr 153)] σ Q (fun σ1 => B239_1 d Q x1 x2 0 σ1)) : B239_0 d Q x1 x2 σ := ut (m := M239) rfl h
theorem b239_1 {d : Nat} {Q : dR → dS → Prop} {x1 x2 x3 : Int} {σ : dS} (h : (((σ 153 4) ≤ x3) → B239_3 d Q σ) ∧ (¬ ((σ 153 4) ≤ x3) → (((ian (shr x1 x3) 1) ≠ (1 : Int)) → B239_2 d Q x1 x2 x3 σ) ∧ (¬ ((ian (shr x1 x3) 1) ≠ (1 : Int)) → wI (d + 1) 211 [.inr (.inr 153), .inl x3] σ Q (fun v1 σ1 => ((v1 ≤ x2) → B239_2 d Q x1 x2 x3 σ1) ∧ (¬ (v1 ≤ x2) → ((0 : Int) = 0 ∨ (0 : Int) = 1) ∧ Q (.inl (some (.inl 0))) σ1))))) : B239_1 d Q x1 x2 x3 σ := ut (m := M239) rfl h
theorem b239_2 {d : Nat} {Q : dR → dS → Prop} {x1 x2 x3 : Int} {σ : dS} (h : B239_1 d Q x1 x2 (wr (x3 + 1)) σ) : B239_2 d Q x1 x2 x3 σ := ut (m := M239) rfl h
theorem b239_3 {d : Nat} {Q : dR → dS → Prop} {σ : dS} (h : ((1 : Int) = 0 ∨ (1 : Int) = 1) ∧ Q (.inl (some (.inl 1))) σ) : B239_3 d Q σ := ut (m := M239) rfl h
theorem c239 {d : Nat} {Q : dR → dS → Prop} {K : Int → dS → Prop} {x1 x2 : Int} {σ : dS} (h : B239_0 d (fun res σ1 => match res with | .inl (some (.inl v)) => K v σ1 | .inl _ => False | .inr e => Q (.inr e) σ1) x1 x2 σ) : wI (d + 2) 239 [.inr (.inr 153), .inl x1, .inl x2] σ Q K := ut0 rfl (Nat.le_of_ble_eq_true rfl) h
