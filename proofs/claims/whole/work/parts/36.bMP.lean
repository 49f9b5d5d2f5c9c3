/-! BLOCKS AS CLEAN ROWS, by program (wip/whole/gen/g26.py) -/
/-- WingTramsModel.goes()V, 168 -/
def M168 (lb : Nat) : List Bool := [[true, false], [true, false], [true, false], [true, true], [true, false], [true, false], [true, false], [true, true], [true, false], [true, false], [true, false], [true, true], [true, false], [true, false], [true, false], [true, false]].getD lb []
def B168_0 (d : Nat) (Q : dR → dS → Prop) (σ : dS) : Prop := UT d 168 Q 0 (0, 0) [some (.inr (.inr 153)), none] [] σ
def B168_1 (d : Nat) (Q : dR → dS → Prop) (σ : dS) : Prop := UT d 168 Q 1 (0, 0) [some (.inr (.inr 153)), none] [] σ
def B168_2 (d : Nat) (Q : dR → dS → Prop) (σ : dS) : Prop := UT d 168 Q 2 (0, 0) [some (.inr (.inr 153)), none] [] σ
def B168_3 (d : Nat) (Q : dR → dS → Prop) (x1 : Int) (σ : dS) : Prop := UT d 168 Q 3 (0, 0) [some (.inr (.inr 153)), some (.inl x1)] [] σ
def B168_4 (d : Nat) (Q : dR → dS → Prop) (σ : dS) : Prop := UT d 168 Q 4 (0, 0) [some (.inr (.inr 153)), none] [] σ
def B168_5 (d : Nat) (Q : dR → dS → Prop) (σ : dS) : Prop := UT d 168 Q 5 (0, 0) [some (.inr (.inr 153)), none] [] σ
def B168_6 (d : Nat) (Q : dR → dS → Prop) (σ : dS) : Prop := UT d 168 Q 6 (0, 0) [some (.inr (.inr 153)), none] [] σ
def B168_7 (d : Nat) (Q : dR → dS → Prop) (x1 : Int) (σ : dS) : Prop := UT d 168 Q 7 (0, 0) [some (.inr (.inr 153)), some (.inl x1)] [] σ
def B168_8 (d : Nat) (Q : dR → dS → Prop) (σ : dS) : Prop := UT d 168 Q 8 (0, 0) [some (.inr (.inr 153)), none] [] σ
def B168_9 (d : Nat) (Q : dR → dS → Prop) (σ : dS) : Prop := UT d 168 Q 9 (0, 0) [some (.inr (.inr 153)), none] [] σ
def B168_10 (d : Nat) (Q : dR → dS → Prop) (σ : dS) : Prop := UT d 168 Q 10 (0, 0) [some (.inr (.inr 153)), none] [] σ
def B168_11 (d : Nat) (Q : dR → dS → Prop) (x1 : Int) (σ : dS) : Prop := UT d 168 Q 11 (0, 0) [some (.inr (.inr 153)), some (.inl x1)] [] σ
def B168_12 (d : Nat) (Q : dR → dS → Prop) (σ : dS) : Prop := UT d 168 Q 12 (0, 0) [some (.inr (.inr 153)), none] [.inr (.inr 153)] σ
def B168_13 (d : Nat) (Q : dR → dS → Prop) (σ : dS) : Prop := UT d 168 Q 13 (0, 0) [some (.inr (.inr 153)), none] [.inr (.inr 153)] σ
def B168_14 (d : Nat) (Q : dR → dS → Prop) (s0 : Int) (σ : dS) : Prop := UT d 168 Q 14 (0, 0) [some (.inr (.inr 153)), none] [.inl s0, .inr (.inr 153)] σ
def B168_15 (d : Nat) (Q : dR → dS → Prop) (σ : dS) : Prop := UT d 168 Q 15 (0, 0) [some (.inr (.inr 153)), none] [] σ
theorem b168_0 {d : Nat} {Q : dR → dS → Prop} {σ : dS} (h : (((σ 153 19) ≤ (σ 153 20)) → B168_2 d Q σ) ∧ (¬ ((σ 153 19) ≤ (σ 153 20)) → wI (d + 1) 165 [.inr (.inr 153), .inl (σ 153 20)] σ Q (fun v1 σ1 => ((v1 = (32 : Int)) → B168_1 d Q σ1) ∧ (¬ (v1 = (32 : Int)) → wI (d + 1) 165 [.inr (.inr 153), .inl (σ1 153 20)] σ1 Q (fun v2 σ2 => ((v2 ≠ (10 : Int)) → B168_2 d Q σ2) ∧ (¬ (v2 ≠ (10 : Int)) → B168_1 d Q σ2)))))) : B168_0 d Q σ := ut (m := M168) rfl h
theorem b168_1 {d : Nat} {Q : dR → dS → Prop} {σ : dS} (h : ∀ σ1 : dS, σ1 = up σ 153 20 (wr ((σ 153 20) + 1)) → (B168_0 d Q σ1)) : B168_1 d Q σ := ut (m := M168) rfl h
theorem b168_2 {d : Nat} {Q : dR → dS → Prop} {σ : dS} (h : ∀ σ1 : dS, σ1 = up σ 153 22 (σ 153 20) → (lS 0 ∧ (∀ σ2 : dS, σ2 = up (up σ1 153 26 (lo32 0)) 153 1026 (hi32 0) → (∀ σ3 : dS, σ3 = up σ2 153 24 0 → (wI (d + 1) 165 [.inr (.inr 153), .inl (σ3 153 20)] σ3 Q (fun v4 σ4 => ∀ σ5 : dS, σ5 = up σ4 153 25 v4 → ((((σ5 153 20) < (σ5 153 19)) → B168_3 d Q v4 σ5) ∧ (¬ ((σ5 153 20) < (σ5 153 19)) → ∀ σ6 : dS, σ6 = up σ5 153 21 0 → (B168_15 d Q σ6))))))))) : B168_2 d Q σ := ut (m := M168) rfl h
theorem b168_3 {d : Nat} {Q : dR → dS → Prop} {x1 : Int} {σ : dS} (h : wI (d + 1) 166 [.inl x1] σ Q (fun v1 σ1 => ((v1 = 0) → B168_7 d Q x1 σ1) ∧ (¬ (v1 = 0) → B168_4 d Q σ1))) : B168_3 d Q x1 σ := ut (m := M168) rfl h
set_option maxRecDepth 20000 in
theorem b168_4 {d : Nat} {Q : dR → dS → Prop} {σ : dS} (h : wI (d + 1) 165 [.inr (.inr 153), .inl (σ 153 20)] σ Q (fun v1 σ1 => wI (d + 1) 166 [.inl v1] σ1 Q (fun v2 σ2 => ((v2 = 0) → B168_6 d Q σ2) ∧ (¬ (v2 = 0) → (((6 : Int) ≤ (wr ((σ2 153 20) - (σ2 153 22)))) → B168_5 d Q σ2) ∧ (¬ ((6 : Int) ≤ (wr ((σ2 153 20) - (σ2 153 22)))) → wI (d + 1) 165 [.inr (.inr 153), .inl (σ2 153 20)] σ2 Q (fun v3 σ3 => lS (lio (lsh (wrL (σ2 153 26 + 4294967296 * σ2 153 1026)) 5) (wr (v3 - 96))) ∧ (∀ σ4 : dS, σ4 = up (up σ3 153 26 (lo32 (lio (lsh (wrL (σ2 153 26 + 4294967296 * σ2 153 1026)) 5) (wr (v3 - 96))))) 153 1026 (hi32 (lio (lsh (wrL (σ2 153 26 + 4294967296 * σ2 153 1026)) 5) (wr (v3 - 96)))) → (B168_5 d Q σ4)))))))) : B168_4 d Q σ := ut (m := M168) rfl h
theorem b168_5 {d : Nat} {Q : dR → dS → Prop} {σ : dS} (h : ∀ σ1 : dS, σ1 = up σ 153 20 (wr ((σ 153 20) + 1)) → (B168_4 d Q σ1)) : B168_5 d Q σ := ut (m := M168) rfl h
theorem b168_6 {d : Nat} {Q : dR → dS → Prop} {σ : dS} (h : ∀ σ1 : dS, σ1 = up σ 153 21 1 → (B168_15 d Q σ1)) : B168_6 d Q σ := ut (m := M168) rfl h
theorem b168_7 {d : Nat} {Q : dR → dS → Prop} {x1 : Int} {σ : dS} (h : wI (d + 1) 167 [.inl x1] σ Q (fun v1 σ1 => ((v1 = 0) → B168_11 d Q x1 σ1) ∧ (¬ (v1 = 0) → B168_8 d Q σ1))) : B168_7 d Q x1 σ := ut (m := M168) rfl h
theorem b168_8 {d : Nat} {Q : dR → dS → Prop} {σ : dS} (h : wI (d + 1) 165 [.inr (.inr 153), .inl (σ 153 20)] σ Q (fun v1 σ1 => wI (d + 1) 167 [.inl v1] σ1 Q (fun v2 σ2 => ((v2 = 0) → B168_10 d Q σ2) ∧ (¬ (v2 = 0) → (((4 : Int) ≤ (wr ((σ2 153 20) - (σ2 153 22)))) → B168_9 d Q σ2) ∧ (¬ ((4 : Int) ≤ (wr ((σ2 153 20) - (σ2 153 22)))) → wI (d + 1) 165 [.inr (.inr 153), .inl (σ2 153 20)] σ2 Q (fun v3 σ3 => ∀ σ4 : dS, σ4 = up σ3 153 24 (wr ((wr ((wr (10 * (σ2 153 24))) + v3)) - 48)) → (B168_9 d Q σ4))))))) : B168_8 d Q σ := ut (m := M168) rfl h
theorem b168_9 {d : Nat} {Q : dR → dS → Prop} {σ : dS} (h : ∀ σ1 : dS, σ1 = up σ 153 20 (wr ((σ 153 20) + 1)) → (B168_8 d Q σ1)) : B168_9 d Q σ := ut (m := M168) rfl h
theorem b168_10 {d : Nat} {Q : dR → dS → Prop} {σ : dS} (h : ∀ σ1 : dS, σ1 = up σ 153 21 2 → (B168_15 d Q σ1)) : B168_10 d Q σ := ut (m := M168) rfl h
set_option maxRecDepth 20000 in
theorem b168_11 {d : Nat} {Q : dR → dS → Prop} {x1 : Int} {σ : dS} (h : ∀ σ1 : dS, σ1 = up σ 153 20 (wr ((σ 153 20) + 1)) → (((x1 = (59 : Int)) → B168_12 d Q σ1) ∧ (¬ (x1 = (59 : Int)) → ((x1 = (40 : Int)) → B168_12 d Q σ1) ∧ (¬ (x1 = (40 : Int)) → ((x1 = (41 : Int)) → B168_12 d Q σ1) ∧ (¬ (x1 = (41 : Int)) → ((x1 = (43 : Int)) → B168_12 d Q σ1) ∧ (¬ (x1 = (43 : Int)) → ((x1 = (45 : Int)) → B168_12 d Q σ1) ∧ (¬ (x1 = (45 : Int)) → ((x1 = (42 : Int)) → B168_12 d Q σ1) ∧ (¬ (x1 = (42 : Int)) → ((x1 = (47 : Int)) → B168_12 d Q σ1) ∧ (¬ (x1 = (47 : Int)) → ((x1 = (60 : Int)) → B168_12 d Q σ1) ∧ (¬ (x1 = (60 : Int)) → ((x1 ≠ (61 : Int)) → B168_13 d Q σ1) ∧ (¬ (x1 ≠ (61 : Int)) → B168_12 d Q σ1))))))))))) : B168_11 d Q x1 σ := ut (m := M168) rfl h
theorem b168_12 {d : Nat} {Q : dR → dS → Prop} {σ : dS} (h : B168_14 d Q 3 σ) : B168_12 d Q σ := ut (m := M168) rfl h
theorem b168_13 {d : Nat} {Q : dR → dS → Prop} {σ : dS} (h : B168_14 d Q 4 σ) : B168_13 d Q σ := ut (m := M168) rfl h
theorem b168_14 {d : Nat} {Q : dR → dS → Prop} {s0 : Int} {σ : dS} (h : ∀ σ1 : dS, σ1 = up σ 153 21 s0 → (B168_15 d Q σ1)) : B168_14 d Q s0 σ := ut (m := M168) rfl h
theorem b168_15 {d : Nat} {Q : dR → dS → Prop} {σ : dS} (h : ∀ σ1 : dS, σ1 = up σ 153 23 (wr ((σ 153 20) - (σ 153 22))) → (Q (.inl none) σ1)) : B168_15 d Q σ := ut (m := M168) rfl h
theorem c168 {d : Nat} {Q : dR → dS → Prop} {K : dS → Prop} {σ : dS} (h : B168_0 d (fun res σ1 => match res with | .inl none => K σ1 | .inl (some _) => False | .inr e => Q (.inr e) σ1) σ) : wV (d + 2) 168 [.inr (.inr 153)] σ Q K := ut0 rfl (Nat.le_of_ble_eq_true rfl) h
/-- WingTramsModel.letters(I)J, 170 -/
def M170 (lb : Nat) : List Bool := [[true], [false], [false], [false], [false], [false], [false], [false], [false], [false], [false], [false], [false], [false], [false], [false], [false], [false], [false]].getD lb []
def B170_0 (d : Nat) (Q : dR → dS → Prop) (x0 : Int) (σ : dS) : Prop := UT d 170 Q 0 (0, 0) [some (.inl x0)] [] σ
def B170_1 (d : Nat) (Q : dR → dS → Prop) (σ : dS) : Prop := UT d 170 Q 1 (0, 0) [none] [] σ
def B170_2 (d : Nat) (Q : dR → dS → Prop) (σ : dS) : Prop := UT d 170 Q 2 (0, 0) [none] [] σ
def B170_3 (d : Nat) (Q : dR → dS → Prop) (σ : dS) : Prop := UT d 170 Q 3 (0, 0) [none] [] σ
def B170_4 (d : Nat) (Q : dR → dS → Prop) (σ : dS) : Prop := UT d 170 Q 4 (0, 0) [none] [] σ
def B170_5 (d : Nat) (Q : dR → dS → Prop) (σ : dS) : Prop := UT d 170 Q 5 (0, 0) [none] [] σ
def B170_6 (d : Nat) (Q : dR → dS → Prop) (σ : dS) : Prop := UT d 170 Q 6 (0, 0) [none] [] σ
def B170_7 (d : Nat) (Q : dR → dS → Prop) (σ : dS) : Prop := UT d 170 Q 7 (0, 0) [none] [] σ
def B170_8 (d : Nat) (Q : dR → dS → Prop) (σ : dS) : Prop := UT d 170 Q 8 (0, 0) [none] [] σ
def B170_9 (d : Nat) (Q : dR → dS → Prop) (σ : dS) : Prop := UT d 170 Q 9 (0, 0) [none] [] σ
def B170_10 (d : Nat) (Q : dR → dS → Prop) (σ : dS) : Prop := UT d 170 Q 10 (0, 0) [none] [] σ
def B170_11 (d : Nat) (Q : dR → dS → Prop) (σ : dS) : Prop := UT d 170 Q 11 (0, 0) [none] [] σ
def B170_12 (d : Nat) (Q : dR → dS → Prop) (σ : dS) : Prop := UT d 170 Q 12 (0, 0) [none] [] σ
def B170_13 (d : Nat) (Q : dR → dS → Prop) (σ : dS) : Prop := UT d 170 Q 13 (0, 0) [none] [] σ
def B170_14 (d : Nat) (Q : dR → dS → Prop) (σ : dS) : Prop := UT d 170 Q 14 (0, 0) [none] [] σ
def B170_15 (d : Nat) (Q : dR → dS → Prop) (σ : dS) : Prop := UT d 170 Q 15 (0, 0) [none] [] σ
def B170_16 (d : Nat) (Q : dR → dS → Prop) (σ : dS) : Prop := UT d 170 Q 16 (0, 0) [none] [] σ
def B170_17 (d : Nat) (Q : dR → dS → Prop) (σ : dS) : Prop := UT d 170 Q 17 (0, 0) [none] [] σ
def B170_18 (d : Nat) (Q : dR → dS → Prop) (σ : dS) : Prop := UT d 170 Q 18 (0, 0) [none] [] σ
set_option maxRecDepth 20000 in
theorem b170_0 {d : Nat} {Q : dR → dS → Prop} {x0 : Int} {σ : dS} (h : ((x0 = 0) → B170_1 d Q σ) ∧ (¬ (x0 = 0) → ((x0 = 1) → B170_2 d Q σ) ∧ (¬ (x0 = 1) → ((x0 = 2) → B170_3 d Q σ) ∧ (¬ (x0 = 2) → ((x0 = 3) → B170_4 d Q σ) ∧ (¬ (x0 = 3) → ((x0 = 4) → B170_5 d Q σ) ∧ (¬ (x0 = 4) → ((x0 = 5) → B170_6 d Q σ) ∧ (¬ (x0 = 5) → ((x0 = 6) → B170_7 d Q σ) ∧ (¬ (x0 = 6) → ((x0 = 7) → B170_8 d Q σ) ∧ (¬ (x0 = 7) → ((x0 = 8) → B170_9 d Q σ) ∧ (¬ (x0 = 8) → ((x0 = 9) → B170_10 d Q σ) ∧ (¬ (x0 = 9) → ((x0 = 10) → B170_11 d Q σ) ∧ (¬ (x0 = 10) → ((x0 = 11) → B170_12 d Q σ) ∧ (¬ (x0 = 11) → ((x0 = 12) → B170_13 d Q σ) ∧ (¬ (x0 = 12) → ((x0 = 13) → B170_14 d Q σ) ∧ (¬ (x0 = 13) → ((x0 = 14) → B170_15 d Q σ) ∧ (¬ (x0 = 14) → ((x0 = 15) → B170_16 d Q σ) ∧ (¬ (x0 = 15) → ((x0 = 16) → B170_17 d Q σ) ∧ (¬ (x0 = 16) → B170_18 d Q σ)))))))))))))))))) : B170_0 d Q x0 σ := ut (m := M170) rfl h
theorem b170_1 {d : Nat} {Q : dR → dS → Prop} {σ : dS} (h : wJ (d + 1) 169 [.inl 109, .inl 105, .inl 99, .inl 101, .inl 0, .inl 0] σ Q (fun v1 σ1 => Q (.inl (some (.inr (.inl v1)))) σ1)) : B170_1 d Q σ := ut (m := M170) rfl h
theorem b170_2 {d : Nat} {Q : dR → dS → Prop} {σ : dS} (h : wJ (d + 1) 169 [.inl 103, .inl 114, .inl 97, .inl 105, .inl 110, .inl 0] σ Q (fun v1 σ1 => Q (.inl (some (.inr (.inl v1)))) σ1)) : B170_2 d Q σ := ut (m := M170) rfl h
theorem b170_3 {d : Nat} {Q : dR → dS → Prop} {σ : dS} (h : wJ (d + 1) 169 [.inl 107, .inl 105, .inl 110, .inl 100, .inl 0, .inl 0] σ Q (fun v1 σ1 => Q (.inl (some (.inr (.inl v1)))) σ1)) : B170_3 d Q σ := ut (m := M170) rfl h
theorem b170_4 {d : Nat} {Q : dR → dS → Prop} {σ : dS} (h : wJ (d + 1) 169 [.inl 115, .inl 116, .inl 111, .inl 112, .inl 0, .inl 0] σ Q (fun v1 σ1 => Q (.inl (some (.inr (.inl v1)))) σ1)) : B170_4 d Q σ := ut (m := M170) rfl h
theorem b170_5 {d : Nat} {Q : dR → dS → Prop} {σ : dS} (h : wJ (d + 1) 169 [.inl 109, .inl 111, .inl 111, .inl 110, .inl 0, .inl 0] σ Q (fun v1 σ1 => Q (.inl (some (.inr (.inl v1)))) σ1)) : B170_5 d Q σ := ut (m := M170) rfl h
theorem b170_6 {d : Nat} {Q : dR → dS → Prop} {σ : dS} (h : wJ (d + 1) 169 [.inl 119, .inl 101, .inl 116, .inl 0, .inl 0, .inl 0] σ Q (fun v1 σ1 => Q (.inl (some (.inr (.inl v1)))) σ1)) : B170_6 d Q σ := ut (m := M170) rfl h
theorem b170_7 {d : Nat} {Q : dR → dS → Prop} {σ : dS} (h : wJ (d + 1) 169 [.inl 104, .inl 111, .inl 117, .inl 114, .inl 0, .inl 0] σ Q (fun v1 σ1 => Q (.inl (some (.inr (.inl v1)))) σ1)) : B170_7 d Q σ := ut (m := M170) rfl h
theorem b170_8 {d : Nat} {Q : dR → dS → Prop} {σ : dS} (h : wJ (d + 1) 169 [.inl 116, .inl 97, .inl 119, .inl 110, .inl 121, .inl 0] σ Q (fun v1 σ1 => Q (.inl (some (.inr (.inl v1)))) σ1)) : B170_8 d Q σ := ut (m := M170) rfl h
theorem b170_9 {d : Nat} {Q : dR → dS → Prop} {σ : dS} (h : wJ (d + 1) 169 [.inl 98, .inl 97, .inl 114, .inl 110, .inl 0, .inl 0] σ Q (fun v1 σ1 => Q (.inl (some (.inr (.inl v1)))) σ1)) : B170_9 d Q σ := ut (m := M170) rfl h
theorem b170_10 {d : Nat} {Q : dR → dS → Prop} {σ : dS} (h : wJ (d + 1) 169 [.inl 119, .inl 104, .inl 105, .inl 116, .inl 101, .inl 0] σ Q (fun v1 σ1 => Q (.inl (some (.inr (.inl v1)))) σ1)) : B170_10 d Q σ := ut (m := M170) rfl h
theorem b170_11 {d : Nat} {Q : dR → dS → Prop} {σ : dS} (h : wJ (d + 1) 169 [.inl 114, .inl 111, .inl 111, .inl 102, .inl 0, .inl 0] σ Q (fun v1 σ1 => Q (.inl (some (.inr (.inl v1)))) σ1)) : B170_11 d Q σ := ut (m := M170) rfl h
theorem b170_12 {d : Nat} {Q : dR → dS → Prop} {σ : dS} (h : wJ (d + 1) 169 [.inl 102, .inl 108, .inl 105, .inl 103, .inl 104, .inl 116] σ Q (fun v1 σ1 => Q (.inl (some (.inr (.inl v1)))) σ1)) : B170_12 d Q σ := ut (m := M170) rfl h
theorem b170_13 {d : Nat} {Q : dR → dS → Prop} {σ : dS} (h : wJ (d + 1) 169 [.inl 114, .inl 105, .inl 100, .inl 101, .inl 114, .inl 0] σ Q (fun v1 σ1 => Q (.inl (some (.inr (.inl v1)))) σ1)) : B170_13 d Q σ := ut (m := M170) rfl h
theorem b170_14 {d : Nat} {Q : dR → dS → Prop} {σ : dS} (h : wJ (d + 1) 169 [.inl 100, .inl 97, .inl 119, .inl 110, .inl 0, .inl 0] σ Q (fun v1 σ1 => Q (.inl (some (.inr (.inl v1)))) σ1)) : B170_14 d Q σ := ut (m := M170) rfl h
theorem b170_15 {d : Nat} {Q : dR → dS → Prop} {σ : dS} (h : wJ (d + 1) 169 [.inl 104, .inl 117, .inl 110, .inl 116, .inl 115, .inl 0] σ Q (fun v1 σ1 => Q (.inl (some (.inr (.inl v1)))) σ1)) : B170_15 d Q σ := ut (m := M170) rfl h
theorem b170_16 {d : Nat} {Q : dR → dS → Prop} {σ : dS} (h : wJ (d + 1) 169 [.inl 97, .inl 110, .inl 100, .inl 0, .inl 0, .inl 0] σ Q (fun v1 σ1 => Q (.inl (some (.inr (.inl v1)))) σ1)) : B170_16 d Q σ := ut (m := M170) rfl h
theorem b170_17 {d : Nat} {Q : dR → dS → Prop} {σ : dS} (h : wJ (d + 1) 169 [.inl 111, .inl 114, .inl 0, .inl 0, .inl 0, .inl 0] σ Q (fun v1 σ1 => Q (.inl (some (.inr (.inl v1)))) σ1)) : B170_17 d Q σ := ut (m := M170) rfl h
theorem b170_18 {d : Nat} {Q : dR → dS → Prop} {σ : dS} (h : wJ (d + 1) 169 [.inl 110, .inl 111, .inl 116, .inl 0, .inl 0, .inl 0] σ Q (fun v1 σ1 => Q (.inl (some (.inr (.inl v1)))) σ1)) : B170_18 d Q σ := ut (m := M170) rfl h
theorem c170 {d : Nat} {Q : dR → dS → Prop} {K : Int → dS → Prop} {x0 : Int} {σ : dS} (h : B170_0 d (fun res σ1 => match res with | .inl (some (.inr (.inl v))) => K v σ1 | .inl _ => False | .inr e => Q (.inr e) σ1) x0 σ) : wJ (d + 2) 170 [.inl x0] σ Q K := ut0 rfl (Nat.le_of_ble_eq_true rfl) h
/-- WingTramsModel.knownWord()I, 171 -/
def M171 (lb : Nat) : List Bool := [[true, false], [false, false], [true, false], [true, true], [true, true], [false, false]].getD lb []
def B171_0 (d : Nat) (Q : dR → dS → Prop) (σ : dS) : Prop := UT d 171 Q 0 (0, 0) [some (.inr (.inr 153)), none] [] σ
def B171_1 (d : Nat) (Q : dR → dS → Prop) (σ : dS) : Prop := UT d 171 Q 1 (0, 0) [none, none] [] σ
def B171_2 (d : Nat) (Q : dR → dS → Prop) (σ : dS) : Prop := UT d 171 Q 2 (0, 0) [some (.inr (.inr 153)), none] [] σ
def B171_3 (d : Nat) (Q : dR → dS → Prop) (x1 : Int) (σ : dS) : Prop := UT d 171 Q 3 (0, 0) [some (.inr (.inr 153)), some (.inl x1)] [] σ
def B171_4 (d : Nat) (Q : dR → dS → Prop) (x1 : Int) (σ : dS) : Prop := UT d 171 Q 4 (0, 0) [some (.inr (.inr 153)), some (.inl x1)] [] σ
def B171_5 (d : Nat) (Q : dR → dS → Prop) (σ : dS) : Prop := UT d 171 Q 5 (0, 0) [none, none] [] σ
theorem b171_0 {d : Nat} {Q : dR → dS → Prop} {σ : dS} (h : (((σ 153 21) ≠ (1 : Int)) → B171_1 d Q σ) ∧ (¬ ((σ 153 21) ≠ (1 : Int)) → (((σ 153 23) ≤ (6 : Int)) → B171_2 d Q σ) ∧ (¬ ((σ 153 23) ≤ (6 : Int)) → B171_1 d Q σ))) : B171_0 d Q σ := ut (m := M171) rfl h
theorem b171_1 {d : Nat} {Q : dR → dS → Prop} {σ : dS} (h : Q (.inl (some (.inl (-1)))) σ) : B171_1 d Q σ := ut (m := M171) rfl h
theorem b171_2 {d : Nat} {Q : dR → dS → Prop} {σ : dS} (h : B171_3 d Q 0 σ) : B171_2 d Q σ := ut (m := M171) rfl h
theorem b171_3 {d : Nat} {Q : dR → dS → Prop} {x1 : Int} {σ : dS} (h : (((18 : Int) ≤ x1) → B171_5 d Q σ) ∧ (¬ ((18 : Int) ≤ x1) → wJ (d + 1) 170 [.inl x1] σ Q (fun v1 σ1 => (((cmp v1 (wrL (σ1 153 26 + 4294967296 * σ1 153 1026))) ≠ 0) → B171_4 d Q x1 σ1) ∧ (¬ ((cmp v1 (wrL (σ1 153 26 + 4294967296 * σ1 153 1026))) ≠ 0) → Q (.inl (some (.inl x1))) σ1)))) : B171_3 d Q x1 σ := ut (m := M171) rfl h
theorem b171_4 {d : Nat} {Q : dR → dS → Prop} {x1 : Int} {σ : dS} (h : B171_3 d Q (wr (x1 + 1)) σ) : B171_4 d Q x1 σ := ut (m := M171) rfl h
theorem b171_5 {d : Nat} {Q : dR → dS → Prop} {σ : dS} (h : Q (.inl (some (.inl (-1)))) σ) : B171_5 d Q σ := ut (m := M171) rfl h
theorem c171 {d : Nat} {Q : dR → dS → Prop} {K : Int → dS → Prop} {σ : dS} (h : B171_0 d (fun res σ1 => match res with | .inl (some (.inl v)) => K v σ1 | .inl _ => False | .inr e => Q (.inr e) σ1) σ) : wI (d + 2) 171 [.inr (.inr 153)] σ Q K := ut0 rfl (Nat.le_of_ble_eq_true rfl) h
/-- WingTramsModel.wrong(I)V, 172 -/
def M172 (lb : Nat) : List Bool := [[true, true], [true, true]].getD lb []
def B172_0 (d : Nat) (Q : dR → dS → Prop) (x1 : Int) (σ : dS) : Prop := UT d 172 Q 0 (0, 0) [some (.inr (.inr 153)), some (.inl x1)] [] σ
def B172_1 (d : Nat) (Q : dR → dS → Prop) (x1 : Int) (σ : dS) : Prop := UT d 172 Q 1 (0, 0) [some (.inr (.inr 153)), some (.inl x1)] [] σ
theorem b172_0 {d : Nat} {Q : dR → dS → Prop} {x1 : Int} {σ : dS} (h : (((σ 153 16) = 0) → B172_1 d Q x1 σ) ∧ (¬ ((σ 153 16) = 0) → Q (.inl none) σ)) : B172_0 d Q x1 σ := ut (m := M172) rfl h
theorem b172_1 {d : Nat} {Q : dR → dS → Prop} {x1 : Int} {σ : dS} (h : ∀ σ1 : dS, σ1 = up σ 153 16 x1 → (∀ σ2 : dS, σ2 = up σ1 153 17 (σ1 153 22) → (Q (.inl none) σ2))) : B172_1 d Q x1 σ := ut (m := M172) rfl h
theorem c172 {d : Nat} {Q : dR → dS → Prop} {K : dS → Prop} {x1 : Int} {σ : dS} (h : B172_0 d (fun res σ1 => match res with | .inl none => K σ1 | .inl (some _) => False | .inr e => Q (.inr e) σ1) x1 σ) : wV (d + 2) 172 [.inr (.inr 153), .inl x1] σ Q K := ut0 rfl (Nat.le_of_ble_eq_true rfl) h
/-- WingTramsModel.isGood()Z, 173 -/
def M173 (lb : Nat) : List Bool := [[true], [false], [false]].getD lb []
def B173_0 (d : Nat) (Q : dR → dS → Prop) (σ : dS) : Prop := UT d 173 Q 0 (0, 0) [some (.inr (.inr 153))] [] σ
def B173_1 (d : Nat) (Q : dR → dS → Prop) (σ : dS) : Prop := UT d 173 Q 1 (0, 0) [none] [] σ
def B173_2 (d : Nat) (Q : dR → dS → Prop) (s0 : Int) (σ : dS) : Prop := UT d 173 Q 2 (0, 0) [none] [.inl s0] σ
theorem b173_0 {d : Nat} {Q : dR → dS → Prop} {σ : dS} (h : (((σ 153 16) ≠ 0) → B173_1 d Q σ) ∧ (¬ ((σ 153 16) ≠ 0) → B173_2 d Q 1 σ)) : B173_0 d Q σ := ut (m := M173) rfl h
theorem b173_1 {d : Nat} {Q : dR → dS → Prop} {σ : dS} (h : B173_2 d Q 0 σ) : B173_1 d Q σ := ut (m := M173) rfl h
theorem b173_2 {d : Nat} {Q : dR → dS → Prop} {s0 : Int} {σ : dS} (h : (s0 = 0 ∨ s0 = 1) ∧ Q (.inl (some (.inl s0))) σ) : B173_2 d Q s0 σ := ut (m := M173) rfl h
theorem c173 {d : Nat} {Q : dR → dS → Prop} {K : Int → dS → Prop} {σ : dS} (h : B173_0 d (fun res σ1 => match res with | .inl (some (.inl v)) => K v σ1 | .inl _ => False | .inr e => Q (.inr e) σ1) σ) : wI (d + 2) 173 [.inr (.inr 153)] σ Q K := ut0 rfl (Nat.le_of_ble_eq_true rfl) h
/-- WingTramsModel.isSign(I)Z, 174 -/
def M174 (lb : Nat) : List Bool := [[true, true], [false, false], [false, false]].getD lb []
def B174_0 (d : Nat) (Q : dR → dS → Prop) (x1 : Int) (σ : dS) : Prop := UT d 174 Q 0 (0, 0) [some (.inr (.inr 153)), some (.inl x1)] [] σ
def B174_1 (d : Nat) (Q : dR → dS → Prop) (σ : dS) : Prop := UT d 174 Q 1 (0, 0) [none, none] [] σ
def B174_2 (d : Nat) (Q : dR → dS → Prop) (s0 : Int) (σ : dS) : Prop := UT d 174 Q 2 (0, 0) [none, none] [.inl s0] σ
theorem b174_0 {d : Nat} {Q : dR → dS → Prop} {x1 : Int} {σ : dS} (h : (((σ 153 21) ≠ (3 : Int)) → B174_1 d Q σ) ∧ (¬ ((σ 153 21) ≠ (3 : Int)) → (((σ 153 25) ≠ x1) → B174_1 d Q σ) ∧ (¬ ((σ 153 25) ≠ x1) → B174_2 d Q 1 σ))) : B174_0 d Q x1 σ := ut (m := M174) rfl h
theorem b174_1 {d : Nat} {Q : dR → dS → Prop} {σ : dS} (h : B174_2 d Q 0 σ) : B174_1 d Q σ := ut (m := M174) rfl h
theorem b174_2 {d : Nat} {Q : dR → dS → Prop} {s0 : Int} {σ : dS} (h : (s0 = 0 ∨ s0 = 1) ∧ Q (.inl (some (.inl s0))) σ) : B174_2 d Q s0 σ := ut (m := M174) rfl h
theorem c174 {d : Nat} {Q : dR → dS → Prop} {K : Int → dS → Prop} {x1 : Int} {σ : dS} (h : B174_0 d (fun res σ1 => match res with | .inl (some (.inl v)) => K v σ1 | .inl _ => False | .inr e => Q (.inr e) σ1) x1 σ) : wI (d + 2) 174 [.inr (.inr 153), .inl x1] σ Q K := ut0 rfl (Nat.le_of_ble_eq_true rfl) h
/-- WingTramsModel.need(Z)V, 175 -/
def M175 (lb : Nat) : List Bool := [[true, true], [true, true], [true, false], [false, false]].getD lb []
def B175_0 (d : Nat) (Q : dR → dS → Prop) (x1 : Int) (σ : dS) : Prop := UT d 175 Q 0 (0, 0) [some (.inr (.inr 153)), some (.inl x1)] [] σ
def B175_1 (d : Nat) (Q : dR → dS → Prop) (x1 : Int) (σ : dS) : Prop := UT d 175 Q 1 (0, 0) [some (.inr (.inr 153)), some (.inl x1)] [] σ
def B175_2 (d : Nat) (Q : dR → dS → Prop) (σ : dS) : Prop := UT d 175 Q 2 (0, 0) [some (.inr (.inr 153)), none] [] σ
def B175_3 (d : Nat) (Q : dR → dS → Prop) (σ : dS) : Prop := UT d 175 Q 3 (0, 0) [none, none] [] σ
theorem b175_0 {d : Nat} {Q : dR → dS → Prop} {x1 : Int} {σ : dS} (h : wI (d + 1) 173 [.inr (.inr 153)] σ Q (fun v1 σ1 => ((v1 ≠ 0) → B175_1 d Q x1 σ1) ∧ (¬ (v1 ≠ 0) → Q (.inl none) σ1))) : B175_0 d Q x1 σ := ut (m := M175) rfl h
theorem b175_1 {d : Nat} {Q : dR → dS → Prop} {x1 : Int} {σ : dS} (h : ((x1 = 0) → B175_2 d Q σ) ∧ (¬ (x1 = 0) → wV (d + 1) 168 [.inr (.inr 153)] σ Q (fun σ1 => B175_3 d Q σ1))) : B175_1 d Q x1 σ := ut (m := M175) rfl h
theorem b175_2 {d : Nat} {Q : dR → dS → Prop} {σ : dS} (h : wV (d + 1) 172 [.inr (.inr 153), .inl 1] σ Q (fun σ1 => B175_3 d Q σ1)) : B175_2 d Q σ := ut (m := M175) rfl h
theorem b175_3 {d : Nat} {Q : dR → dS → Prop} {σ : dS} (h : Q (.inl none) σ) : B175_3 d Q σ := ut (m := M175) rfl h
theorem c175 {d : Nat} {Q : dR → dS → Prop} {K : dS → Prop} {x1 : Int} {σ : dS} (h : B175_0 d (fun res σ1 => match res with | .inl none => K σ1 | .inl (some _) => False | .inr e => Q (.inr e) σ1) x1 σ) : wV (d + 2) 175 [.inr (.inr 153), .inl x1] σ Q K := ut0 rfl (Nat.le_of_ble_eq_true rfl) h
/-- WingTramsModel.number(II)I, 176 -/
def M176 (lb : Nat) : List Bool := [[true, true, true, false], [true, true, true, false], [true, true, true, false], [true, false, false, false], [true, false, false, false], [false, false, false, true]].getD lb []
def B176_0 (d : Nat) (Q : dR → dS → Prop) (x1 x2 : Int) (σ : dS) : Prop := UT d 176 Q 0 (0, 0) [some (.inr (.inr 153)), some (.inl x1), some (.inl x2), none] [] σ
def B176_1 (d : Nat) (Q : dR → dS → Prop) (x1 x2 : Int) (σ : dS) : Prop := UT d 176 Q 1 (0, 0) [some (.inr (.inr 153)), some (.inl x1), some (.inl x2), none] [] σ
def B176_2 (d : Nat) (Q : dR → dS → Prop) (x1 x2 : Int) (σ : dS) : Prop := UT d 176 Q 2 (0, 0) [some (.inr (.inr 153)), some (.inl x1), some (.inl x2), none] [] σ
def B176_3 (d : Nat) (Q : dR → dS → Prop) (σ : dS) : Prop := UT d 176 Q 3 (0, 0) [some (.inr (.inr 153)), none, none, none] [] σ
def B176_4 (d : Nat) (Q : dR → dS → Prop) (σ : dS) : Prop := UT d 176 Q 4 (0, 0) [some (.inr (.inr 153)), none, none, none] [] σ
def B176_5 (d : Nat) (Q : dR → dS → Prop) (x3 : Int) (σ : dS) : Prop := UT d 176 Q 5 (0, 0) [none, none, none, some (.inl x3)] [] σ
theorem b176_0 {d : Nat} {Q : dR → dS → Prop} {x1 x2 : Int} {σ : dS} (h : wI (d + 1) 173 [.inr (.inr 153)] σ Q (fun v1 σ1 => ((v1 ≠ 0) → B176_1 d Q x1 x2 σ1) ∧ (¬ (v1 ≠ 0) → Q (.inl (some (.inl 0))) σ1))) : B176_0 d Q x1 x2 σ := ut (m := M176) rfl h
theorem b176_1 {d : Nat} {Q : dR → dS → Prop} {x1 x2 : Int} {σ : dS} (h : (((σ 153 21) = (2 : Int)) → B176_2 d Q x1 x2 σ) ∧ (¬ ((σ 153 21) = (2 : Int)) → wV (d + 1) 172 [.inr (.inr 153), .inl 1] σ Q (fun σ1 => B176_4 d Q σ1))) : B176_1 d Q x1 x2 σ := ut (m := M176) rfl h
theorem b176_2 {d : Nat} {Q : dR → dS → Prop} {x1 x2 : Int} {σ : dS} (h : (((4 : Int) < (σ 153 23)) → B176_3 d Q σ) ∧ (¬ ((4 : Int) < (σ 153 23)) → (((σ 153 24) < x1) → B176_3 d Q σ) ∧ (¬ ((σ 153 24) < x1) → (((σ 153 24) ≤ x2) → B176_4 d Q σ) ∧ (¬ ((σ 153 24) ≤ x2) → B176_3 d Q σ)))) : B176_2 d Q x1 x2 σ := ut (m := M176) rfl h
theorem b176_3 {d : Nat} {Q : dR → dS → Prop} {σ : dS} (h : wV (d + 1) 172 [.inr (.inr 153), .inl 2] σ Q (fun σ1 => B176_4 d Q σ1)) : B176_3 d Q σ := ut (m := M176) rfl h
theorem b176_4 {d : Nat} {Q : dR → dS → Prop} {σ : dS} (h : wI (d + 1) 173 [.inr (.inr 153)] σ Q (fun v1 σ1 => ((v1 = 0) → B176_5 d Q (σ 153 24) σ1) ∧ (¬ (v1 = 0) → wV (d + 1) 168 [.inr (.inr 153)] σ1 Q (fun σ2 => B176_5 d Q (σ 153 24) σ2)))) : B176_4 d Q σ := ut (m := M176) rfl h
theorem b176_5 {d : Nat} {Q : dR → dS → Prop} {x3 : Int} {σ : dS} (h : Q (.inl (some (.inl x3))) σ) : B176_5 d Q x3 σ := ut (m := M176) rfl h
theorem c176 {d : Nat} {Q : dR → dS → Prop} {K : Int → dS → Prop} {x1 x2 : Int} {σ : dS} (h : B176_0 d (fun res σ1 => match res with | .inl (some (.inl v)) => K v σ1 | .inl _ => False | .inr e => Q (.inr e) σ1) x1 x2 σ) : wI (d + 2) 176 [.inr (.inr 153), .inl x1, .inl x2] σ Q K := ut0 rfl (Nat.le_of_ble_eq_true rfl) h
/-- WingTramsModel.roofHere()I, 177 -/
def M177 (lb : Nat) : List Bool := [[true], [true], [true], [true], [true], [false], [false]].getD lb []
def B177_0 (d : Nat) (Q : dR → dS → Prop) (σ : dS) : Prop := UT d 177 Q 0 (0, 0) [some (.inr (.inr 153))] [] σ
def B177_1 (d : Nat) (Q : dR → dS → Prop) (σ : dS) : Prop := UT d 177 Q 1 (0, 0) [some (.inr (.inr 153))] [] σ
def B177_2 (d : Nat) (Q : dR → dS → Prop) (σ : dS) : Prop := UT d 177 Q 2 (0, 0) [some (.inr (.inr 153))] [] σ
def B177_3 (d : Nat) (Q : dR → dS → Prop) (σ : dS) : Prop := UT d 177 Q 3 (0, 0) [some (.inr (.inr 153))] [] σ
def B177_4 (d : Nat) (Q : dR → dS → Prop) (σ : dS) : Prop := UT d 177 Q 4 (0, 0) [some (.inr (.inr 153))] [] σ
def B177_5 (d : Nat) (Q : dR → dS → Prop) (σ : dS) : Prop := UT d 177 Q 5 (0, 0) [none] [] σ
def B177_6 (d : Nat) (Q : dR → dS → Prop) (s0 : Int) (σ : dS) : Prop := UT d 177 Q 6 (0, 0) [none] [.inl s0] σ
theorem b177_0 {d : Nat} {Q : dR → dS → Prop} {σ : dS} (h : wI (d + 1) 173 [.inr (.inr 153)] σ Q (fun v1 σ1 => ((v1 ≠ 0) → B177_1 d Q σ1) ∧ (¬ (v1 ≠ 0) → Q (.inl (some (.inl 0))) σ1))) : B177_0 d Q σ := ut (m := M177) rfl h
theorem b177_1 {d : Nat} {Q : dR → dS → Prop} {σ : dS} (h : (((σ 153 21) = (2 : Int)) → B177_2 d Q σ) ∧ (¬ ((σ 153 21) = (2 : Int)) → wV (d + 1) 172 [.inr (.inr 153), .inl 1] σ Q (fun σ1 => B177_4 d Q σ1))) : B177_1 d Q σ := ut (m := M177) rfl h
theorem b177_2 {d : Nat} {Q : dR → dS → Prop} {σ : dS} (h : (((σ 153 23) ≤ (4 : Int)) → B177_3 d Q σ) ∧ (¬ ((σ 153 23) ≤ (4 : Int)) → wV (d + 1) 172 [.inr (.inr 153), .inl 2] σ Q (fun σ1 => B177_4 d Q σ1))) : B177_2 d Q σ := ut (m := M177) rfl h
theorem b177_3 {d : Nat} {Q : dR → dS → Prop} {σ : dS} (h : (((σ 153 24) < (σ 153 27)) → B177_4 d Q σ) ∧ (¬ ((σ 153 24) < (σ 153 27)) → wV (d + 1) 172 [.inr (.inr 153), .inl 3] σ Q (fun σ1 => B177_4 d Q σ1))) : B177_3 d Q σ := ut (m := M177) rfl h
theorem b177_4 {d : Nat} {Q : dR → dS → Prop} {σ : dS} (h : wI (d + 1) 173 [.inr (.inr 153)] σ Q (fun v1 σ1 => ((v1 = 0) → B177_5 d Q σ1) ∧ (¬ (v1 = 0) → B177_6 d Q (σ1 153 24) σ1))) : B177_4 d Q σ := ut (m := M177) rfl h
theorem b177_5 {d : Nat} {Q : dR → dS → Prop} {σ : dS} (h : B177_6 d Q 0 σ) : B177_5 d Q σ := ut (m := M177) rfl h
theorem b177_6 {d : Nat} {Q : dR → dS → Prop} {s0 : Int} {σ : dS} (h : Q (.inl (some (.inl s0))) σ) : B177_6 d Q s0 σ := ut (m := M177) rfl h
theorem c177 {d : Nat} {Q : dR → dS → Prop} {K : Int → dS → Prop} {σ : dS} (h : B177_0 d (fun res σ1 => match res with | .inl (some (.inl v)) => K v σ1 | .inl _ => False | .inr e => Q (.inr e) σ1) σ) : wI (d + 2) 177 [.inr (.inr 153)] σ Q K := ut0 rfl (Nat.le_of_ble_eq_true rfl) h
/-- WingTramsModel.roofNext()I, 178 -/
def M178 (lb : Nat) : List Bool := [[true, false], [false, true]].getD lb []
def B178_0 (d : Nat) (Q : dR → dS → Prop) (σ : dS) : Prop := UT d 178 Q 0 (0, 0) [some (.inr (.inr 153)), none] [] σ
def B178_1 (d : Nat) (Q : dR → dS → Prop) (x1 : Int) (σ : dS) : Prop := UT d 178 Q 1 (0, 0) [none, some (.inl x1)] [] σ
theorem b178_0 {d : Nat} {Q : dR → dS → Prop} {σ : dS} (h : wI (d + 1) 177 [.inr (.inr 153)] σ Q (fun v1 σ1 => wI (d + 1) 173 [.inr (.inr 153)] σ1 Q (fun v2 σ2 => ((v2 = 0) → B178_1 d Q v1 σ2) ∧ (¬ (v2 = 0) → wV (d + 1) 168 [.inr (.inr 153)] σ2 Q (fun σ3 => B178_1 d Q v1 σ3))))) : B178_0 d Q σ := ut (m := M178) rfl h
theorem b178_1 {d : Nat} {Q : dR → dS → Prop} {x1 : Int} {σ : dS} (h : Q (.inl (some (.inl x1))) σ) : B178_1 d Q x1 σ := ut (m := M178) rfl h
theorem c178 {d : Nat} {Q : dR → dS → Prop} {K : Int → dS → Prop} {σ : dS} (h : B178_0 d (fun res σ1 => match res with | .inl (some (.inl v)) => K v σ1 | .inl _ => False | .inr e => Q (.inr e) σ1) σ) : wI (d + 2) 178 [.inr (.inr 153)] σ Q K := ut0 rfl (Nat.le_of_ble_eq_true rfl) h
/-- WingTramsModel.puts(I)V, 179 -/
def M179 (lb : Nat) : List Bool := [[true, true]].getD lb []
def B179_0 (d : Nat) (Q : dR → dS → Prop) (x1 : Int) (σ : dS) : Prop := UT d 179 Q 0 (0, 0) [some (.inr (.inr 153)), some (.inl x1)] [] σ
theorem b179_0 {d : Nat} {Q : dR → dS → Prop} {x1 : Int} {σ : dS} (h : (0 ≤ (σ 153 33)) ∧ ((σ 153 33) < 2800) ∧ (∀ σ1 : dS, σ1 = up σ 171 (σ 153 33) x1 → (∀ σ2 : dS, σ2 = up σ1 153 33 (wr ((σ1 153 33) + 1)) → (Q (.inl none) σ2)))) : B179_0 d Q x1 σ := ut (m := M179) rfl h
theorem c179 {d : Nat} {Q : dR → dS → Prop} {K : dS → Prop} {x1 : Int} {σ : dS} (h : B179_0 d (fun res σ1 => match res with | .inl none => K σ1 | .inl (some _) => False | .inr e => Q (.inr e) σ1) x1 σ) : wV (d + 2) 179 [.inr (.inr 153), .inl x1] σ Q K := ut0 rfl (Nat.le_of_ble_eq_true rfl) h
/-- WingTramsModel.isOpen(I)Z, 180 -/
def M180 (lb : Nat) : List Bool := [[true], [false], [false]].getD lb []
def B180_0 (d : Nat) (Q : dR → dS → Prop) (x0 : Int) (σ : dS) : Prop := UT d 180 Q 0 (0, 0) [some (.inl x0)] [] σ
def B180_1 (d : Nat) (Q : dR → dS → Prop) (σ : dS) : Prop := UT d 180 Q 1 (0, 0) [none] [] σ
def B180_2 (d : Nat) (Q : dR → dS → Prop) (s0 : Int) (σ : dS) : Prop := UT d 180 Q 2 (0, 0) [none] [.inl s0] σ
theorem b180_0 {d : Nat} {Q : dR → dS → Prop} {x0 : Int} {σ : dS} (h : ((x0 < (14 : Int)) → B180_1 d Q σ) ∧ (¬ (x0 < (14 : Int)) → B180_2 d Q 1 σ)) : B180_0 d Q x0 σ := ut (m := M180) rfl h
theorem b180_1 {d : Nat} {Q : dR → dS → Prop} {σ : dS} (h : B180_2 d Q 0 σ) : B180_1 d Q σ := ut (m := M180) rfl h
theorem b180_2 {d : Nat} {Q : dR → dS → Prop} {s0 : Int} {σ : dS} (h : (s0 = 0 ∨ s0 = 1) ∧ Q (.inl (some (.inl s0))) σ) : B180_2 d Q s0 σ := ut (m := M180) rfl h
theorem c180 {d : Nat} {Q : dR → dS → Prop} {K : Int → dS → Prop} {x0 : Int} {σ : dS} (h : B180_0 d (fun res σ1 => match res with | .inl (some (.inl v)) => K v σ1 | .inl _ => False | .inr e => Q (.inr e) σ1) x0 σ) : wI (d + 2) 180 [.inl x0] σ Q K := ut0 rfl (Nat.le_of_ble_eq_true rfl) h
/-- WingTramsModel.strength(I)I, 181 -/
def M181 (lb : Nat) : List Bool := [[true], [true], [true], [true], [false], [true], [false], [false], [false]].getD lb []
def B181_0 (d : Nat) (Q : dR → dS → Prop) (x0 : Int) (σ : dS) : Prop := UT d 181 Q 0 (0, 0) [some (.inl x0)] [] σ
def B181_1 (d : Nat) (Q : dR → dS → Prop) (x0 : Int) (σ : dS) : Prop := UT d 181 Q 1 (0, 0) [some (.inl x0)] [] σ
def B181_2 (d : Nat) (Q : dR → dS → Prop) (x0 : Int) (σ : dS) : Prop := UT d 181 Q 2 (0, 0) [some (.inl x0)] [] σ
def B181_3 (d : Nat) (Q : dR → dS → Prop) (x0 : Int) (σ : dS) : Prop := UT d 181 Q 3 (0, 0) [some (.inl x0)] [] σ
def B181_4 (d : Nat) (Q : dR → dS → Prop) (σ : dS) : Prop := UT d 181 Q 4 (0, 0) [none] [] σ
def B181_5 (d : Nat) (Q : dR → dS → Prop) (x0 : Int) (σ : dS) : Prop := UT d 181 Q 5 (0, 0) [some (.inl x0)] [] σ
def B181_6 (d : Nat) (Q : dR → dS → Prop) (σ : dS) : Prop := UT d 181 Q 6 (0, 0) [none] [] σ
def B181_7 (d : Nat) (Q : dR → dS → Prop) (σ : dS) : Prop := UT d 181 Q 7 (0, 0) [none] [] σ
def B181_8 (d : Nat) (Q : dR → dS → Prop) (s0 : Int) (σ : dS) : Prop := UT d 181 Q 8 (0, 0) [none] [.inl s0] σ
theorem b181_0 {d : Nat} {Q : dR → dS → Prop} {x0 : Int} {σ : dS} (h : ((x0 ≠ (5 : Int)) → B181_1 d Q x0 σ) ∧ (¬ (x0 ≠ (5 : Int)) → B181_8 d Q 1 σ)) : B181_0 d Q x0 σ := ut (m := M181) rfl h
theorem b181_1 {d : Nat} {Q : dR → dS → Prop} {x0 : Int} {σ : dS} (h : ((x0 ≠ (4 : Int)) → B181_2 d Q x0 σ) ∧ (¬ (x0 ≠ (4 : Int)) → B181_8 d Q 2 σ)) : B181_1 d Q x0 σ := ut (m := M181) rfl h
theorem b181_2 {d : Nat} {Q : dR → dS → Prop} {x0 : Int} {σ : dS} (h : ((x0 ≠ (3 : Int)) → B181_3 d Q x0 σ) ∧ (¬ (x0 ≠ (3 : Int)) → B181_8 d Q 3 σ)) : B181_2 d Q x0 σ := ut (m := M181) rfl h
theorem b181_3 {d : Nat} {Q : dR → dS → Prop} {x0 : Int} {σ : dS} (h : ((x0 = (6 : Int)) → B181_4 d Q σ) ∧ (¬ (x0 = (6 : Int)) → ((x0 ≠ (7 : Int)) → B181_5 d Q x0 σ) ∧ (¬ (x0 ≠ (7 : Int)) → B181_4 d Q σ))) : B181_3 d Q x0 σ := ut (m := M181) rfl h
theorem b181_4 {d : Nat} {Q : dR → dS → Prop} {σ : dS} (h : B181_8 d Q 4 σ) : B181_4 d Q σ := ut (m := M181) rfl h
theorem b181_5 {d : Nat} {Q : dR → dS → Prop} {x0 : Int} {σ : dS} (h : ((x0 = (8 : Int)) → B181_6 d Q σ) ∧ (¬ (x0 = (8 : Int)) → ((x0 ≠ (9 : Int)) → B181_7 d Q σ) ∧ (¬ (x0 ≠ (9 : Int)) → B181_6 d Q σ))) : B181_5 d Q x0 σ := ut (m := M181) rfl h
theorem b181_6 {d : Nat} {Q : dR → dS → Prop} {σ : dS} (h : B181_8 d Q 5 σ) : B181_6 d Q σ := ut (m := M181) rfl h
theorem b181_7 {d : Nat} {Q : dR → dS → Prop} {σ : dS} (h : B181_8 d Q 6 σ) : B181_7 d Q σ := ut (m := M181) rfl h
theorem b181_8 {d : Nat} {Q : dR → dS → Prop} {s0 : Int} {σ : dS} (h : Q (.inl (some (.inl s0))) σ) : B181_8 d Q s0 σ := ut (m := M181) rfl h
theorem c181 {d : Nat} {Q : dR → dS → Prop} {K : Int → dS → Prop} {x0 : Int} {σ : dS} (h : B181_0 d (fun res σ1 => match res with | .inl (some (.inl v)) => K v σ1 | .inl _ => False | .inr e => Q (.inr e) σ1) x0 σ) : wI (d + 2) 181 [.inl x0] σ Q K := ut0 rfl (Nat.le_of_ble_eq_true rfl) h
/-- WingTramsModel.drops(I)V, 182 -/
def M182 (lb : Nat) : List Bool := [[true, true], [false, false]].getD lb []
def B182_0 (d : Nat) (Q : dR → dS → Prop) (x1 : Int) (σ : dS) : Prop := UT d 182 Q 0 (0, 0) [some (.inr (.inr 153)), some (.inl x1)] [] σ
def B182_1 (d : Nat) (Q : dR → dS → Prop) (σ : dS) : Prop := UT d 182 Q 1 (0, 0) [none, none] [] σ
set_option maxRecDepth 20000 in
theorem b182_0 {d : Nat} {Q : dR → dS → Prop} {x1 : Int} {σ : dS} (h : (((σ 153 34) ≤ 0) → B182_1 d Q σ) ∧ (¬ ((σ 153 34) ≤ 0) → (0 ≤ (wr ((σ 153 34) - 1))) ∧ ((wr ((σ 153 34) - 1)) < 950) ∧ (wI (d + 1) 180 [.inl (σ 172 (wr ((σ 153 34) - 1)))] σ Q (fun v1 σ1 => ((v1 ≠ 0) → B182_1 d Q σ1) ∧ (¬ (v1 ≠ 0) → (0 ≤ (wr ((σ1 153 34) - 1))) ∧ ((wr ((σ1 153 34) - 1)) < 950) ∧ (wI (d + 1) 181 [.inl (σ1 172 (wr ((σ1 153 34) - 1)))] σ1 Q (fun v2 σ2 => ((v2 < x1) → B182_1 d Q σ2) ∧ (¬ (v2 < x1) → ∀ σ3 : dS, σ3 = up σ2 153 34 (wr ((σ2 153 34) - 1)) → ((0 ≤ (σ3 153 34)) ∧ ((σ3 153 34) < 950) ∧ (wV (d + 1) 179 [.inr (.inr 153), .inl (σ3 172 (σ3 153 34))] σ3 Q (fun σ4 => B182_0 d Q x1 σ4))))))))))) : B182_0 d Q x1 σ := ut (m := M182) rfl h
theorem b182_1 {d : Nat} {Q : dR → dS → Prop} {σ : dS} (h : Q (.inl none) σ) : B182_1 d Q σ := ut (m := M182) rfl h
theorem c182 {d : Nat} {Q : dR → dS → Prop} {K : dS → Prop} {x1 : Int} {σ : dS} (h : B182_0 d (fun res σ1 => match res with | .inl none => K σ1 | .inl (some _) => False | .inr e => Q (.inr e) σ1) x1 σ) : wV (d + 2) 182 [.inr (.inr 153), .inl x1] σ Q K := ut0 rfl (Nat.le_of_ble_eq_true rfl) h
/-- WingTramsModel.waitsFor(I)V, 183 -/
def M183 (lb : Nat) : List Bool := [[true, true]].getD lb []
def B183_0 (d : Nat) (Q : dR → dS → Prop) (x1 : Int) (σ : dS) : Prop := UT d 183 Q 0 (0, 0) [some (.inr (.inr 153)), some (.inl x1)] [] σ
theorem b183_0 {d : Nat} {Q : dR → dS → Prop} {x1 : Int} {σ : dS} (h : (0 ≤ (σ 153 34)) ∧ ((σ 153 34) < 950) ∧ (∀ σ1 : dS, σ1 = up σ 172 (σ 153 34) x1 → (∀ σ2 : dS, σ2 = up σ1 153 34 (wr ((σ1 153 34) + 1)) → (Q (.inl none) σ2)))) : B183_0 d Q x1 σ := ut (m := M183) rfl h
theorem c183 {d : Nat} {Q : dR → dS → Prop} {K : dS → Prop} {x1 : Int} {σ : dS} (h : B183_0 d (fun res σ1 => match res with | .inl none => K σ1 | .inl (some _) => False | .inr e => Q (.inr e) σ1) x1 σ) : wV (d + 2) 183 [.inr (.inr 153), .inl x1] σ Q K := ut0 rfl (Nat.le_of_ble_eq_true rfl) h
/-- WingTramsModel.part()V, 184 -/
def M184 (lb : Nat) : List Bool := [[true, false], [true, false], [true, false], [true, false], [true, true], [true, true], [true, false], [true, false], [false, false]].getD lb []
def B184_0 (d : Nat) (Q : dR → dS → Prop) (σ : dS) : Prop := UT d 184 Q 0 (0, 0) [some (.inr (.inr 153)), none] [] σ
def B184_1 (d : Nat) (Q : dR → dS → Prop) (σ : dS) : Prop := UT d 184 Q 1 (0, 0) [some (.inr (.inr 153)), none] [] σ
def B184_2 (d : Nat) (Q : dR → dS → Prop) (σ : dS) : Prop := UT d 184 Q 2 (0, 0) [some (.inr (.inr 153)), none] [] σ
def B184_3 (d : Nat) (Q : dR → dS → Prop) (σ : dS) : Prop := UT d 184 Q 3 (0, 0) [some (.inr (.inr 153)), none] [] σ
def B184_4 (d : Nat) (Q : dR → dS → Prop) (x1 : Int) (σ : dS) : Prop := UT d 184 Q 4 (0, 0) [some (.inr (.inr 153)), some (.inl x1)] [] σ
def B184_5 (d : Nat) (Q : dR → dS → Prop) (x1 : Int) (σ : dS) : Prop := UT d 184 Q 5 (0, 0) [some (.inr (.inr 153)), some (.inl x1)] [] σ
def B184_6 (d : Nat) (Q : dR → dS → Prop) (σ : dS) : Prop := UT d 184 Q 6 (0, 0) [some (.inr (.inr 153)), none] [] σ
def B184_7 (d : Nat) (Q : dR → dS → Prop) (σ : dS) : Prop := UT d 184 Q 7 (0, 0) [some (.inr (.inr 153)), none] [] σ
def B184_8 (d : Nat) (Q : dR → dS → Prop) (σ : dS) : Prop := UT d 184 Q 8 (0, 0) [none, none] [] σ
theorem b184_0 {d : Nat} {Q : dR → dS → Prop} {σ : dS} (h : wI (d + 1) 173 [.inr (.inr 153)] σ Q (fun v1 σ1 => ((v1 ≠ 0) → B184_1 d Q σ1) ∧ (¬ (v1 ≠ 0) → Q (.inl none) σ1))) : B184_0 d Q σ := ut (m := M184) rfl h
theorem b184_1 {d : Nat} {Q : dR → dS → Prop} {σ : dS} (h : (((σ 153 21) ≠ (2 : Int)) → B184_3 d Q σ) ∧ (¬ ((σ 153 21) ≠ (2 : Int)) → (((σ 153 23) ≤ (4 : Int)) → B184_2 d Q σ) ∧ (¬ ((σ 153 23) ≤ (4 : Int)) → wV (d + 1) 172 [.inr (.inr 153), .inl 2] σ Q (fun σ1 => B184_2 d Q σ1)))) : B184_1 d Q σ := ut (m := M184) rfl h
theorem b184_2 {d : Nat} {Q : dR → dS → Prop} {σ : dS} (h : wV (d + 1) 179 [.inr (.inr 153), .inl 1] σ Q (fun σ1 => wV (d + 1) 179 [.inr (.inr 153), .inl (σ1 153 24)] σ1 Q (fun σ2 => B184_7 d Q σ2))) : B184_2 d Q σ := ut (m := M184) rfl h
theorem b184_3 {d : Nat} {Q : dR → dS → Prop} {σ : dS} (h : (((σ 153 21) ≠ (1 : Int)) → B184_6 d Q σ) ∧ (¬ ((σ 153 21) ≠ (1 : Int)) → wI (d + 1) 171 [.inr (.inr 153)] σ Q (fun v1 σ1 => ((v1 < 0) → B184_4 d Q v1 σ1) ∧ (¬ (v1 < 0) → ((v1 ≤ (6 : Int)) → B184_5 d Q v1 σ1) ∧ (¬ (v1 ≤ (6 : Int)) → B184_4 d Q v1 σ1))))) : B184_3 d Q σ := ut (m := M184) rfl h
theorem b184_4 {d : Nat} {Q : dR → dS → Prop} {x1 : Int} {σ : dS} (h : wV (d + 1) 172 [.inr (.inr 153), .inl 3] σ Q (fun σ1 => B184_5 d Q x1 σ1)) : B184_4 d Q x1 σ := ut (m := M184) rfl h
theorem b184_5 {d : Nat} {Q : dR → dS → Prop} {x1 : Int} {σ : dS} (h : wV (d + 1) 179 [.inr (.inr 153), .inl 2] σ Q (fun σ1 => wV (d + 1) 179 [.inr (.inr 153), .inl x1] σ1 Q (fun σ2 => B184_7 d Q σ2))) : B184_5 d Q x1 σ := ut (m := M184) rfl h
theorem b184_6 {d : Nat} {Q : dR → dS → Prop} {σ : dS} (h : wV (d + 1) 172 [.inr (.inr 153), .inl 1] σ Q (fun σ1 => B184_7 d Q σ1)) : B184_6 d Q σ := ut (m := M184) rfl h
theorem b184_7 {d : Nat} {Q : dR → dS → Prop} {σ : dS} (h : wI (d + 1) 173 [.inr (.inr 153)] σ Q (fun v1 σ1 => ((v1 = 0) → B184_8 d Q σ1) ∧ (¬ (v1 = 0) → wV (d + 1) 168 [.inr (.inr 153)] σ1 Q (fun σ2 => B184_8 d Q σ2)))) : B184_7 d Q σ := ut (m := M184) rfl h
theorem b184_8 {d : Nat} {Q : dR → dS → Prop} {σ : dS} (h : Q (.inl none) σ) : B184_8 d Q σ := ut (m := M184) rfl h
theorem c184 {d : Nat} {Q : dR → dS → Prop} {K : dS → Prop} {σ : dS} (h : B184_0 d (fun res σ1 => match res with | .inl none => K σ1 | .inl (some _) => False | .inr e => Q (.inr e) σ1) σ) : wV (d + 2) 184 [.inr (.inr 153)] σ Q K := ut0 rfl (Nat.le_of_ble_eq_true rfl) h
/-- WingTramsModel.deeper()V, 185 -/
def M185 (lb : Nat) : List Bool := [[true], [true], [false], [false], [false]].getD lb []
def B185_0 (d : Nat) (Q : dR → dS → Prop) (σ : dS) : Prop := UT d 185 Q 0 (0, 0) [some (.inr (.inr 153))] [] σ
def B185_1 (d : Nat) (Q : dR → dS → Prop) (σ : dS) : Prop := UT d 185 Q 1 (0, 0) [some (.inr (.inr 153))] [] σ
def B185_2 (d : Nat) (Q : dR → dS → Prop) (σ : dS) : Prop := UT d 185 Q 2 (0, 0) [none] [.inr (.inr 153)] σ
def B185_3 (d : Nat) (Q : dR → dS → Prop) (σ : dS) : Prop := UT d 185 Q 3 (0, 0) [none] [.inr (.inr 153)] σ
def B185_4 (d : Nat) (Q : dR → dS → Prop) (s0 : Int) (σ : dS) : Prop := UT d 185 Q 4 (0, 0) [none] [.inl s0, .inr (.inr 153)] σ
theorem b185_0 {d : Nat} {Q : dR → dS → Prop} {σ : dS} (h : (((6 : Int) ≤ (σ 153 35)) → B185_1 d Q σ) ∧ (¬ ((6 : Int) ≤ (σ 153 35)) → ∀ σ1 : dS, σ1 = up σ 153 35 (wr ((σ 153 35) + 1)) → ((0 ≤ (σ1 153 35)) ∧ ((σ1 153 35) < 9) ∧ (((0 : Int) = 0 ∨ (0 : Int) = 1) ∧ (∀ σ2 : dS, σ2 = up σ1 173 (σ1 153 35) 0 → (Q (.inl none) σ2)))))) : B185_0 d Q σ := ut (m := M185) rfl h
theorem b185_1 {d : Nat} {Q : dR → dS → Prop} {σ : dS} (h : (((σ 153 21) = (2 : Int)) → B185_2 d Q σ) ∧ (¬ ((σ 153 21) = (2 : Int)) → (((σ 153 21) = (1 : Int)) → B185_2 d Q σ) ∧ (¬ ((σ 153 21) = (1 : Int)) → wI (d + 1) 174 [.inr (.inr 153), .inl 40] σ Q (fun v1 σ1 => ((v1 = 0) → B185_3 d Q σ1) ∧ (¬ (v1 = 0) → B185_2 d Q σ1))))) : B185_1 d Q σ := ut (m := M185) rfl h
theorem b185_2 {d : Nat} {Q : dR → dS → Prop} {σ : dS} (h : B185_4 d Q 2 σ) : B185_2 d Q σ := ut (m := M185) rfl h
theorem b185_3 {d : Nat} {Q : dR → dS → Prop} {σ : dS} (h : B185_4 d Q 1 σ) : B185_3 d Q σ := ut (m := M185) rfl h
theorem b185_4 {d : Nat} {Q : dR → dS → Prop} {s0 : Int} {σ : dS} (h : wV (d + 1) 172 [.inr (.inr 153), .inl s0] σ Q (fun σ1 => Q (.inl none) σ1)) : B185_4 d Q s0 σ := ut (m := M185) rfl h
theorem c185 {d : Nat} {Q : dR → dS → Prop} {K : dS → Prop} {σ : dS} (h : B185_0 d (fun res σ1 => match res with | .inl none => K σ1 | .inl (some _) => False | .inr e => Q (.inr e) σ1) σ) : wV (d + 2) 185 [.inr (.inr 153)] σ Q K := ut0 rfl (Nat.le_of_ble_eq_true rfl) h
/-- WingTramsModel.operand(Z)V, 186 -/
def M186 (lb : Nat) : List Bool := [[true, true, false, false, false], [true, false, true, true, false], [true, false, true, false, true], [true, false, true, false, true], [true, false, true, false, true], [true, false, true, false, false], [true, false, true, false, false], [true, false, true, false, false], [true, false, true, true, false], [true, false, false, false, false]].getD lb []
def B186_0 (d : Nat) (Q : dR → dS → Prop) (x1 : Int) (σ : dS) : Prop := UT d 186 Q 0 (0, 0) [some (.inr (.inr 153)), some (.inl x1), none, none, none] [] σ
def B186_1 (d : Nat) (Q : dR → dS → Prop) (x2 x3 : Int) (σ : dS) : Prop := UT d 186 Q 1 (0, 0) [some (.inr (.inr 153)), none, some (.inl x2), some (.inl x3), none] [] σ
def B186_2 (d : Nat) (Q : dR → dS → Prop) (x2 x4 : Int) (σ : dS) : Prop := UT d 186 Q 2 (0, 0) [some (.inr (.inr 153)), none, some (.inl x2), none, some (.inl x4)] [] σ
def B186_3 (d : Nat) (Q : dR → dS → Prop) (x2 x4 : Int) (σ : dS) : Prop := UT d 186 Q 3 (0, 0) [some (.inr (.inr 153)), none, some (.inl x2), none, some (.inl x4)] [] σ
def B186_4 (d : Nat) (Q : dR → dS → Prop) (x2 x4 : Int) (σ : dS) : Prop := UT d 186 Q 4 (0, 0) [some (.inr (.inr 153)), none, some (.inl x2), none, some (.inl x4)] [] σ
def B186_5 (d : Nat) (Q : dR → dS → Prop) (x2 : Int) (σ : dS) : Prop := UT d 186 Q 5 (0, 0) [some (.inr (.inr 153)), none, some (.inl x2), none, none] [] σ
def B186_6 (d : Nat) (Q : dR → dS → Prop) (x2 : Int) (σ : dS) : Prop := UT d 186 Q 6 (0, 0) [some (.inr (.inr 153)), none, some (.inl x2), none, none] [] σ
def B186_7 (d : Nat) (Q : dR → dS → Prop) (x2 s0 : Int) (σ : dS) : Prop := UT d 186 Q 7 (0, 0) [some (.inr (.inr 153)), none, some (.inl x2), none, none] [.inl s0] σ
def B186_8 (d : Nat) (Q : dR → dS → Prop) (x2 x3 : Int) (σ : dS) : Prop := UT d 186 Q 8 (0, 0) [some (.inr (.inr 153)), none, some (.inl x2), some (.inl x3), none] [] σ
def B186_9 (d : Nat) (Q : dR → dS → Prop) (σ : dS) : Prop := UT d 186 Q 9 (0, 0) [some (.inr (.inr 153)), none, none, none, none] [] σ
theorem b186_0 {d : Nat} {Q : dR → dS → Prop} {x1 : Int} {σ : dS} (h : B186_1 d Q x1 1 σ) : B186_0 d Q x1 σ := ut (m := M186) rfl h
theorem b186_1 {d : Nat} {Q : dR → dS → Prop} {x2 x3 : Int} {σ : dS} (h : ((x3 = 0) → B186_9 d Q σ) ∧ (¬ (x3 = 0) → wI (d + 1) 173 [.inr (.inr 153)] σ Q (fun v1 σ1 => ((v1 = 0) → B186_9 d Q σ1) ∧ (¬ (v1 = 0) → B186_2 d Q x2 0 σ1)))) : B186_1 d Q x2 x3 σ := ut (m := M186) rfl h
theorem b186_2 {d : Nat} {Q : dR → dS → Prop} {x2 x4 : Int} {σ : dS} (h : wI (d + 1) 173 [.inr (.inr 153)] σ Q (fun v1 σ1 => ((v1 = 0) → B186_5 d Q x2 σ1) ∧ (¬ (v1 = 0) → ((x2 = 0) → B186_5 d Q x2 σ1) ∧ (¬ (x2 = 0) → wI (d + 1) 171 [.inr (.inr 153)] σ1 Q (fun v2 σ2 => ((v2 ≠ (17 : Int)) → B186_5 d Q x2 σ2) ∧ (¬ (v2 ≠ (17 : Int)) → ((x4 ≠ (6 : Int)) → B186_3 d Q x2 x4 σ2) ∧ (¬ (x4 ≠ (6 : Int)) → wV (d + 1) 172 [.inr (.inr 153), .inl 2] σ2 Q (fun σ3 => B186_3 d Q x2 x4 σ3)))))))) : B186_2 d Q x2 x4 σ := ut (m := M186) rfl h
theorem b186_3 {d : Nat} {Q : dR → dS → Prop} {x2 x4 : Int} {σ : dS} (h : wI (d + 1) 173 [.inr (.inr 153)] σ Q (fun v1 σ1 => ((v1 ≠ 0) → B186_4 d Q x2 (wr (x4 + 1)) σ1) ∧ (¬ (v1 ≠ 0) → B186_2 d Q x2 (wr (x4 + 1)) σ1))) : B186_3 d Q x2 x4 σ := ut (m := M186) rfl h
theorem b186_4 {d : Nat} {Q : dR → dS → Prop} {x2 x4 : Int} {σ : dS} (h : wV (d + 1) 183 [.inr (.inr 153), .inl 3] σ Q (fun σ1 => wV (d + 1) 168 [.inr (.inr 153)] σ1 Q (fun σ2 => B186_2 d Q x2 x4 σ2))) : B186_4 d Q x2 x4 σ := ut (m := M186) rfl h
theorem b186_5 {d : Nat} {Q : dR → dS → Prop} {x2 : Int} {σ : dS} (h : wI (d + 1) 173 [.inr (.inr 153)] σ Q (fun v1 σ1 => ((v1 = 0) → B186_6 d Q x2 σ1) ∧ (¬ (v1 = 0) → wI (d + 1) 174 [.inr (.inr 153), .inl 40] σ1 Q (fun v2 σ2 => ((v2 = 0) → B186_6 d Q x2 σ2) ∧ (¬ (v2 = 0) → B186_7 d Q x2 1 σ2))))) : B186_5 d Q x2 σ := ut (m := M186) rfl h
theorem b186_6 {d : Nat} {Q : dR → dS → Prop} {x2 : Int} {σ : dS} (h : B186_7 d Q x2 0 σ) : B186_6 d Q x2 σ := ut (m := M186) rfl h
theorem b186_7 {d : Nat} {Q : dR → dS → Prop} {x2 s0 : Int} {σ : dS} (h : ((s0 = 0) → B186_8 d Q x2 s0 σ) ∧ (¬ (s0 = 0) → wV (d + 1) 183 [.inr (.inr 153), .inl 14] σ Q (fun σ1 => wV (d + 1) 168 [.inr (.inr 153)] σ1 Q (fun σ2 => wV (d + 1) 185 [.inr (.inr 153)] σ2 Q (fun σ3 => B186_8 d Q 1 s0 σ3))))) : B186_7 d Q x2 s0 σ := ut (m := M186) rfl h
theorem b186_8 {d : Nat} {Q : dR → dS → Prop} {x2 x3 : Int} {σ : dS} (h : B186_1 d Q x2 x3 σ) : B186_8 d Q x2 x3 σ := ut (m := M186) rfl h
theorem b186_9 {d : Nat} {Q : dR → dS → Prop} {σ : dS} (h : wV (d + 1) 184 [.inr (.inr 153)] σ Q (fun σ1 => Q (.inl none) σ1)) : B186_9 d Q σ := ut (m := M186) rfl h
theorem c186 {d : Nat} {Q : dR → dS → Prop} {K : dS → Prop} {x1 : Int} {σ : dS} (h : B186_0 d (fun res σ1 => match res with | .inl none => K σ1 | .inl (some _) => False | .inr e => Q (.inr e) σ1) x1 σ) : wV (d + 2) 186 [.inr (.inr 153), .inl x1] σ Q K := ut0 rfl (Nat.le_of_ble_eq_true rfl) h
/-- WingTramsModel.isOpened()Z, 187 -/
def M187 (lb : Nat) : List Bool := [[true, false], [true, true], [false, true], [false, false], [false, false]].getD lb []
def B187_0 (d : Nat) (Q : dR → dS → Prop) (σ : dS) : Prop := UT d 187 Q 0 (0, 0) [some (.inr (.inr 153)), none] [] σ
def B187_1 (d : Nat) (Q : dR → dS → Prop) (x1 : Int) (σ : dS) : Prop := UT d 187 Q 1 (0, 0) [some (.inr (.inr 153)), some (.inl x1)] [] σ
def B187_2 (d : Nat) (Q : dR → dS → Prop) (x1 : Int) (σ : dS) : Prop := UT d 187 Q 2 (0, 0) [none, some (.inl x1)] [] σ
def B187_3 (d : Nat) (Q : dR → dS → Prop) (σ : dS) : Prop := UT d 187 Q 3 (0, 0) [none, none] [] σ
def B187_4 (d : Nat) (Q : dR → dS → Prop) (s0 : Int) (σ : dS) : Prop := UT d 187 Q 4 (0, 0) [none, none] [.inl s0] σ
theorem b187_0 {d : Nat} {Q : dR → dS → Prop} {σ : dS} (h : B187_1 d Q (wr ((σ 153 34) - 1)) σ) : B187_0 d Q σ := ut (m := M187) rfl h
theorem b187_1 {d : Nat} {Q : dR → dS → Prop} {x1 : Int} {σ : dS} (h : ((x1 < 0) → B187_2 d Q x1 σ) ∧ (¬ (x1 < 0) → (0 ≤ x1) ∧ (x1 < 950) ∧ (wI (d + 1) 180 [.inl (σ 172 x1)] σ Q (fun v1 σ1 => ((v1 ≠ 0) → B187_2 d Q x1 σ1) ∧ (¬ (v1 ≠ 0) → B187_1 d Q (wr (x1 + (-1))) σ1))))) : B187_1 d Q x1 σ := ut (m := M187) rfl h
theorem b187_2 {d : Nat} {Q : dR → dS → Prop} {x1 : Int} {σ : dS} (h : ((x1 < 0) → B187_3 d Q σ) ∧ (¬ (x1 < 0) → B187_4 d Q 1 σ)) : B187_2 d Q x1 σ := ut (m := M187) rfl h
theorem b187_3 {d : Nat} {Q : dR → dS → Prop} {σ : dS} (h : B187_4 d Q 0 σ) : B187_3 d Q σ := ut (m := M187) rfl h
theorem b187_4 {d : Nat} {Q : dR → dS → Prop} {s0 : Int} {σ : dS} (h : (s0 = 0 ∨ s0 = 1) ∧ Q (.inl (some (.inl s0))) σ) : B187_4 d Q s0 σ := ut (m := M187) rfl h
theorem c187 {d : Nat} {Q : dR → dS → Prop} {K : Int → dS → Prop} {σ : dS} (h : B187_0 d (fun res σ1 => match res with | .inl (some (.inl v)) => K v σ1 | .inl _ => False | .inr e => Q (.inr e) σ1) σ) : wI (d + 2) 187 [.inr (.inr 153)] σ Q K := ut0 rfl (Nat.le_of_ble_eq_true rfl) h
/-- WingTramsModel.closes()V, 188 -/
def M188 (lb : Nat) : List Bool := [[true]].getD lb []
def B188_0 (d : Nat) (Q : dR → dS → Prop) (σ : dS) : Prop := UT d 188 Q 0 (0, 0) [some (.inr (.inr 153))] [] σ
theorem b188_0 {d : Nat} {Q : dR → dS → Prop} {σ : dS} (h : wV (d + 1) 182 [.inr (.inr 153), .inl 0] σ Q (fun σ1 => ∀ σ2 : dS, σ2 = up σ1 153 34 (wr ((σ1 153 34) - 1)) → (∀ σ3 : dS, σ3 = up σ2 153 35 (wr ((σ2 153 35) - 1)) → (wV (d + 1) 168 [.inr (.inr 153)] σ3 Q (fun σ4 => Q (.inl none) σ4))))) : B188_0 d Q σ := ut (m := M188) rfl h
theorem c188 {d : Nat} {Q : dR → dS → Prop} {K : dS → Prop} {σ : dS} (h : B188_0 d (fun res σ1 => match res with | .inl none => K σ1 | .inl (some _) => False | .inr e => Q (.inr e) σ1) σ) : wV (d + 2) 188 [.inr (.inr 153)] σ Q K := ut0 rfl (Nat.le_of_ble_eq_true rfl) h
/-- WingTramsModel.expression()V, 189 -/
def M189 (lb : Nat) : List Bool := [[true, false, false], [true, false, false], [true, true, false], [true, true, true], [true, true, true], [true, true, true], [true, true, false], [true, true, false], [true, true, false], [true, true, false], [true, true, false], [true, true, false], [true, true, false], [true, true, false], [true, true, false], [true, true, false], [true, true, false], [true, true, false], [true, true, false], [true, true, false], [true, true, false], [true, false, false], [true, true, false], [true, false, false], [true, false, false]].getD lb []
def B189_0 (d : Nat) (Q : dR → dS → Prop) (σ : dS) : Prop := UT d 189 Q 0 (0, 0) [some (.inr (.inr 153)), none, none] [] σ
def B189_1 (d : Nat) (Q : dR → dS → Prop) (σ : dS) : Prop := UT d 189 Q 1 (0, 0) [some (.inr (.inr 153)), none, none] [] σ
def B189_2 (d : Nat) (Q : dR → dS → Prop) (x1 : Int) (σ : dS) : Prop := UT d 189 Q 2 (0, 0) [some (.inr (.inr 153)), some (.inl x1), none] [] σ
def B189_3 (d : Nat) (Q : dR → dS → Prop) (x1 x2 : Int) (σ : dS) : Prop := UT d 189 Q 3 (0, 0) [some (.inr (.inr 153)), some (.inl x1), some (.inl x2)] [] σ
def B189_4 (d : Nat) (Q : dR → dS → Prop) (x1 x2 : Int) (σ : dS) : Prop := UT d 189 Q 4 (0, 0) [some (.inr (.inr 153)), some (.inl x1), some (.inl x2)] [.inr (.inr 153)] σ
def B189_5 (d : Nat) (Q : dR → dS → Prop) (x1 x2 s0 : Int) (σ : dS) : Prop := UT d 189 Q 5 (0, 0) [some (.inr (.inr 153)), some (.inl x1), some (.inl x2)] [.inl s0, .inr (.inr 153)] σ
def B189_6 (d : Nat) (Q : dR → dS → Prop) (x1 : Int) (σ : dS) : Prop := UT d 189 Q 6 (0, 0) [some (.inr (.inr 153)), some (.inl x1), none] [.inr (.inr 153)] σ
def B189_7 (d : Nat) (Q : dR → dS → Prop) (x1 s0 : Int) (σ : dS) : Prop := UT d 189 Q 7 (0, 0) [some (.inr (.inr 153)), some (.inl x1), none] [.inl s0, .inr (.inr 153)] σ
def B189_8 (d : Nat) (Q : dR → dS → Prop) (x1 : Int) (σ : dS) : Prop := UT d 189 Q 8 (0, 0) [some (.inr (.inr 153)), some (.inl x1), none] [] σ
def B189_9 (d : Nat) (Q : dR → dS → Prop) (x1 : Int) (σ : dS) : Prop := UT d 189 Q 9 (0, 0) [some (.inr (.inr 153)), some (.inl x1), none] [] σ
def B189_10 (d : Nat) (Q : dR → dS → Prop) (x1 : Int) (σ : dS) : Prop := UT d 189 Q 10 (0, 0) [some (.inr (.inr 153)), some (.inl x1), none] [.inr (.inr 153)] σ
def B189_11 (d : Nat) (Q : dR → dS → Prop) (x1 s0 : Int) (σ : dS) : Prop := UT d 189 Q 11 (0, 0) [some (.inr (.inr 153)), some (.inl x1), none] [.inl s0, .inr (.inr 153)] σ
def B189_12 (d : Nat) (Q : dR → dS → Prop) (x1 : Int) (σ : dS) : Prop := UT d 189 Q 12 (0, 0) [some (.inr (.inr 153)), some (.inl x1), none] [] σ
def B189_13 (d : Nat) (Q : dR → dS → Prop) (x1 : Int) (σ : dS) : Prop := UT d 189 Q 13 (0, 0) [some (.inr (.inr 153)), some (.inl x1), none] [] σ
def B189_14 (d : Nat) (Q : dR → dS → Prop) (x1 : Int) (σ : dS) : Prop := UT d 189 Q 14 (0, 0) [some (.inr (.inr 153)), some (.inl x1), none] [.inr (.inr 153)] σ
def B189_15 (d : Nat) (Q : dR → dS → Prop) (x1 s0 : Int) (σ : dS) : Prop := UT d 189 Q 15 (0, 0) [some (.inr (.inr 153)), some (.inl x1), none] [.inl s0, .inr (.inr 153)] σ
def B189_16 (d : Nat) (Q : dR → dS → Prop) (x1 : Int) (σ : dS) : Prop := UT d 189 Q 16 (0, 0) [some (.inr (.inr 153)), some (.inl x1), none] [] σ
def B189_17 (d : Nat) (Q : dR → dS → Prop) (x1 : Int) (σ : dS) : Prop := UT d 189 Q 17 (0, 0) [some (.inr (.inr 153)), some (.inl x1), none] [] σ
def B189_18 (d : Nat) (Q : dR → dS → Prop) (x1 : Int) (σ : dS) : Prop := UT d 189 Q 18 (0, 0) [some (.inr (.inr 153)), some (.inl x1), none] [.inr (.inr 153)] σ
def B189_19 (d : Nat) (Q : dR → dS → Prop) (x1 s0 : Int) (σ : dS) : Prop := UT d 189 Q 19 (0, 0) [some (.inr (.inr 153)), some (.inl x1), none] [.inl s0, .inr (.inr 153)] σ
def B189_20 (d : Nat) (Q : dR → dS → Prop) (x1 : Int) (σ : dS) : Prop := UT d 189 Q 20 (0, 0) [some (.inr (.inr 153)), some (.inl x1), none] [] σ
def B189_21 (d : Nat) (Q : dR → dS → Prop) (σ : dS) : Prop := UT d 189 Q 21 (0, 0) [some (.inr (.inr 153)), none, none] [] σ
def B189_22 (d : Nat) (Q : dR → dS → Prop) (x1 : Int) (σ : dS) : Prop := UT d 189 Q 22 (0, 0) [some (.inr (.inr 153)), some (.inl x1), none] [] σ
def B189_23 (d : Nat) (Q : dR → dS → Prop) (σ : dS) : Prop := UT d 189 Q 23 (0, 0) [some (.inr (.inr 153)), none, none] [] σ
def B189_24 (d : Nat) (Q : dR → dS → Prop) (σ : dS) : Prop := UT d 189 Q 24 (0, 0) [some (.inr (.inr 153)), none, none] [] σ
theorem b189_0 {d : Nat} {Q : dR → dS → Prop} {σ : dS} (h : wI (d + 1) 173 [.inr (.inr 153)] σ Q (fun v1 σ1 => ((v1 ≠ 0) → B189_1 d Q σ1) ∧ (¬ (v1 ≠ 0) → Q (.inl none) σ1))) : B189_0 d Q σ := ut (m := M189) rfl h
theorem b189_1 {d : Nat} {Q : dR → dS → Prop} {σ : dS} (h : ∀ σ1 : dS, σ1 = up σ 153 34 0 → (∀ σ2 : dS, σ2 = up σ1 153 35 0 → (wV (d + 1) 185 [.inr (.inr 153)] σ2 Q (fun σ3 => wV (d + 1) 186 [.inr (.inr 153), .inl 1] σ3 Q (fun σ4 => B189_2 d Q 1 σ4))))) : B189_1 d Q σ := ut (m := M189) rfl h
theorem b189_2 {d : Nat} {Q : dR → dS → Prop} {x1 : Int} {σ : dS} (h : ((x1 = 0) → B189_23 d Q σ) ∧ (¬ (x1 = 0) → wI (d + 1) 173 [.inr (.inr 153)] σ Q (fun v1 σ1 => ((v1 = 0) → B189_23 d Q σ1) ∧ (¬ (v1 = 0) → wI (d + 1) 171 [.inr (.inr 153)] σ1 Q (fun v2 σ2 => ((v2 = (15 : Int)) → B189_3 d Q x1 v2 σ2) ∧ (¬ (v2 = (15 : Int)) → ((v2 ≠ (16 : Int)) → B189_8 d Q x1 σ2) ∧ (¬ (v2 ≠ (16 : Int)) → B189_3 d Q x1 v2 σ2))))))) : B189_2 d Q x1 σ := ut (m := M189) rfl h
theorem b189_3 {d : Nat} {Q : dR → dS → Prop} {x1 x2 : Int} {σ : dS} (h : ((x2 ≠ (15 : Int)) → B189_4 d Q x1 x2 σ) ∧ (¬ (x2 ≠ (15 : Int)) → B189_5 d Q x1 x2 2 σ)) : B189_3 d Q x1 x2 σ := ut (m := M189) rfl h
theorem b189_4 {d : Nat} {Q : dR → dS → Prop} {x1 x2 : Int} {σ : dS} (h : B189_5 d Q x1 x2 1 σ) : B189_4 d Q x1 x2 σ := ut (m := M189) rfl h
theorem b189_5 {d : Nat} {Q : dR → dS → Prop} {x1 x2 s0 : Int} {σ : dS} (h : wV (d + 1) 182 [.inr (.inr 153), .inl s0] σ Q (fun σ1 => ((x2 ≠ (15 : Int)) → B189_6 d Q x1 σ1) ∧ (¬ (x2 ≠ (15 : Int)) → B189_7 d Q x1 4 σ1))) : B189_5 d Q x1 x2 s0 σ := ut (m := M189) rfl h
theorem b189_6 {d : Nat} {Q : dR → dS → Prop} {x1 : Int} {σ : dS} (h : B189_7 d Q x1 5 σ) : B189_6 d Q x1 σ := ut (m := M189) rfl h
theorem b189_7 {d : Nat} {Q : dR → dS → Prop} {x1 s0 : Int} {σ : dS} (h : wV (d + 1) 183 [.inr (.inr 153), .inl s0] σ Q (fun σ1 => (0 ≤ (σ1 153 35)) ∧ ((σ1 153 35) < 9) ∧ (((0 : Int) = 0 ∨ (0 : Int) = 1) ∧ (∀ σ2 : dS, σ2 = up σ1 173 (σ1 153 35) 0 → (wV (d + 1) 168 [.inr (.inr 153)] σ2 Q (fun σ3 => wV (d + 1) 186 [.inr (.inr 153), .inl 1] σ3 Q (fun σ4 => B189_22 d Q x1 σ4))))))) : B189_7 d Q x1 s0 σ := ut (m := M189) rfl h
theorem b189_8 {d : Nat} {Q : dR → dS → Prop} {x1 : Int} {σ : dS} (h : wI (d + 1) 174 [.inr (.inr 153), .inl 60] σ Q (fun v1 σ1 => ((v1 ≠ 0) → B189_9 d Q x1 σ1) ∧ (¬ (v1 ≠ 0) → wI (d + 1) 174 [.inr (.inr 153), .inl 61] σ1 Q (fun v2 σ2 => ((v2 = 0) → B189_12 d Q x1 σ2) ∧ (¬ (v2 = 0) → B189_9 d Q x1 σ2))))) : B189_8 d Q x1 σ := ut (m := M189) rfl h
theorem b189_9 {d : Nat} {Q : dR → dS → Prop} {x1 : Int} {σ : dS} (h : (0 ≤ (σ 153 35)) ∧ ((σ 153 35) < 9) ∧ ((((σ 173 (σ 153 35)) ≠ 0) → B189_12 d Q x1 σ) ∧ (¬ ((σ 173 (σ 153 35)) ≠ 0) → wV (d + 1) 182 [.inr (.inr 153), .inl 4] σ Q (fun σ1 => wI (d + 1) 174 [.inr (.inr 153), .inl 60] σ1 Q (fun v2 σ2 => ((v2 = 0) → B189_10 d Q x1 σ2) ∧ (¬ (v2 = 0) → B189_11 d Q x1 6 σ2)))))) : B189_9 d Q x1 σ := ut (m := M189) rfl h
theorem b189_10 {d : Nat} {Q : dR → dS → Prop} {x1 : Int} {σ : dS} (h : B189_11 d Q x1 7 σ) : B189_10 d Q x1 σ := ut (m := M189) rfl h
theorem b189_11 {d : Nat} {Q : dR → dS → Prop} {x1 s0 : Int} {σ : dS} (h : wV (d + 1) 183 [.inr (.inr 153), .inl s0] σ Q (fun σ1 => (0 ≤ (σ1 153 35)) ∧ ((σ1 153 35) < 9) ∧ (((1 : Int) = 0 ∨ (1 : Int) = 1) ∧ (∀ σ2 : dS, σ2 = up σ1 173 (σ1 153 35) 1 → (wV (d + 1) 168 [.inr (.inr 153)] σ2 Q (fun σ3 => wV (d + 1) 186 [.inr (.inr 153), .inl 0] σ3 Q (fun σ4 => B189_22 d Q x1 σ4))))))) : B189_11 d Q x1 s0 σ := ut (m := M189) rfl h
theorem b189_12 {d : Nat} {Q : dR → dS → Prop} {x1 : Int} {σ : dS} (h : wI (d + 1) 174 [.inr (.inr 153), .inl 43] σ Q (fun v1 σ1 => ((v1 ≠ 0) → B189_13 d Q x1 σ1) ∧ (¬ (v1 ≠ 0) → wI (d + 1) 174 [.inr (.inr 153), .inl 45] σ1 Q (fun v2 σ2 => ((v2 = 0) → B189_16 d Q x1 σ2) ∧ (¬ (v2 = 0) → B189_13 d Q x1 σ2))))) : B189_12 d Q x1 σ := ut (m := M189) rfl h
theorem b189_13 {d : Nat} {Q : dR → dS → Prop} {x1 : Int} {σ : dS} (h : wV (d + 1) 182 [.inr (.inr 153), .inl 5] σ Q (fun σ1 => wI (d + 1) 174 [.inr (.inr 153), .inl 43] σ1 Q (fun v2 σ2 => ((v2 = 0) → B189_14 d Q x1 σ2) ∧ (¬ (v2 = 0) → B189_15 d Q x1 8 σ2)))) : B189_13 d Q x1 σ := ut (m := M189) rfl h
theorem b189_14 {d : Nat} {Q : dR → dS → Prop} {x1 : Int} {σ : dS} (h : B189_15 d Q x1 9 σ) : B189_14 d Q x1 σ := ut (m := M189) rfl h
theorem b189_15 {d : Nat} {Q : dR → dS → Prop} {x1 s0 : Int} {σ : dS} (h : wV (d + 1) 183 [.inr (.inr 153), .inl s0] σ Q (fun σ1 => wV (d + 1) 168 [.inr (.inr 153)] σ1 Q (fun σ2 => wV (d + 1) 186 [.inr (.inr 153), .inl 0] σ2 Q (fun σ3 => B189_22 d Q x1 σ3)))) : B189_15 d Q x1 s0 σ := ut (m := M189) rfl h
theorem b189_16 {d : Nat} {Q : dR → dS → Prop} {x1 : Int} {σ : dS} (h : wI (d + 1) 174 [.inr (.inr 153), .inl 42] σ Q (fun v1 σ1 => ((v1 ≠ 0) → B189_17 d Q x1 σ1) ∧ (¬ (v1 ≠ 0) → wI (d + 1) 174 [.inr (.inr 153), .inl 47] σ1 Q (fun v2 σ2 => ((v2 = 0) → B189_20 d Q x1 σ2) ∧ (¬ (v2 = 0) → B189_17 d Q x1 σ2))))) : B189_16 d Q x1 σ := ut (m := M189) rfl h
theorem b189_17 {d : Nat} {Q : dR → dS → Prop} {x1 : Int} {σ : dS} (h : wV (d + 1) 182 [.inr (.inr 153), .inl 6] σ Q (fun σ1 => wI (d + 1) 174 [.inr (.inr 153), .inl 42] σ1 Q (fun v2 σ2 => ((v2 = 0) → B189_18 d Q x1 σ2) ∧ (¬ (v2 = 0) → B189_19 d Q x1 10 σ2)))) : B189_17 d Q x1 σ := ut (m := M189) rfl h
theorem b189_18 {d : Nat} {Q : dR → dS → Prop} {x1 : Int} {σ : dS} (h : B189_19 d Q x1 11 σ) : B189_18 d Q x1 σ := ut (m := M189) rfl h
theorem b189_19 {d : Nat} {Q : dR → dS → Prop} {x1 s0 : Int} {σ : dS} (h : wV (d + 1) 183 [.inr (.inr 153), .inl s0] σ Q (fun σ1 => wV (d + 1) 168 [.inr (.inr 153)] σ1 Q (fun σ2 => wV (d + 1) 186 [.inr (.inr 153), .inl 0] σ2 Q (fun σ3 => B189_22 d Q x1 σ3)))) : B189_19 d Q x1 s0 σ := ut (m := M189) rfl h
theorem b189_20 {d : Nat} {Q : dR → dS → Prop} {x1 : Int} {σ : dS} (h : wI (d + 1) 174 [.inr (.inr 153), .inl 41] σ Q (fun v1 σ1 => ((v1 = 0) → B189_21 d Q σ1) ∧ (¬ (v1 = 0) → wI (d + 1) 187 [.inr (.inr 153)] σ1 Q (fun v2 σ2 => ((v2 = 0) → B189_21 d Q σ2) ∧ (¬ (v2 = 0) → wV (d + 1) 188 [.inr (.inr 153)] σ2 Q (fun σ3 => B189_22 d Q x1 σ3)))))) : B189_20 d Q x1 σ := ut (m := M189) rfl h
theorem b189_21 {d : Nat} {Q : dR → dS → Prop} {σ : dS} (h : B189_22 d Q 0 σ) : B189_21 d Q σ := ut (m := M189) rfl h
theorem b189_22 {d : Nat} {Q : dR → dS → Prop} {x1 : Int} {σ : dS} (h : B189_2 d Q x1 σ) : B189_22 d Q x1 σ := ut (m := M189) rfl h
theorem b189_23 {d : Nat} {Q : dR → dS → Prop} {σ : dS} (h : wI (d + 1) 173 [.inr (.inr 153)] σ Q (fun v1 σ1 => ((v1 = 0) → B189_24 d Q σ1) ∧ (¬ (v1 = 0) → (((σ1 153 35) ≤ (1 : Int)) → B189_24 d Q σ1) ∧ (¬ ((σ1 153 35) ≤ (1 : Int)) → wV (d + 1) 172 [.inr (.inr 153), .inl 1] σ1 Q (fun σ2 => B189_24 d Q σ2))))) : B189_23 d Q σ := ut (m := M189) rfl h
theorem b189_24 {d : Nat} {Q : dR → dS → Prop} {σ : dS} (h : wV (d + 1) 182 [.inr (.inr 153), .inl 0] σ Q (fun σ1 => wV (d + 1) 179 [.inr (.inr 153), .inl 0] σ1 Q (fun σ2 => Q (.inl none) σ2))) : B189_24 d Q σ := ut (m := M189) rfl h
theorem c189 {d : Nat} {Q : dR → dS → Prop} {K : dS → Prop} {σ : dS} (h : B189_0 d (fun res σ1 => match res with | .inl none => K σ1 | .inl (some _) => False | .inr e => Q (.inr e) σ1) σ) : wV (d + 2) 189 [.inr (.inr 153)] σ Q K := ut0 rfl (Nat.le_of_ble_eq_true rfl) h
/-- WingTramsModel.readsFlight()V, 190 -/
def M190 (lb : Nat) : List Bool := [[true, false, false, false], [true, false, false, false], [true, false, false, false], [true, true, true, false], [true, true, true, false], [true, true, true, false]].getD lb []
def B190_0 (d : Nat) (Q : dR → dS → Prop) (σ : dS) : Prop := UT d 190 Q 0 (0, 0) [some (.inr (.inr 153)), none, none, none] [] σ
def B190_1 (d : Nat) (Q : dR → dS → Prop) (σ : dS) : Prop := UT d 190 Q 1 (0, 0) [some (.inr (.inr 153)), none, none, none] [] σ
def B190_2 (d : Nat) (Q : dR → dS → Prop) (σ : dS) : Prop := UT d 190 Q 2 (0, 0) [some (.inr (.inr 153)), none, none, none] [] σ
def B190_3 (d : Nat) (Q : dR → dS → Prop) (x1 x2 : Int) (σ : dS) : Prop := UT d 190 Q 3 (0, 0) [some (.inr (.inr 153)), some (.inl x1), some (.inl x2), none] [] σ
def B190_4 (d : Nat) (Q : dR → dS → Prop) (x1 x2 : Int) (σ : dS) : Prop := UT d 190 Q 4 (0, 0) [some (.inr (.inr 153)), some (.inl x1), some (.inl x2), none] [] σ
def B190_5 (d : Nat) (Q : dR → dS → Prop) (x1 x2 : Int) (σ : dS) : Prop := UT d 190 Q 5 (0, 0) [some (.inr (.inr 153)), some (.inl x1), some (.inl x2), none] [] σ
theorem b190_0 {d : Nat} {Q : dR → dS → Prop} {σ : dS} (h : (((σ 153 28) ≠ (18 : Int)) → B190_1 d Q σ) ∧ (¬ ((σ 153 28) ≠ (18 : Int)) → wV (d + 1) 172 [.inr (.inr 153), .inl 2] σ Q (fun σ1 => B190_1 d Q σ1))) : B190_0 d Q σ := ut (m := M190) rfl h
theorem b190_1 {d : Nat} {Q : dR → dS → Prop} {σ : dS} (h : wI (d + 1) 173 [.inr (.inr 153)] σ Q (fun v1 σ1 => ((v1 ≠ 0) → B190_2 d Q σ1) ∧ (¬ (v1 ≠ 0) → Q (.inl none) σ1))) : B190_1 d Q σ := ut (m := M190) rfl h
theorem b190_2 {d : Nat} {Q : dR → dS → Prop} {σ : dS} (h : wV (d + 1) 168 [.inr (.inr 153)] σ Q (fun σ1 => wI (d + 1) 178 [.inr (.inr 153)] σ1 Q (fun v2 σ2 => wI (d + 1) 177 [.inr (.inr 153)] σ2 Q (fun v3 σ3 => wI (d + 1) 173 [.inr (.inr 153)] σ3 Q (fun v4 σ4 => ((v4 = 0) → B190_4 d Q v2 v3 σ4) ∧ (¬ (v4 = 0) → ((v2 = v3) → B190_3 d Q v2 v3 σ4) ∧ (¬ (v2 = v3) → (0 ≤ (wr ((wr (10 * v2)) + v3))) ∧ ((wr ((wr (10 * v2)) + v3)) < 100) ∧ ((((σ4 164 (wr ((wr (10 * v2)) + v3))) = 0) → B190_4 d Q v2 v3 σ4) ∧ (¬ ((σ4 164 (wr ((wr (10 * v2)) + v3))) = 0) → B190_3 d Q v2 v3 σ4))))))))) : B190_2 d Q σ := ut (m := M190) rfl h
theorem b190_3 {d : Nat} {Q : dR → dS → Prop} {x1 x2 : Int} {σ : dS} (h : wV (d + 1) 172 [.inr (.inr 153), .inl 4] σ Q (fun σ1 => B190_4 d Q x1 x2 σ1)) : B190_3 d Q x1 x2 σ := ut (m := M190) rfl h
theorem b190_4 {d : Nat} {Q : dR → dS → Prop} {x1 x2 : Int} {σ : dS} (h : wI (d + 1) 173 [.inr (.inr 153)] σ Q (fun v1 σ1 => ((v1 ≠ 0) → B190_5 d Q x1 x2 σ1) ∧ (¬ (v1 ≠ 0) → Q (.inl none) σ1))) : B190_4 d Q x1 x2 σ := ut (m := M190) rfl h
theorem b190_5 {d : Nat} {Q : dR → dS → Prop} {x1 x2 : Int} {σ : dS} (h : wV (d + 1) 168 [.inr (.inr 153)] σ Q (fun σ1 => wI (d + 1) 176 [.inr (.inr 153), .inl 1, .inl 60] σ1 Q (fun v2 σ2 => (0 ≤ (wr ((wr (10 * x1)) + x2))) ∧ ((wr ((wr (10 * x1)) + x2)) < 100) ∧ (∀ σ3 : dS, σ3 = up σ2 164 (wr ((wr (10 * x1)) + x2)) v2 → ((0 ≤ (wr ((wr (10 * x2)) + x1))) ∧ ((wr ((wr (10 * x2)) + x1)) < 100) ∧ (∀ σ4 : dS, σ4 = up σ3 164 (wr ((wr (10 * x2)) + x1)) v2 → (∀ σ5 : dS, σ5 = up σ4 153 28 (wr ((σ4 153 28) + 1)) → (Q (.inl none) σ5)))))))) : B190_5 d Q x1 x2 σ := ut (m := M190) rfl h
theorem c190 {d : Nat} {Q : dR → dS → Prop} {K : dS → Prop} {σ : dS} (h : B190_0 d (fun res σ1 => match res with | .inl none => K σ1 | .inl (some _) => False | .inr e => Q (.inr e) σ1) σ) : wV (d + 2) 190 [.inr (.inr 153)] σ Q K := ut0 rfl (Nat.le_of_ble_eq_true rfl) h
/-- WingTramsModel.readsOwl(I)V, 191 -/
def M191 (lb : Nat) : List Bool := [[true, true, false, false, false], [true, true, false, false, false], [true, true, false, false, false], [true, false, true, true, false], [true, false, true, false, false], [true, false, true, false, true], [true, false, true, false, true], [true, false, true, false, false], [true, false, true, false, false], [true, false, false, false, false], [false, false, false, false, false]].getD lb []
def B191_0 (d : Nat) (Q : dR → dS → Prop) (x1 : Int) (σ : dS) : Prop := UT d 191 Q 0 (0, 0) [some (.inr (.inr 153)), some (.inl x1), none, none, none] [] σ
def B191_1 (d : Nat) (Q : dR → dS → Prop) (x1 : Int) (σ : dS) : Prop := UT d 191 Q 1 (0, 0) [some (.inr (.inr 153)), some (.inl x1), none, none, none] [] σ
def B191_2 (d : Nat) (Q : dR → dS → Prop) (x1 : Int) (σ : dS) : Prop := UT d 191 Q 2 (0, 0) [some (.inr (.inr 153)), some (.inl x1), none, none, none] [] σ
def B191_3 (d : Nat) (Q : dR → dS → Prop) (x2 x3 : Int) (σ : dS) : Prop := UT d 191 Q 3 (0, 0) [some (.inr (.inr 153)), none, some (.inl x2), some (.inl x3), none] [] σ
def B191_4 (d : Nat) (Q : dR → dS → Prop) (x2 : Int) (σ : dS) : Prop := UT d 191 Q 4 (0, 0) [some (.inr (.inr 153)), none, some (.inl x2), none, none] [] σ
def B191_5 (d : Nat) (Q : dR → dS → Prop) (x2 x4 : Int) (σ : dS) : Prop := UT d 191 Q 5 (0, 0) [some (.inr (.inr 153)), none, some (.inl x2), none, some (.inl x4)] [] σ
def B191_6 (d : Nat) (Q : dR → dS → Prop) (x2 x4 : Int) (σ : dS) : Prop := UT d 191 Q 6 (0, 0) [some (.inr (.inr 153)), none, some (.inl x2), none, some (.inl x4)] [] σ
def B191_7 (d : Nat) (Q : dR → dS → Prop) (x2 : Int) (σ : dS) : Prop := UT d 191 Q 7 (0, 0) [some (.inr (.inr 153)), none, some (.inl x2), none, none] [] σ
def B191_8 (d : Nat) (Q : dR → dS → Prop) (x2 s0 : Int) (σ : dS) : Prop := UT d 191 Q 8 (0, 0) [some (.inr (.inr 153)), none, some (.inl x2), none, none] [.inl s0] σ
def B191_9 (d : Nat) (Q : dR → dS → Prop) (σ : dS) : Prop := UT d 191 Q 9 (0, 0) [some (.inr (.inr 153)), none, none, none, none] [] σ
def B191_10 (d : Nat) (Q : dR → dS → Prop) (σ : dS) : Prop := UT d 191 Q 10 (0, 0) [none, none, none, none, none] [] σ
theorem b191_0 {d : Nat} {Q : dR → dS → Prop} {x1 : Int} {σ : dS} (h : (((σ 153 29) ≠ (5 : Int)) → B191_1 d Q x1 σ) ∧ (¬ ((σ 153 29) ≠ (5 : Int)) → wV (d + 1) 172 [.inr (.inr 153), .inl 2] σ Q (fun σ1 => B191_1 d Q x1 σ1))) : B191_0 d Q x1 σ := ut (m := M191) rfl h
theorem b191_1 {d : Nat} {Q : dR → dS → Prop} {x1 : Int} {σ : dS} (h : wI (d + 1) 173 [.inr (.inr 153)] σ Q (fun v1 σ1 => ((v1 ≠ 0) → B191_2 d Q x1 σ1) ∧ (¬ (v1 ≠ 0) → Q (.inl none) σ1))) : B191_1 d Q x1 σ := ut (m := M191) rfl h
theorem b191_2 {d : Nat} {Q : dR → dS → Prop} {x1 : Int} {σ : dS} (h : wV (d + 1) 168 [.inr (.inr 153)] σ Q (fun σ1 => (0 ≤ (σ1 153 29)) ∧ ((σ1 153 29) < 5) ∧ (∀ σ2 : dS, σ2 = up σ1 165 (σ1 153 29) x1 → (wI (d + 1) 176 [.inr (.inr 153), .inl 0, .inl 300] σ2 Q (fun v3 σ3 => (0 ≤ (σ1 153 29)) ∧ ((σ1 153 29) < 5) ∧ (∀ σ4 : dS, σ4 = up σ3 166 (σ1 153 29) v3 → ((0 ≤ (σ1 153 29)) ∧ ((σ1 153 29) < 5) ∧ (∀ σ5 : dS, σ5 = up σ4 167 (σ1 153 29) 0 → (B191_3 d Q (σ1 153 29) 1 σ5))))))))) : B191_2 d Q x1 σ := ut (m := M191) rfl h
theorem b191_3 {d : Nat} {Q : dR → dS → Prop} {x2 x3 : Int} {σ : dS} (h : ((x3 = 0) → B191_9 d Q σ) ∧ (¬ (x3 = 0) → wI (d + 1) 173 [.inr (.inr 153)] σ Q (fun v1 σ1 => ((v1 = 0) → B191_9 d Q σ1) ∧ (¬ (v1 = 0) → (0 ≤ x2) ∧ (x2 < 5) ∧ ((((σ1 167 x2) ≠ (8 : Int)) → B191_4 d Q x2 σ1) ∧ (¬ ((σ1 167 x2) ≠ (8 : Int)) → wV (d + 1) 172 [.inr (.inr 153), .inl 2] σ1 Q (fun σ2 => B191_4 d Q x2 σ2))))))) : B191_3 d Q x2 x3 σ := ut (m := M191) rfl h
set_option maxRecDepth 20000 in
theorem b191_4 {d : Nat} {Q : dR → dS → Prop} {x2 : Int} {σ : dS} (h : wI (d + 1) 177 [.inr (.inr 153)] σ Q (fun v1 σ1 => wI (d + 1) 173 [.inr (.inr 153)] σ1 Q (fun v2 σ2 => ((v2 = 0) → B191_5 d Q x2 v1 σ2) ∧ (¬ (v2 = 0) → (0 ≤ x2) ∧ (x2 < 5) ∧ ((((σ2 167 x2) ≤ 0) → B191_5 d Q x2 v1 σ2) ∧ (¬ ((σ2 167 x2) ≤ 0) → (0 ≤ x2) ∧ (x2 < 5) ∧ ((0 ≤ (wr ((wr ((wr (8 * x2)) + (σ2 167 x2))) - 1))) ∧ ((wr ((wr ((wr (8 * x2)) + (σ2 167 x2))) - 1)) < 40) ∧ ((0 ≤ (wr ((wr (10 * (σ2 168 (wr ((wr ((wr (8 * x2)) + (σ2 167 x2))) - 1))))) + v1))) ∧ ((wr ((wr (10 * (σ2 168 (wr ((wr ((wr (8 * x2)) + (σ2 167 x2))) - 1))))) + v1)) < 100) ∧ ((((σ2 164 (wr ((wr (10 * (σ2 168 (wr ((wr ((wr (8 * x2)) + (σ2 167 x2))) - 1))))) + v1))) ≠ 0) → B191_5 d Q x2 v1 σ2) ∧ (¬ ((σ2 164 (wr ((wr (10 * (σ2 168 (wr ((wr ((wr (8 * x2)) + (σ2 167 x2))) - 1))))) + v1))) ≠ 0) → wV (d + 1) 172 [.inr (.inr 153), .inl 6] σ2 Q (fun σ3 => B191_5 d Q x2 v1 σ3))))))))))) : B191_4 d Q x2 σ := ut (m := M191) rfl h
theorem b191_5 {d : Nat} {Q : dR → dS → Prop} {x2 x4 : Int} {σ : dS} (h : wI (d + 1) 173 [.inr (.inr 153)] σ Q (fun v1 σ1 => ((v1 ≠ 0) → B191_6 d Q x2 x4 σ1) ∧ (¬ (v1 ≠ 0) → Q (.inl none) σ1))) : B191_5 d Q x2 x4 σ := ut (m := M191) rfl h
theorem b191_6 {d : Nat} {Q : dR → dS → Prop} {x2 x4 : Int} {σ : dS} (h : (0 ≤ x2) ∧ (x2 < 5) ∧ ((0 ≤ (wr ((wr (8 * x2)) + (σ 167 x2)))) ∧ ((wr ((wr (8 * x2)) + (σ 167 x2))) < 40) ∧ (∀ σ1 : dS, σ1 = up σ 168 (wr ((wr (8 * x2)) + (σ 167 x2))) x4 → ((0 ≤ x2) ∧ (x2 < 5) ∧ ((0 ≤ x2) ∧ (x2 < 5) ∧ (∀ σ2 : dS, σ2 = up σ1 167 x2 (wr ((σ1 167 x2) + 1)) → (wV (d + 1) 168 [.inr (.inr 153)] σ2 Q (fun σ3 => (((σ3 153 21) ≠ (2 : Int)) → B191_7 d Q x2 σ3) ∧ (¬ ((σ3 153 21) ≠ (2 : Int)) → B191_8 d Q x2 1 σ3))))))))) : B191_6 d Q x2 x4 σ := ut (m := M191) rfl h
theorem b191_7 {d : Nat} {Q : dR → dS → Prop} {x2 : Int} {σ : dS} (h : B191_8 d Q x2 0 σ) : B191_7 d Q x2 σ := ut (m := M191) rfl h
theorem b191_8 {d : Nat} {Q : dR → dS → Prop} {x2 s0 : Int} {σ : dS} (h : B191_3 d Q x2 s0 σ) : B191_8 d Q x2 s0 σ := ut (m := M191) rfl h
theorem b191_9 {d : Nat} {Q : dR → dS → Prop} {σ : dS} (h : wI (d + 1) 173 [.inr (.inr 153)] σ Q (fun v1 σ1 => ((v1 = 0) → B191_10 d Q σ1) ∧ (¬ (v1 = 0) → ∀ σ2 : dS, σ2 = up σ1 153 29 (wr ((σ1 153 29) + 1)) → (B191_10 d Q σ2)))) : B191_9 d Q σ := ut (m := M191) rfl h
theorem b191_10 {d : Nat} {Q : dR → dS → Prop} {σ : dS} (h : Q (.inl none) σ) : B191_10 d Q σ := ut (m := M191) rfl h
theorem c191 {d : Nat} {Q : dR → dS → Prop} {K : dS → Prop} {x1 : Int} {σ : dS} (h : B191_0 d (fun res σ1 => match res with | .inl none => K σ1 | .inl (some _) => False | .inr e => Q (.inr e) σ1) x1 σ) : wV (d + 2) 191 [.inr (.inr 153), .inl x1] σ Q K := ut0 rfl (Nat.le_of_ble_eq_true rfl) h
/-- WingTramsModel.readsRider()V, 192 -/
def M192 (lb : Nat) : List Bool := [[true, false], [true, false], [true, false], [false, false]].getD lb []
def B192_0 (d : Nat) (Q : dR → dS → Prop) (σ : dS) : Prop := UT d 192 Q 0 (0, 0) [some (.inr (.inr 153)), none] [] σ
def B192_1 (d : Nat) (Q : dR → dS → Prop) (σ : dS) : Prop := UT d 192 Q 1 (0, 0) [some (.inr (.inr 153)), none] [] σ
def B192_2 (d : Nat) (Q : dR → dS → Prop) (σ : dS) : Prop := UT d 192 Q 2 (0, 0) [some (.inr (.inr 153)), none] [] σ
def B192_3 (d : Nat) (Q : dR → dS → Prop) (σ : dS) : Prop := UT d 192 Q 3 (0, 0) [none, none] [] σ
theorem b192_0 {d : Nat} {Q : dR → dS → Prop} {σ : dS} (h : (((σ 153 30) ≠ (8 : Int)) → B192_1 d Q σ) ∧ (¬ ((σ 153 30) ≠ (8 : Int)) → wV (d + 1) 172 [.inr (.inr 153), .inl 2] σ Q (fun σ1 => B192_1 d Q σ1))) : B192_0 d Q σ := ut (m := M192) rfl h
theorem b192_1 {d : Nat} {Q : dR → dS → Prop} {σ : dS} (h : wI (d + 1) 173 [.inr (.inr 153)] σ Q (fun v1 σ1 => ((v1 ≠ 0) → B192_2 d Q σ1) ∧ (¬ (v1 ≠ 0) → Q (.inl none) σ1))) : B192_1 d Q σ := ut (m := M192) rfl h
set_option maxRecDepth 20000 in
theorem b192_2 {d : Nat} {Q : dR → dS → Prop} {σ : dS} (h : wV (d + 1) 168 [.inr (.inr 153)] σ Q (fun σ1 => wI (d + 1) 178 [.inr (.inr 153)] σ1 Q (fun v2 σ2 => (0 ≤ (wr (4 * (σ1 153 30)))) ∧ ((wr (4 * (σ1 153 30))) < 32) ∧ (∀ σ3 : dS, σ3 = up σ2 169 (wr (4 * (σ1 153 30))) v2 → (wI (d + 1) 178 [.inr (.inr 153)] σ3 Q (fun v4 σ4 => (0 ≤ (wr ((wr (4 * (σ1 153 30))) + 1))) ∧ ((wr ((wr (4 * (σ1 153 30))) + 1)) < 32) ∧ (∀ σ5 : dS, σ5 = up σ4 169 (wr ((wr (4 * (σ1 153 30))) + 1)) v4 → (wI (d + 1) 176 [.inr (.inr 153), .inl 0, .inl 400] σ5 Q (fun v6 σ6 => (0 ≤ (wr ((wr (4 * (σ1 153 30))) + 2))) ∧ ((wr ((wr (4 * (σ1 153 30))) + 2)) < 32) ∧ (∀ σ7 : dS, σ7 = up σ6 169 (wr ((wr (4 * (σ1 153 30))) + 2)) v6 → (wI (d + 1) 176 [.inr (.inr 153), .inl 0, .inl 9] σ7 Q (fun v8 σ8 => (0 ≤ (wr ((wr (4 * (σ1 153 30))) + 3))) ∧ ((wr ((wr (4 * (σ1 153 30))) + 3)) < 32) ∧ (∀ σ9 : dS, σ9 = up σ8 169 (wr ((wr (4 * (σ1 153 30))) + 3)) v8 → (wI (d + 1) 173 [.inr (.inr 153)] σ9 Q (fun v10 σ10 => ((v10 = 0) → B192_3 d Q σ10) ∧ (¬ (v10 = 0) → ∀ σ11 : dS, σ11 = up σ10 153 30 (wr ((σ10 153 30) + 1)) → (B192_3 d Q σ11))))))))))))))))) : B192_2 d Q σ := ut (m := M192) rfl h
theorem b192_3 {d : Nat} {Q : dR → dS → Prop} {σ : dS} (h : Q (.inl none) σ) : B192_3 d Q σ := ut (m := M192) rfl h
theorem c192 {d : Nat} {Q : dR → dS → Prop} {K : dS → Prop} {σ : dS} (h : B192_0 d (fun res σ1 => match res with | .inl none => K σ1 | .inl (some _) => False | .inr e => Q (.inr e) σ1) σ) : wV (d + 2) 192 [.inr (.inr 153)] σ Q K := ut0 rfl (Nat.le_of_ble_eq_true rfl) h
/-- WingTramsModel.line()V, 193 -/
def M193 (lb : Nat) : List Bool := [[true, false], [true, false], [true, false], [true, true], [true, true], [true, true], [true, true], [true, false], [true, false], [true, true], [true, false], [true, false], [true, false], [true, false]].getD lb []
def B193_0 (d : Nat) (Q : dR → dS → Prop) (σ : dS) : Prop := UT d 193 Q 0 (0, 0) [some (.inr (.inr 153)), none] [] σ
def B193_1 (d : Nat) (Q : dR → dS → Prop) (σ : dS) : Prop := UT d 193 Q 1 (0, 0) [some (.inr (.inr 153)), none] [] σ
def B193_2 (d : Nat) (Q : dR → dS → Prop) (σ : dS) : Prop := UT d 193 Q 2 (0, 0) [some (.inr (.inr 153)), none] [] σ
def B193_3 (d : Nat) (Q : dR → dS → Prop) (x1 : Int) (σ : dS) : Prop := UT d 193 Q 3 (0, 0) [some (.inr (.inr 153)), some (.inl x1)] [] σ
def B193_4 (d : Nat) (Q : dR → dS → Prop) (x1 : Int) (σ : dS) : Prop := UT d 193 Q 4 (0, 0) [some (.inr (.inr 153)), some (.inl x1)] [] σ
def B193_5 (d : Nat) (Q : dR → dS → Prop) (x1 : Int) (σ : dS) : Prop := UT d 193 Q 5 (0, 0) [some (.inr (.inr 153)), some (.inl x1)] [] σ
def B193_6 (d : Nat) (Q : dR → dS → Prop) (x1 : Int) (σ : dS) : Prop := UT d 193 Q 6 (0, 0) [some (.inr (.inr 153)), some (.inl x1)] [] σ
def B193_7 (d : Nat) (Q : dR → dS → Prop) (σ : dS) : Prop := UT d 193 Q 7 (0, 0) [some (.inr (.inr 153)), none] [] σ
def B193_8 (d : Nat) (Q : dR → dS → Prop) (σ : dS) : Prop := UT d 193 Q 8 (0, 0) [some (.inr (.inr 153)), none] [] σ
def B193_9 (d : Nat) (Q : dR → dS → Prop) (x1 : Int) (σ : dS) : Prop := UT d 193 Q 9 (0, 0) [some (.inr (.inr 153)), some (.inl x1)] [] σ
def B193_10 (d : Nat) (Q : dR → dS → Prop) (σ : dS) : Prop := UT d 193 Q 10 (0, 0) [some (.inr (.inr 153)), none] [] σ
def B193_11 (d : Nat) (Q : dR → dS → Prop) (σ : dS) : Prop := UT d 193 Q 11 (0, 0) [some (.inr (.inr 153)), none] [] σ
def B193_12 (d : Nat) (Q : dR → dS → Prop) (σ : dS) : Prop := UT d 193 Q 12 (0, 0) [some (.inr (.inr 153)), none] [] σ
def B193_13 (d : Nat) (Q : dR → dS → Prop) (σ : dS) : Prop := UT d 193 Q 13 (0, 0) [some (.inr (.inr 153)), none] [] σ
theorem b193_0 {d : Nat} {Q : dR → dS → Prop} {σ : dS} (h : wI (d + 1) 171 [.inr (.inr 153)] σ Q (fun v1 σ1 => ((v1 ≠ (10 : Int)) → B193_3 d Q v1 σ1) ∧ (¬ (v1 ≠ (10 : Int)) → (((σ1 153 27) ≠ (10 : Int)) → B193_1 d Q σ1) ∧ (¬ ((σ1 153 27) ≠ (10 : Int)) → wV (d + 1) 172 [.inr (.inr 153), .inl 2] σ1 Q (fun σ2 => B193_1 d Q σ2))))) : B193_0 d Q σ := ut (m := M193) rfl h
theorem b193_1 {d : Nat} {Q : dR → dS → Prop} {σ : dS} (h : wI (d + 1) 173 [.inr (.inr 153)] σ Q (fun v1 σ1 => ((v1 ≠ 0) → B193_2 d Q σ1) ∧ (¬ (v1 ≠ 0) → Q (.inl none) σ1))) : B193_1 d Q σ := ut (m := M193) rfl h
theorem b193_2 {d : Nat} {Q : dR → dS → Prop} {σ : dS} (h : wV (d + 1) 168 [.inr (.inr 153)] σ Q (fun σ1 => wI (d + 1) 176 [.inr (.inr 153), .inl 0, .inl 9] σ1 Q (fun v2 σ2 => (0 ≤ (σ1 153 27)) ∧ ((σ1 153 27) < 10) ∧ (∀ σ3 : dS, σ3 = up σ2 163 (σ1 153 27) v2 → (wI (d + 1) 173 [.inr (.inr 153)] σ3 Q (fun v4 σ4 => ((v4 = 0) → B193_13 d Q σ4) ∧ (¬ (v4 = 0) → ∀ σ5 : dS, σ5 = up σ4 153 27 (wr ((σ4 153 27) + 1)) → (B193_13 d Q σ5)))))))) : B193_2 d Q σ := ut (m := M193) rfl h
theorem b193_3 {d : Nat} {Q : dR → dS → Prop} {x1 : Int} {σ : dS} (h : ((x1 ≠ (11 : Int)) → B193_4 d Q x1 σ) ∧ (¬ (x1 ≠ (11 : Int)) → wV (d + 1) 190 [.inr (.inr 153)] σ Q (fun σ1 => B193_13 d Q σ1))) : B193_3 d Q x1 σ := ut (m := M193) rfl h
theorem b193_4 {d : Nat} {Q : dR → dS → Prop} {x1 : Int} {σ : dS} (h : ((x1 < (7 : Int)) → B193_5 d Q x1 σ) ∧ (¬ (x1 < (7 : Int)) → (((9 : Int) < x1) → B193_5 d Q x1 σ) ∧ (¬ ((9 : Int) < x1) → wV (d + 1) 191 [.inr (.inr 153), .inl (wr (x1 - 7))] σ Q (fun σ1 => B193_13 d Q σ1)))) : B193_4 d Q x1 σ := ut (m := M193) rfl h
theorem b193_5 {d : Nat} {Q : dR → dS → Prop} {x1 : Int} {σ : dS} (h : ((x1 ≠ (12 : Int)) → B193_6 d Q x1 σ) ∧ (¬ (x1 ≠ (12 : Int)) → wV (d + 1) 192 [.inr (.inr 153)] σ Q (fun σ1 => B193_13 d Q σ1))) : B193_5 d Q x1 σ := ut (m := M193) rfl h
theorem b193_6 {d : Nat} {Q : dR → dS → Prop} {x1 : Int} {σ : dS} (h : ((x1 ≠ (13 : Int)) → B193_9 d Q x1 σ) ∧ (¬ (x1 ≠ (13 : Int)) → (((σ 153 32) = (-1 : Int)) → B193_7 d Q σ) ∧ (¬ ((σ 153 32) = (-1 : Int)) → wV (d + 1) 172 [.inr (.inr 153), .inl 5] σ Q (fun σ1 => B193_7 d Q σ1)))) : B193_6 d Q x1 σ := ut (m := M193) rfl h
theorem b193_7 {d : Nat} {Q : dR → dS → Prop} {σ : dS} (h : wI (d + 1) 173 [.inr (.inr 153)] σ Q (fun v1 σ1 => ((v1 ≠ 0) → B193_8 d Q σ1) ∧ (¬ (v1 ≠ 0) → Q (.inl none) σ1))) : B193_7 d Q σ := ut (m := M193) rfl h
theorem b193_8 {d : Nat} {Q : dR → dS → Prop} {σ : dS} (h : wV (d + 1) 168 [.inr (.inr 153)] σ Q (fun σ1 => wI (d + 1) 176 [.inr (.inr 153), .inl 60, .inl 600] σ1 Q (fun v2 σ2 => ∀ σ3 : dS, σ3 = up σ2 153 32 v2 → (B193_13 d Q σ3)))) : B193_8 d Q σ := ut (m := M193) rfl h
theorem b193_9 {d : Nat} {Q : dR → dS → Prop} {x1 : Int} {σ : dS} (h : ((x1 ≠ (14 : Int)) → B193_12 d Q σ) ∧ (¬ (x1 ≠ (14 : Int)) → (((σ 153 31) ≠ (4 : Int)) → B193_10 d Q σ) ∧ (¬ ((σ 153 31) ≠ (4 : Int)) → wV (d + 1) 172 [.inr (.inr 153), .inl 2] σ Q (fun σ1 => B193_10 d Q σ1)))) : B193_9 d Q x1 σ := ut (m := M193) rfl h
theorem b193_10 {d : Nat} {Q : dR → dS → Prop} {σ : dS} (h : wI (d + 1) 173 [.inr (.inr 153)] σ Q (fun v1 σ1 => ((v1 ≠ 0) → B193_11 d Q σ1) ∧ (¬ (v1 ≠ 0) → Q (.inl none) σ1))) : B193_10 d Q σ := ut (m := M193) rfl h
theorem b193_11 {d : Nat} {Q : dR → dS → Prop} {σ : dS} (h : wV (d + 1) 168 [.inr (.inr 153)] σ Q (fun σ1 => (0 ≤ (σ1 153 31)) ∧ ((σ1 153 31) < 4) ∧ (∀ σ2 : dS, σ2 = up σ1 170 (σ1 153 31) (σ1 153 33) → (∀ σ3 : dS, σ3 = up σ2 153 31 (wr ((σ2 153 31) + 1)) → (wV (d + 1) 189 [.inr (.inr 153)] σ3 Q (fun σ4 => B193_13 d Q σ4)))))) : B193_11 d Q σ := ut (m := M193) rfl h
theorem b193_12 {d : Nat} {Q : dR → dS → Prop} {σ : dS} (h : wV (d + 1) 172 [.inr (.inr 153), .inl 1] σ Q (fun σ1 => B193_13 d Q σ1)) : B193_12 d Q σ := ut (m := M193) rfl h
theorem b193_13 {d : Nat} {Q : dR → dS → Prop} {σ : dS} (h : wI (d + 1) 174 [.inr (.inr 153), .inl 59] σ Q (fun v1 σ1 => wV (d + 1) 175 [.inr (.inr 153), .inl v1] σ1 Q (fun σ2 => Q (.inl none) σ2))) : B193_13 d Q σ := ut (m := M193) rfl h
theorem c193 {d : Nat} {Q : dR → dS → Prop} {K : dS → Prop} {σ : dS} (h : B193_0 d (fun res σ1 => match res with | .inl none => K σ1 | .inl (some _) => False | .inr e => Q (.inr e) σ1) σ) : wV (d + 2) 193 [.inr (.inr 153)] σ Q K := ut0 rfl (Nat.le_of_ble_eq_true rfl) h
/-- WingTramsModel.city(I)I, 194 -/
def M194 (lb : Nat) : List Bool := [[true, true, false], [true, true, false], [true, true, false], [true, true, false], [true, false, true], [true, false, false], [true, false, false], [true, false, false], [true, false, false], [true, false, false], [true, false, false], [true, false, false], [true, false, false], [true, false, true], [true, false, false], [true, false, true], [true, false, false]].getD lb []
def B194_0 (d : Nat) (Q : dR → dS → Prop) (x1 : Int) (σ : dS) : Prop := UT d 194 Q 0 (0, 0) [some (.inr (.inr 153)), some (.inl x1), none] [] σ
def B194_1 (d : Nat) (Q : dR → dS → Prop) (x1 : Int) (σ : dS) : Prop := UT d 194 Q 1 (0, 0) [some (.inr (.inr 153)), some (.inl x1), none] [.inr (.inr 153)] σ
def B194_2 (d : Nat) (Q : dR → dS → Prop) (x1 s0 : Int) (σ : dS) : Prop := UT d 194 Q 2 (0, 0) [some (.inr (.inr 153)), some (.inl x1), none] [.inl s0, .inr (.inr 153)] σ
def B194_3 (d : Nat) (Q : dR → dS → Prop) (x1 : Int) (σ : dS) : Prop := UT d 194 Q 3 (0, 0) [some (.inr (.inr 153)), some (.inl x1), none] [] σ
def B194_4 (d : Nat) (Q : dR → dS → Prop) (x2 : Int) (σ : dS) : Prop := UT d 194 Q 4 (0, 0) [some (.inr (.inr 153)), none, some (.inl x2)] [] σ
def B194_5 (d : Nat) (Q : dR → dS → Prop) (σ : dS) : Prop := UT d 194 Q 5 (0, 0) [some (.inr (.inr 153)), none, none] [] σ
def B194_6 (d : Nat) (Q : dR → dS → Prop) (σ : dS) : Prop := UT d 194 Q 6 (0, 0) [some (.inr (.inr 153)), none, none] [] σ
def B194_7 (d : Nat) (Q : dR → dS → Prop) (σ : dS) : Prop := UT d 194 Q 7 (0, 0) [some (.inr (.inr 153)), none, none] [] σ
def B194_8 (d : Nat) (Q : dR → dS → Prop) (σ : dS) : Prop := UT d 194 Q 8 (0, 0) [some (.inr (.inr 153)), none, none] [] σ
def B194_9 (d : Nat) (Q : dR → dS → Prop) (σ : dS) : Prop := UT d 194 Q 9 (0, 0) [some (.inr (.inr 153)), none, none] [.inr (.inr 153)] σ
def B194_10 (d : Nat) (Q : dR → dS → Prop) (s0 : Int) (σ : dS) : Prop := UT d 194 Q 10 (0, 0) [some (.inr (.inr 153)), none, none] [.inl s0, .inr (.inr 153)] σ
def B194_11 (d : Nat) (Q : dR → dS → Prop) (s0 : Int) (σ : dS) : Prop := UT d 194 Q 11 (0, 0) [some (.inr (.inr 153)), none, none] [.inl s0, .inr (.inr 174)] σ
def B194_12 (d : Nat) (Q : dR → dS → Prop) (s0 s1 : Int) (σ : dS) : Prop := UT d 194 Q 12 (0, 0) [some (.inr (.inr 153)), none, none] [.inl s0, .inl s1, .inr (.inr 174)] σ
def B194_13 (d : Nat) (Q : dR → dS → Prop) (x2 : Int) (σ : dS) : Prop := UT d 194 Q 13 (0, 0) [some (.inr (.inr 153)), none, some (.inl x2)] [] σ
def B194_14 (d : Nat) (Q : dR → dS → Prop) (σ : dS) : Prop := UT d 194 Q 14 (0, 0) [some (.inr (.inr 153)), none, none] [] σ
def B194_15 (d : Nat) (Q : dR → dS → Prop) (x2 : Int) (σ : dS) : Prop := UT d 194 Q 15 (0, 0) [some (.inr (.inr 153)), none, some (.inl x2)] [] σ
def B194_16 (d : Nat) (Q : dR → dS → Prop) (σ : dS) : Prop := UT d 194 Q 16 (0, 0) [some (.inr (.inr 153)), none, none] [] σ
theorem b194_0 {d : Nat} {Q : dR → dS → Prop} {x1 : Int} {σ : dS} (h : ∀ σ1 : dS, σ1 = up σ 153 0 0 → (((x1 < 0) → B194_1 d Q x1 σ1) ∧ (¬ (x1 < 0) → (((σ1 153 15) < x1) → B194_1 d Q x1 σ1) ∧ (¬ ((σ1 153 15) < x1) → B194_2 d Q x1 1 σ1)))) : B194_0 d Q x1 σ := ut (m := M194) rfl h
theorem b194_1 {d : Nat} {Q : dR → dS → Prop} {x1 : Int} {σ : dS} (h : B194_2 d Q x1 0 σ) : B194_1 d Q x1 σ := ut (m := M194) rfl h
theorem b194_2 {d : Nat} {Q : dR → dS → Prop} {x1 s0 : Int} {σ : dS} (h : wI (d + 1) 158 [.inr (.inr 153), .inl s0, .inl 1] σ Q (fun v1 σ1 => ((v1 ≠ 0) → B194_3 d Q x1 σ1) ∧ (¬ (v1 ≠ 0) → Q (.inl (some (.inl 0))) σ1))) : B194_2 d Q x1 s0 σ := ut (m := M194) rfl h
theorem b194_3 {d : Nat} {Q : dR → dS → Prop} {x1 : Int} {σ : dS} (h : ∀ σ1 : dS, σ1 = up σ 153 15 0 → (∀ σ2 : dS, σ2 = up σ1 153 17 (-1) → (∀ σ3 : dS, σ3 = up σ2 153 16 0 → (∀ σ4 : dS, σ4 = up σ3 153 19 x1 → (∀ σ5 : dS, σ5 = up σ4 153 20 0 → (∀ σ6 : dS, σ6 = up σ5 153 27 0 → (∀ σ7 : dS, σ7 = up σ6 153 28 0 → (∀ σ8 : dS, σ8 = up σ7 153 29 0 → (∀ σ9 : dS, σ9 = up σ8 153 30 0 → (∀ σ10 : dS, σ10 = up σ9 153 31 0 → (∀ σ11 : dS, σ11 = up σ10 153 32 (-1) → (∀ σ12 : dS, σ12 = up σ11 153 33 0 → (B194_4 d Q 0 σ12))))))))))))) : B194_3 d Q x1 σ := ut (m := M194) rfl h
theorem b194_4 {d : Nat} {Q : dR → dS → Prop} {x2 : Int} {σ : dS} (h : (((100 : Int) ≤ x2) → B194_5 d Q σ) ∧ (¬ ((100 : Int) ≤ x2) → (0 ≤ x2) ∧ (x2 < 100) ∧ (∀ σ1 : dS, σ1 = up σ 164 x2 0 → (B194_4 d Q (wr (x2 + 1)) σ1)))) : B194_4 d Q x2 σ := ut (m := M194) rfl h
theorem b194_5 {d : Nat} {Q : dR → dS → Prop} {σ : dS} (h : wV (d + 1) 168 [.inr (.inr 153)] σ Q (fun σ1 => B194_6 d Q σ1)) : B194_5 d Q σ := ut (m := M194) rfl h
theorem b194_6 {d : Nat} {Q : dR → dS → Prop} {σ : dS} (h : wI (d + 1) 173 [.inr (.inr 153)] σ Q (fun v1 σ1 => ((v1 = 0) → B194_7 d Q σ1) ∧ (¬ (v1 = 0) → (((σ1 153 21) = 0) → B194_7 d Q σ1) ∧ (¬ ((σ1 153 21) = 0) → wV (d + 1) 193 [.inr (.inr 153)] σ1 Q (fun σ2 => B194_6 d Q σ2))))) : B194_6 d Q σ := ut (m := M194) rfl h
theorem b194_7 {d : Nat} {Q : dR → dS → Prop} {σ : dS} (h : wI (d + 1) 173 [.inr (.inr 153)] σ Q (fun v1 σ1 => ((v1 ≠ 0) → B194_8 d Q σ1) ∧ (¬ (v1 ≠ 0) → (0 ≤ (0 : Int)) ∧ ((0 : Int) < 3) ∧ ((0 ≤ (0 : Int)) ∧ ((0 : Int) < 3) ∧ (∀ σ2 : dS, σ2 = up σ1 162 0 (wr ((σ1 162 0) + 1)) → (Q (.inl (some (.inl (σ2 153 16)))) σ2)))))) : B194_7 d Q σ := ut (m := M194) rfl h
theorem b194_8 {d : Nat} {Q : dR → dS → Prop} {σ : dS} (h : ∀ σ1 : dS, σ1 = up σ 153 1 (σ 153 27) → (∀ σ2 : dS, σ2 = up σ1 153 2 (σ1 153 28) → (∀ σ3 : dS, σ3 = up σ2 153 3 (σ2 153 29) → (∀ σ4 : dS, σ4 = up σ3 153 4 (σ3 153 30) → (∀ σ5 : dS, σ5 = up σ4 153 5 (σ4 153 31) → ((((σ5 153 32) ≠ (-1 : Int)) → B194_9 d Q σ5) ∧ (¬ ((σ5 153 32) ≠ (-1 : Int)) → B194_10 d Q 360 σ5))))))) : B194_8 d Q σ := ut (m := M194) rfl h
theorem b194_9 {d : Nat} {Q : dR → dS → Prop} {σ : dS} (h : B194_10 d Q (σ 153 32) σ) : B194_9 d Q σ := ut (m := M194) rfl h
set_option maxRecDepth 20000 in
theorem b194_10 {d : Nat} {Q : dR → dS → Prop} {s0 : Int} {σ : dS} (h : ∀ σ1 : dS, σ1 = up σ 153 6 s0 → (wV (d + 1) 161 [.inr (.inr 153), .inr (.inr 164), .inr (.inr 154)] σ1 Q (fun σ2 => wV (d + 1) 161 [.inr (.inr 153), .inr (.inr 165), .inr (.inr 155)] σ2 Q (fun σ3 => wV (d + 1) 161 [.inr (.inr 153), .inr (.inr 167), .inr (.inr 156)] σ3 Q (fun σ4 => wV (d + 1) 161 [.inr (.inr 153), .inr (.inr 168), .inr (.inr 157)] σ4 Q (fun σ5 => wV (d + 1) 161 [.inr (.inr 153), .inr (.inr 169), .inr (.inr 158)] σ5 Q (fun σ6 => wV (d + 1) 161 [.inr (.inr 153), .inr (.inr 170), .inr (.inr 159)] σ6 Q (fun σ7 => wV (d + 1) 161 [.inr (.inr 153), .inr (.inr 171), .inr (.inr 160)] σ7 Q (fun σ8 => (((σ8 153 5) ≤ 0) → B194_11 d Q 0 σ8) ∧ (¬ ((σ8 153 5) ≤ 0) → B194_12 d Q 0 0 σ8)))))))))) : B194_10 d Q s0 σ := ut (m := M194) rfl h
theorem b194_11 {d : Nat} {Q : dR → dS → Prop} {s0 : Int} {σ : dS} (h : B194_12 d Q (-1) s0 σ) : B194_11 d Q s0 σ := ut (m := M194) rfl h
theorem b194_12 {d : Nat} {Q : dR → dS → Prop} {s0 s1 : Int} {σ : dS} (h : (0 ≤ s1) ∧ (s1 < 19) ∧ (∀ σ1 : dS, σ1 = up σ 174 s1 s0 → ((0 ≤ (1 : Int)) ∧ ((1 : Int) < 19) ∧ (∀ σ2 : dS, σ2 = up σ1 174 1 0 → ((0 ≤ (2 : Int)) ∧ ((2 : Int) < 19) ∧ (∀ σ3 : dS, σ3 = up σ2 174 2 0 → ((0 ≤ (3 : Int)) ∧ ((3 : Int) < 19) ∧ (∀ σ4 : dS, σ4 = up σ3 174 3 0 → (B194_13 d Q 0 σ4))))))))) : B194_12 d Q s0 s1 σ := ut (m := M194) rfl h
theorem b194_13 {d : Nat} {Q : dR → dS → Prop} {x2 : Int} {σ : dS} (h : (((10 : Int) ≤ x2) → B194_14 d Q σ) ∧ (¬ ((10 : Int) ≤ x2) → (0 ≤ x2) ∧ (x2 < 10) ∧ ((0 ≤ (wr (4 + x2))) ∧ ((wr (4 + x2)) < 19) ∧ (∀ σ1 : dS, σ1 = up σ 174 (wr (4 + x2)) (σ 163 x2) → (B194_13 d Q (wr (x2 + 1)) σ1))))) : B194_13 d Q x2 σ := ut (m := M194) rfl h
theorem b194_14 {d : Nat} {Q : dR → dS → Prop} {σ : dS} (h : B194_15 d Q 0 σ) : B194_14 d Q σ := ut (m := M194) rfl h
theorem b194_15 {d : Nat} {Q : dR → dS → Prop} {x2 : Int} {σ : dS} (h : (((5 : Int) ≤ x2) → B194_16 d Q σ) ∧ (¬ ((5 : Int) ≤ x2) → (0 ≤ x2) ∧ (x2 < 5) ∧ ((0 ≤ (wr (14 + x2))) ∧ ((wr (14 + x2)) < 19) ∧ (∀ σ1 : dS, σ1 = up σ 174 (wr (14 + x2)) (σ 166 x2) → (B194_15 d Q (wr (x2 + 1)) σ1))))) : B194_15 d Q x2 σ := ut (m := M194) rfl h
theorem b194_16 {d : Nat} {Q : dR → dS → Prop} {σ : dS} (h : wV (d + 1) 199 [.inr (.inr 153)] σ Q (fun σ1 => ∀ σ2 : dS, σ2 = up σ1 153 50 0 → (∀ σ3 : dS, σ3 = up σ2 153 67 0 → (((0 : Int) = 0 ∨ (0 : Int) = 1) ∧ (∀ σ4 : dS, σ4 = up σ3 153 65 0 → (((0 : Int) = 0 ∨ (0 : Int) = 1) ∧ (∀ σ5 : dS, σ5 = up σ4 153 70 0 → (Q (.inl (some (.inl 0))) σ5)))))))) : B194_16 d Q σ := ut (m := M194) rfl h
theorem c194 {d : Nat} {Q : dR → dS → Prop} {K : Int → dS → Prop} {x1 : Int} {σ : dS} (h : B194_0 d (fun res σ1 => match res with | .inl (some (.inl v)) => K v σ1 | .inl _ => False | .inr e => Q (.inr e) σ1) x1 σ) : wI (d + 2) 194 [.inr (.inr 153), .inl x1] σ Q K := ut0 rfl (Nat.le_of_ble_eq_true rfl) h
/-- WingTramsModel.fault()I, 195 -/
def M195 (lb : Nat) : List Bool := [[true]].getD lb []
def B195_0 (d : Nat) (Q : dR → dS → Prop) (σ : dS) : Prop := UT d 195 Q 0 (0, 0) [some (.inr (.inr 153))] [] σ
theorem b195_0 {d : Nat} {Q : dR → dS → Prop} {σ : dS} (h : ∀ σ1 : dS, σ1 = up σ 153 0 0 → (Q (.inl (some (.inl (σ1 153 17)))) σ1)) : B195_0 d Q σ := ut (m := M195) rfl h
theorem c195 {d : Nat} {Q : dR → dS → Prop} {K : Int → dS → Prop} {σ : dS} (h : B195_0 d (fun res σ1 => match res with | .inl (some (.inl v)) => K v σ1 | .inl _ => False | .inr e => Q (.inr e) σ1) σ) : wI (d + 2) 195 [.inr (.inr 153)] σ Q K := ut0 rfl (Nat.le_of_ble_eq_true rfl) h
