/-! BASE: whole numbers for the machine's ints and longs; the store; the world's cells as lists -/
def wr (x : Int) : Int := Int.bmod x 4294967296
def wrL (x : Int) : Int := Int.bmod x 18446744073709551616
def iR (x : Int) : Prop := -2147483648 ≤ x ∧ x < 2147483648
def lR (x : Int) : Prop := -9223372036854775808 ≤ x ∧ x < 9223372036854775808
theorem wr_R (x : Int) : iR (wr x) := by
  unfold wr iR
  have h1 := Int.le_bmod (x := x) (m := 4294967296) (by omega)
  have h2 := Int.bmod_lt (x := x) (m := 4294967296) (by omega)
  omega
theorem wrL_R (x : Int) : lR (wrL x) := by
  unfold wrL lR
  have h1 := Int.le_bmod (x := x) (m := 18446744073709551616) (by omega)
  have h2 := Int.bmod_lt (x := x) (m := 18446744073709551616) (by omega)
  omega
theorem wr_eq {x : Int} (h : iR x) : wr x = x := by
  unfold wr
  exact Int.bmod_eq_of_le (by have := h.1; omega) (by have := h.2; omega)
theorem wrL_eq {x : Int} (h : lR x) : wrL x = x := by
  unfold wrL
  exact Int.bmod_eq_of_le (by have := h.1; omega) (by have := h.2; omega)
theorem oi_wr (x : Int) : Int32.ofInt (wr x) = Int32.ofInt x := by
  apply Int32.toInt_inj.mp
  rw [Int32.toInt_ofInt, Int32.toInt_ofInt]
  unfold wr
  exact Int.bmod_bmod
theorem ol_wr (x : Int) : Int64.ofInt (wrL x) = Int64.ofInt x := by
  apply Int64.toInt_inj.mp
  rw [Int64.toInt_ofInt, Int64.toInt_ofInt]
  unfold wrL
  exact Int.bmod_bmod
theorem ti_oi {x : Int} (h : iR x) : (Int32.ofInt x).toInt = x := by
  rw [Int32.toInt_ofInt]
  exact wr_eq h
theorem tl_ol {x : Int} (h : lR x) : (Int64.ofInt x).toInt = x := by
  rw [Int64.toInt_ofInt]
  exact wrL_eq h
theorem ti_R (x : Int32) : iR x.toInt := by
  have h1 := Int32.le_toInt x
  have h2 := Int32.toInt_lt x
  exact ⟨by simpa using h1, by simpa using h2⟩
theorem oi_ti (x : Int32) : Int32.ofInt x.toInt = x := Int32.ofInt_toInt x
theorem ol_tl (x : Int64) : Int64.ofInt x.toInt = x := Int64.ofInt_toInt x
theorem oi_eq {x y : Int} (hx : iR x) (hy : iR y) : Int32.ofInt x = Int32.ofInt y ↔ x = y :=
  ⟨fun h => by have := congrArg Int32.toInt h; rwa [ti_oi hx, ti_oi hy] at this, fun h => by rw [h]⟩
theorem oi_lt {x y : Int} (hx : iR x) (hy : iR y) : Int32.ofInt x < Int32.ofInt y ↔ x < y := by
  rw [Int32.lt_iff_toInt_lt, ti_oi hx, ti_oi hy]
theorem oi_le {x y : Int} (hx : iR x) (hy : iR y) : Int32.ofInt x ≤ Int32.ofInt y ↔ x ≤ y := by
  rw [Int32.le_iff_toInt_le, ti_oi hx, ti_oi hy]
theorem oi_0 : Int32.ofInt 0 = 0 := rfl
theorem oi_add (x y : Int) : Int32.ofInt x + Int32.ofInt y = Int32.ofInt (wr (x + y)) := by
  rw [oi_wr]; exact (Int32.ofInt_add x y).symm
theorem oi_sub (x y : Int) : Int32.ofInt x - Int32.ofInt y = Int32.ofInt (wr (x - y)) := by
  rw [oi_wr]; exact (Int32.ofInt_sub x y).symm
theorem oi_mul (x y : Int) : Int32.ofInt x * Int32.ofInt y = Int32.ofInt (wr (x * y)) := by
  rw [oi_wr]; exact (Int32.ofInt_mul x y).symm
theorem oi_neg (x : Int) : - Int32.ofInt x = Int32.ofInt (wr (-x)) := by
  rw [oi_wr]; exact (Int32.ofInt_neg x).symm
theorem in_R : ∀ {x : Int} {n : Nat}, 0 ≤ x → x < n → n < 2 ^ 31 → iR x := by
  intro x n h0 h1 h2
  unfold iR
  omega
theorem oi_in {x : Int} {n : Nat} (h0 : 0 ≤ x) (h1 : x < n) (hn : n < 2 ^ 31) : vp_in (Int32.ofInt x) n := by
  rw [vp_in_iff, ti_oi (in_R h0 h1 hn)]
  exact ⟨h0, h1⟩
theorem oi_cl {x : Int} {n : Nat} (h0 : 0 ≤ x) (h1 : x < n) (hn : n < 2 ^ 31) : (Int32.ofInt x).toNatClampNeg = x.toNat := by
  show (Int32.ofInt x).toInt.toNat = _
  rw [ti_oi (in_R h0 h1 hn)]
/-- values, by whole numbers: an int, a long, a cell by its place -/
abbrev dX : Type := Int ⊕ Int ⊕ Nat
abbrev dS : Type := Nat → Int → Int
def up (σ : dS) (k : Nat) (i : Int) (v : Int) : dS := fun k' i' => if k' = k ∧ i' = i then v else σ k' i'
theorem up_same (σ : dS) (k : Nat) (i v : Int) : up σ k i v k i = v := by simp [up]
theorem up_ne (σ : dS) {k k' : Nat} {i i' v : Int} (h : ¬ (k' = k ∧ i' = i)) : up σ k i v k' i' = σ k' i' := by simp only [up, if_neg h]
