/-! BITS AS NUMBERS -/
theorem ofi_nat {x : Int} (x0 : 0 ≤ x) (x1 : x < 2147483648) : (Int32.ofInt x).toBitVec.toNat = x.toNat := by
  show (BitVec.ofInt 32 x).toNat = _
  rw [BitVec.toNat_ofInt]
  omega
theorem toi_nat {a : Int32} (h : a.toBitVec.toNat < 2147483648) : a.toInt = (a.toBitVec.toNat : Int) := by
  show a.toBitVec.toInt = _
  rw [BitVec.toInt_eq_toNat_cond, if_pos (by omega)]
theorem ior_nat {x y : Int} (x0 : 0 ≤ x) (x1 : x < 2147483648) (y0 : 0 ≤ y) (y1 : y < 2147483648) : ior x y = ((x.toNat ||| y.toNat : Nat) : Int) := by
  have e : (Int32.ofInt x ||| Int32.ofInt y).toBitVec.toNat = x.toNat ||| y.toNat := by
    rw [Int32.toBitVec_or, BitVec.toNat_or, ofi_nat x0 x1, ofi_nat y0 y1]
  unfold ior
  rw [toi_nat, e]
  rw [e]
  exact Nat.or_lt_two_pow (n := 31) (by omega) (by omega)
theorem ior_2 {x y : Int} {k : Nat} (k31 : k ≤ 31) (x0 : 0 ≤ x) (x1 : x < 2 ^ k) (y0 : 0 ≤ y) (y1 : y < 2 ^ k) : 0 ≤ ior x y ∧ ior x y < 2 ^ k := by
  have h : (2 : Nat) ^ k ≤ 2 ^ 31 := Nat.pow_le_pow_right (by decide) k31
  have e : ((2 ^ k : Nat) : Int) = 2 ^ k := by simp
  have x1' : x.toNat < 2 ^ k := by omega
  have y1' : y.toNat < 2 ^ k := by omega
  rw [ior_nat x0 (by omega) y0 (by omega)]
  have := Nat.or_lt_two_pow x1' y1'
  omega
theorem ush_nat {x s : Int} (x0 : 0 ≤ x) (x1 : x < 2147483648) (s0 : 0 ≤ s) (s1 : s < 32) : ush x s = x / 2 ^ s.toNat := by
  have es : ∀ r : Fin 32, ((Int32.ofInt ((r.val : Nat) : Int)).toUInt32 &&& Int32.toUInt32 31).toNat = r.val := by decide
  have h := es ⟨s.toNat, by omega⟩
  have e : ((s.toNat : Nat) : Int) = s := by omega
  simp only [e] at h
  have hx : ((Int32.ofInt x).toUInt32 >>> ((Int32.ofInt s).toUInt32 &&& Int32.toUInt32 31)).toNat = x.toNat >>> s.toNat := by
    rw [UInt32.toNat_shiftRight, h]
    have : (Int32.ofInt x).toUInt32.toNat = x.toNat := ofi_nat x0 x1
    rw [this, Nat.mod_eq_of_lt (by omega)]
  unfold ush
  have h2 : (((Int32.ofInt x).toUInt32 >>> ((Int32.ofInt s).toUInt32 &&& Int32.toUInt32 31)).toInt32).toBitVec.toNat = x.toNat >>> s.toNat := hx
  have h3 : x.toNat >>> s.toNat ≤ x.toNat := Nat.shiftRight_le _ _
  rw [toi_nat (by omega), h2, Nat.shiftRight_eq_div_pow]
  have ep : ((2 ^ s.toNat : Nat) : Int) = 2 ^ s.toNat := by simp
  rw [← ep, Int.natCast_ediv]
  congr 1
  omega
theorem shl1_dec : ∀ r : Fin 31, shl 1 ((r.val : Nat) : Int) = 2 ^ r.val := by decide
theorem shl1 {r : Int} (r0 : 0 ≤ r) (r1 : r < 31) : shl 1 r = 2 ^ r.toNat := by
  have h := shl1_dec ⟨r.toNat, by omega⟩
  have e : ((r.toNat : Nat) : Int) = r := by omega
  simp only [e] at h
  exact h
theorem shr_nat {x s : Int} (x0 : 0 ≤ x) (x1 : x < 2147483648) (s0 : 0 ≤ s) (s1 : s < 32) : shr x s = x / 2 ^ s.toNat := by
  have es : ∀ r : Fin 32, (Int32.ofInt ((r.val : Nat) : Int) &&& 31).toBitVec.smod 32 = BitVec.ofNat 32 r.val := by decide
  have h := es ⟨s.toNat, by omega⟩
  have e : ((s.toNat : Nat) : Int) = s := by omega
  simp only [e] at h
  have hb : (Int32.ofInt x >>> (Int32.ofInt s &&& 31)).toBitVec = (Int32.ofInt x).toBitVec.sshiftRight s.toNat := by
    show BitVec.sshiftRight' (Int32.ofInt x).toBitVec ((Int32.ofInt s &&& 31).toBitVec.smod 32) = _
    rw [h]
    unfold BitVec.sshiftRight'
    rw [BitVec.toNat_ofNat, Nat.mod_eq_of_lt (by omega)]
  have hx := ofi_nat x0 x1
  have hm : (Int32.ofInt x).toBitVec.msb = false := by
    rw [BitVec.msb_eq_false_iff_two_mul_lt, hx]; omega
  have h3 : x.toNat >>> s.toNat ≤ x.toNat := Nat.shiftRight_le _ _
  unfold shr
  have h2 : (Int32.ofInt x >>> (Int32.ofInt s &&& 31)).toBitVec.toNat = x.toNat >>> s.toNat := by
    rw [hb, BitVec.sshiftRight_eq_of_msb_false hm, BitVec.toNat_ushiftRight, hx]
  rw [toi_nat (by omega), h2, Nat.shiftRight_eq_div_pow]
  have ep : ((2 ^ s.toNat : Nat) : Int) = 2 ^ s.toNat := by simp
  rw [← ep, Int.natCast_ediv]
  congr 1
  omega
theorem ian3_nat {x : Int} (x0 : 0 ≤ x) (x1 : x < 2147483648) : ian x 3 = x % 4 := by
  have e : (Int32.ofInt x &&& Int32.ofInt 3).toBitVec.toNat = x.toNat % 4 := by
    rw [Int32.toBitVec_and, BitVec.toNat_and, ofi_nat x0 x1]
    show x.toNat &&& 3 = _
    exact Nat.and_two_pow_sub_one_eq_mod x.toNat 2
  unfold ian
  rw [toi_nat (by omega), e]
  omega
