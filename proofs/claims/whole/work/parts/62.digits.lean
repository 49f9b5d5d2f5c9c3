/-! ROWS OF GRAINS AS NUMBERS TO THE BASE 4 -/
/-- sum of the last k digits to the base 4 -/
def dsf : Nat → Nat → Nat
  | 0, _ => 0
  | k + 1, x => x % 4 + dsf k (x / 4)
def dgt (R x r : Nat) : Nat := x / 4 ^ (R - 1 - r) % 4
theorem dsf_app (k : Nat) : ∀ (m a b : Nat), b < 4 ^ m → dsf (k + m) (a * 4 ^ m + b) = dsf k a + dsf m b
  | 0, a, b, h => by
    have : b = 0 := by rw [Nat.pow_zero] at h; omega
    subst this
    rw [Nat.pow_zero, Nat.mul_one, Nat.add_zero, Nat.add_zero]; rfl
  | m + 1, a, b, h => by
    have e : a * 4 ^ (m + 1) = (a * 4 ^ m) * 4 := by rw [Nat.pow_succ, Nat.mul_assoc]
    have h2 : b / 4 < 4 ^ m := by rw [Nat.pow_succ] at h; omega
    have ih := dsf_app k m a (b / 4) h2
    show dsf (k + m + 1) (a * 4 ^ (m + 1) + b) = _
    rw [dsf, dsf, e]
    have e1 : (a * 4 ^ m * 4 + b) % 4 = b % 4 := by omega
    have e2 : (a * 4 ^ m * 4 + b) / 4 = a * 4 ^ m + b / 4 := by omega
    rw [e1, e2, ih]; omega
theorem dsf_small {k x : Nat} (hk : 0 < k) (h : x < 4) : dsf k x = x := by
  cases k with
  | zero => omega
  | succ k =>
    have z : ∀ k, dsf k 0 = 0 := by
      intro k
      induction k with
      | zero => rfl
      | succ k ih => rw [dsf, Nat.zero_div, ih]
    rw [dsf, show x / 4 = 0 by omega, z]; omega
theorem dsf_zero : ∀ k, dsf k 0 = 0
  | 0 => rfl
  | k + 1 => by rw [dsf, Nat.zero_div, dsf_zero k]
theorem dsf_pos : ∀ {k x : Nat}, x < 4 ^ k → 0 < x → 0 < dsf k x
  | 0, x, h, h0 => by rw [Nat.pow_zero] at h; omega
  | k + 1, x, h, h0 => by
    rw [dsf]
    by_cases z : x % 4 = 0
    · have := dsf_pos (k := k) (x := x / 4) (by rw [Nat.pow_succ] at h; omega) (by omega)
      omega
    · omega
theorem dsf_mod (k : Nat) : ∀ x, x % 4 ≤ dsf (k + 1) x := fun x => by rw [dsf]; omega
/-- the next row of as many grains -/
theorem next_row {R j A h : Nat} (jR : j < R) (j1 : 1 ≤ j) (hA : A < 4 ^ j) (h0 : 1 ≤ h) (h3 : h ≤ 3) (hs : dsf j A + h ≤ 3) :
    let q := 4 ^ (R - 1 - j)
    (4 * A + h) * q < 4 ^ R ∧ (A + 1) * (4 * q) + (h - 1) < 4 ^ R ∧ dsf R ((4 * A + h) * q) = dsf j A + h ∧ dsf R ((A + 1) * (4 * q) + (h - 1)) = dsf j A + h ∧ (4 * A + h) * q < (A + 1) * (4 * q) + (h - 1) ∧ ∀ y, (4 * A + h) * q < y → y < (A + 1) * (4 * q) + (h - 1) → dsf R y ≠ dsf j A + h := by
  intro q
  have q1 : 1 ≤ q := Nat.pow_pos (by decide)
  have e4 : 4 ^ (R - j) = 4 * q := by
    have : R - j = (R - 1 - j) + 1 := by omega
    rw [this, Nat.pow_succ, Nat.mul_comm]
  have eR : 4 ^ R = 4 ^ j * (4 * q) := by rw [← e4, ← Nat.pow_add]; congr 1; omega
  have aLast : A % 4 ≤ 2 := by
    have : A % 4 ≤ dsf j A := by
      cases j with
      | zero => omega
      | succ j => exact dsf_mod j A
    omega
  have hA1 : A + 1 < 4 ^ j := by
    -- the last digit of A is at most 2
    have e : 4 ^ j = 4 * 4 ^ (j - 1) := by
      have : j = (j - 1) + 1 := by omega
      rw [this, Nat.pow_succ, Nat.mul_comm]; simp
    omega
  have dA1 : dsf j (A + 1) = dsf j A + 1 := by
    cases j with
    | zero => omega
    | succ j =>
      rw [dsf, dsf]
      have e1 : (A + 1) % 4 = A % 4 + 1 := by omega
      have e2 : (A + 1) / 4 = A / 4 := by omega
      rw [e1, e2]; omega
  have hq : h * q ≤ 3 * q := Nat.mul_le_mul_right q h3
  have split : ∀ a b, b < 4 * q → dsf R (a * (4 * q) + b) = dsf j a + dsf (R - j) b := by
    intro a b hb
    have := dsf_app j (R - j) a b (by rw [e4]; exact hb)
    rw [e4, show j + (R - j) = R by omega] at this
    exact this
  have ex : (4 * A + h) * q = A * (4 * q) + h * q := by rw [Nat.add_mul, Nat.mul_comm 4 A, Nat.mul_assoc]
  have split2 : ∀ a b, a ≤ 3 → b < q → dsf (R - j) (a * q + b) = a + dsf (R - 1 - j) b := by
    intro a b ha hb
    have := dsf_app 1 (R - 1 - j) a b hb
    have s1 : dsf 1 a = a := dsf_small (by decide) (by omega)
    rw [show 1 + (R - 1 - j) = R - j by omega, s1] at this
    exact this
  have lt1 : A * (4 * q) + 4 * q ≤ 4 ^ j * (4 * q) := by
    have := Nat.mul_le_mul_right (4 * q) (show A + 1 ≤ 4 ^ j by omega)
    rw [Nat.add_mul, Nat.one_mul] at this
    exact this
  have lt2 : (A + 1) * (4 * q) + 4 * q ≤ 4 ^ j * (4 * q) := by
    have := Nat.mul_le_mul_right (4 * q) (show A + 1 + 1 ≤ 4 ^ j by omega)
    rw [Nat.add_mul (A + 1), Nat.one_mul] at this
    exact this
  have eA1 : (A + 1) * (4 * q) = A * (4 * q) + 4 * q := by rw [Nat.add_mul, Nat.one_mul]
  refine ⟨?_, ?_, ?_, ?_, ?_, ?_⟩
  · rw [ex, eR]; omega
  · rw [eR]; omega
  · rw [ex, split A (h * q) (by omega)]
    have := split2 h 0 h3 (by omega)
    rw [Nat.add_zero, dsf_zero] at this
    rw [this]
    rfl
  · have s1 : dsf (R - j) (h - 1) = h - 1 := dsf_small (by omega) (by omega)
    rw [split (A + 1) (h - 1) (by omega), dA1, s1]; omega
  · rw [ex, eA1]; omega
  · intro y y0 y1
    rw [ex] at y0
    by_cases z : y < (A + 1) * (4 * q)
    · have ez : y = A * (4 * q) + (y - A * (4 * q)) := by omega
      rw [ez, split A _ (by omega)]
      have hd := Nat.div_add_mod (y - A * (4 * q)) q
      have hm := Nat.mod_lt (y - A * (4 * q)) (show q > 0 by omega)
      generalize (y - A * (4 * q)) / q = a at *
      generalize (y - A * (4 * q)) % q = b at *
      have a3 : a ≤ 3 := by
        by_cases w : a ≤ 3
        · exact w
        · have : 4 * q ≤ a * q := Nat.mul_le_mul_right q (by omega)
          rw [Nat.mul_comm] at hd; omega
      rw [← hd, Nat.mul_comm q a, split2 a b a3 hm]
      by_cases w : a < h
      · exfalso
        have : a * q + q ≤ h * q := by
          have := Nat.mul_le_mul_right q (show a + 1 ≤ h by omega)
          rw [Nat.add_mul, Nat.one_mul] at this; exact this
        rw [Nat.mul_comm] at hd; omega
      · by_cases w2 : a = h
        · subst w2
          have b0 : 0 < b := by rw [Nat.mul_comm] at hd; omega
          have := dsf_pos (k := R - 1 - j) hm b0
          omega
        · omega
    · have ez : y = (A + 1) * (4 * q) + (y - (A + 1) * (4 * q)) := by omega
      have s1 : dsf (R - j) (y - (A + 1) * (4 * q)) = y - (A + 1) * (4 * q) := dsf_small (by omega) (by omega)
      rw [ez, split (A + 1) _ (by omega), dA1, s1]
      omega
theorem div_pow_add (x a b : Nat) : x / 4 ^ (a + b) = x / 4 ^ a / 4 ^ b := by rw [Nat.pow_add, Nat.div_div_eq_div_mul]
theorem low_zero {R x j : Nat} (jR : j < R) : (∀ r, j < r → r < R → dgt R x r = 0) → x % 4 ^ (R - 1 - j) = 0 := by
  intro h
  have key : ∀ m, m ≤ R - 1 - j → x % 4 ^ m = 0 := by
    intro m
    induction m with
    | zero => intro _; rw [Nat.pow_zero, Nat.mod_one]
    | succ m ih =>
      intro hm
      rw [Nat.pow_succ, Nat.mod_mul, ih (by omega)]
      have := h (R - 1 - m) (by omega) (by omega)
      unfold dgt at this
      rw [show R - 1 - (R - 1 - m) = m by omega] at this
      rw [this]; simp
  exact key _ (Nat.le_refl _)
/-- a row with its last grains at j -/
theorem row_eq {R x j : Nat} (jR : j < R) (h : ∀ r, j < r → r < R → dgt R x r = 0) : x = (4 * (x / 4 ^ (R - j)) + dgt R x j) * 4 ^ (R - 1 - j) := by
  have h0 := low_zero jR h
  have e1 : R - j = (R - 1 - j) + 1 := by omega
  have e2 : x / 4 ^ (R - j) = x / 4 ^ (R - 1 - j) / 4 := by rw [e1, div_pow_add, Nat.pow_one]
  unfold dgt
  rw [e2, Nat.div_add_mod]
  have := Nat.div_add_mod x (4 ^ (R - 1 - j))
  rw [h0, Nat.add_zero, Nat.mul_comm] at this
  exact this.symm
theorem dsf_top {R x : Nat} : ∀ {r : Nat}, r < R → dsf (r + 1) (x / 4 ^ (R - (r + 1))) = dgt R x r + dsf r (x / 4 ^ (R - r)) := by
  intro r h
  rw [dsf]
  unfold dgt
  rw [show R - (r + 1) = R - 1 - r by omega, show R - r = (R - 1 - r) + 1 by omega, div_pow_add x (R - 1 - r) 1, Nat.pow_one]
theorem dsf_le {R x : Nat} : ∀ (m r : Nat), r + m = R → dsf r (x / 4 ^ (R - r)) ≤ dsf R x
  | 0, r, h => by
    have : r = R := by omega
    subst this
    rw [Nat.sub_self, Nat.pow_zero, Nat.div_one]
    exact Nat.le_refl _
  | m + 1, r, h => by
    have ih := dsf_le (R := R) (x := x) m (r + 1) (by omega)
    have := dsf_top (R := R) (x := x) (r := r) (by omega)
    omega
theorem dgt_lt (R x r : Nat) : dgt R x r < 4 := Nat.mod_lt _ (by decide)
theorem div4q {R j A h : Nat} (jR : j < R) (h0 : 1 ≤ h) (h3 : h ≤ 3) : ((A + 1) * (4 * 4 ^ (R - 1 - j)) + (h - 1)) / 4 ^ (R - j) = A + 1 := by
  have e : 4 ^ (R - j) = 4 * 4 ^ (R - 1 - j) := by
    have : R - j = (R - 1 - j) + 1 := by omega
    rw [this, Nat.pow_succ, Nat.mul_comm]
  have q1 : 1 ≤ 4 ^ (R - 1 - j) := Nat.pow_pos (by decide)
  rw [e, Nat.mul_comm (A + 1), Nat.mul_add_div (by omega), Nat.div_eq_of_lt (by omega)]
theorem dgt_hi {R x j r : Nat} (rj : r < j) (jR : j < R) : dgt R x r = x / 4 ^ (R - j) / 4 ^ (j - 1 - r) % 4 := by
  unfold dgt
  rw [show R - 1 - r = (R - j) + (j - 1 - r) by omega, div_pow_add]
theorem next_dgt {R j A h : Nat} (jR : j < R) (j1 : 1 ≤ j) (h0 : 1 ≤ h) (h3 : h ≤ 3) (aL : A % 4 ≤ 2) (r : Nat) (rR : r < R) :
    dgt R ((A + 1) * (4 * 4 ^ (R - 1 - j)) + (h - 1)) r = if r + 1 < j then A / 4 ^ (j - 1 - r) % 4 else if r + 1 = j then A % 4 + 1 else if r = R - 1 then h - 1 else 0 := by
  by_cases c1 : r < j
  · rw [dgt_hi c1 jR, div4q jR h0 h3]
    by_cases c2 : r + 1 < j
    · rw [if_pos c2]
      have : j - 1 - r = 1 + (j - 2 - r) := by omega
      rw [this, div_pow_add, div_pow_add, Nat.pow_one, show (A + 1) / 4 = A / 4 by omega]
    · have c3 : r + 1 = j := by omega
      rw [if_neg c2, if_pos c3, show j - 1 - r = 0 by omega, Nat.pow_zero, Nat.div_one]
      omega
  · rw [if_neg (by omega), if_neg (by omega)]
    unfold dgt
    have e : (A + 1) * (4 * 4 ^ (R - 1 - j)) = 4 ^ (R - 1 - r) * (4 * ((A + 1) * 4 ^ (r - j))) := by
      have : 4 ^ (R - 1 - j) = 4 ^ (R - 1 - r) * 4 ^ (r - j) := by rw [← Nat.pow_add]; congr 1; omega
      rw [this]
      simp [Nat.mul_comm, Nat.mul_left_comm, Nat.mul_assoc]
    have q1 : 1 ≤ 4 ^ (R - 1 - r) := Nat.pow_pos (by decide)
    rw [e, Nat.mul_add_div (by omega)]
    by_cases c4 : r = R - 1
    · rw [if_pos c4, c4, Nat.sub_self, Nat.pow_zero, Nat.div_one]; omega
    · rw [if_neg c4]
      have : (h - 1) / 4 ^ (R - 1 - r) = 0 := by
        apply Nat.div_eq_of_lt
        have : 4 ^ 1 ≤ 4 ^ (R - 1 - r) := Nat.pow_le_pow_right (by decide) (by omega)
        omega
      rw [this]; omega
theorem small_dgt {R n r : Nat} (rR : r < R) (h : n < 4) : dgt R n r = if r = R - 1 then n else 0 := by
  unfold dgt
  by_cases c : r = R - 1
  · rw [if_pos c, c, Nat.sub_self, Nat.pow_zero, Nat.div_one]; omega
  · rw [if_neg c]
    have : n / 4 ^ (R - 1 - r) = 0 := by
      apply Nat.div_eq_of_lt
      have : 4 ^ 1 ≤ 4 ^ (R - 1 - r) := Nat.pow_le_pow_right (by decide) (by omega)
      omega
    rw [this]
/-- behind the last row there is none -/
theorem last_row {R x y : Nat} (R1 : 1 ≤ R) (h : ∀ r, 1 ≤ r → r < R → dgt R x r = 0) (xR : x < 4 ^ R) (xy : x < y) (yR : y < 4 ^ R) : dsf R y ≠ dsf R x := by
  have ex := row_eq (R := R) (x := x) (j := 0) (by omega) (fun r r0 r1 => h r (by omega) r1)
  rw [Nat.sub_zero, Nat.div_eq_of_lt xR, Nat.mul_zero, Nat.zero_add, Nat.sub_zero] at ex
  generalize hd : dgt R x 0 = a at ex
  have a4 : a < 4 := by rw [← hd]; exact dgt_lt _ _ _
  have eR : 4 ^ R = 4 * 4 ^ (R - 1) := by
    have : R = (R - 1) + 1 := by omega
    rw [this, Nat.pow_succ, Nat.mul_comm]; simp
  have split : ∀ a b, a < 4 → b < 4 ^ (R - 1) → dsf R (a * 4 ^ (R - 1) + b) = a + dsf (R - 1) b := by
    intro a b ha hb
    have := dsf_app 1 (R - 1) a b hb
    have s1 : dsf 1 a = a := dsf_small (by decide) ha
    rw [show 1 + (R - 1) = R by omega, s1] at this
    exact this
  have q1 : 1 ≤ 4 ^ (R - 1) := Nat.pow_pos (by decide)
  have dx : dsf R x = a := by
    have := split a 0 a4 (by omega)
    rw [Nat.add_zero, dsf_zero] at this
    rw [ex, this]; rfl
  have hd := Nat.div_add_mod y (4 ^ (R - 1))
  have hm := Nat.mod_lt y (show 4 ^ (R - 1) > 0 by omega)
  have hb4 : y / 4 ^ (R - 1) < 4 := by
    apply Nat.div_lt_of_lt_mul
    rw [Nat.mul_comm, ← eR]; exact yR
  rw [dx]
  rw [ex] at xy
  generalize y / 4 ^ (R - 1) = b at *
  generalize y % 4 ^ (R - 1) = c at *
  rw [Nat.mul_comm] at hd
  rw [← hd, split b c hb4 hm]
  by_cases w : b < a
  · exfalso
    have : b * 4 ^ (R - 1) + 4 ^ (R - 1) ≤ a * 4 ^ (R - 1) := by
      have := Nat.mul_le_mul_right (4 ^ (R - 1)) (show b + 1 ≤ a by omega)
      rw [Nat.add_mul, Nat.one_mul] at this; exact this
    omega
  · by_cases w2 : b = a
    · subst w2
      have := dsf_pos (k := R - 1) hm (by omega)
      omega
    · omega
/-- how many rows lie below x -/
def cntR (k n : Nat) : Nat → Nat
  | 0 => 0
  | x + 1 => cntR k n x + (if dsf k x = n then 1 else 0)
theorem cntR_mono (k n : Nat) {x : Nat} : ∀ m, cntR k n x ≤ cntR k n (x + m)
  | 0 => Nat.le_refl _
  | m + 1 => by
    have := cntR_mono k n (x := x) m
    show _ ≤ cntR k n (x + m + 1)
    rw [cntR]; omega
def ttR : Nat → Nat → Nat
  | 0, n => if n = 0 then 1 else 0
  | k + 1, n => ttR k n + (if 1 ≤ n then ttR k (n - 1) else 0) + (if 2 ≤ n then ttR k (n - 2) else 0) + (if 3 ≤ n then ttR k (n - 3) else 0)
theorem cntR_4 (k n : Nat) : ∀ X, cntR (k + 1) n (4 * X) = cntR k n X + (if 1 ≤ n then cntR k (n - 1) X else 0) + (if 2 ≤ n then cntR k (n - 2) X else 0) + (if 3 ≤ n then cntR k (n - 3) X else 0)
  | 0 => by simp [cntR]
  | X + 1 => by
    have ih := cntR_4 k n X
    have d0 : dsf (k + 1) (4 * X) = dsf k X := by rw [dsf, show 4 * X % 4 = 0 by omega, show 4 * X / 4 = X by omega]; omega
    have d1 : dsf (k + 1) (4 * X + 1) = 1 + dsf k X := by rw [dsf, show (4 * X + 1) % 4 = 1 by omega, show (4 * X + 1) / 4 = X by omega]
    have d2 : dsf (k + 1) (4 * X + 2) = 2 + dsf k X := by rw [dsf, show (4 * X + 2) % 4 = 2 by omega, show (4 * X + 2) / 4 = X by omega]
    have d3 : dsf (k + 1) (4 * X + 3) = 3 + dsf k X := by rw [dsf, show (4 * X + 3) % 4 = 3 by omega, show (4 * X + 3) / 4 = X by omega]
    show cntR (k + 1) n (4 * X + 3 + 1) = _
    rw [cntR, cntR, cntR, cntR, ih, d0, d1, d2, d3]
    simp only [cntR]
    generalize dsf k X = z
    split <;> split <;> split <;> split <;> split <;> split <;> split <;> (try split) <;> (try split) <;> (try split) <;> omega
theorem cntR_tt : ∀ (k n : Nat), cntR k n (4 ^ k) = ttR k n
  | 0, n => by
    show cntR 0 n 0 + (if dsf 0 0 = n then 1 else 0) = _
    rw [cntR, ttR, dsf]
    by_cases z : n = 0
    · rw [if_pos z, if_pos z.symm]
    · rw [if_neg z, if_neg (fun q => z q.symm)]
  | k + 1, n => by
    rw [Nat.pow_succ, Nat.mul_comm, cntR_4, cntR_tt k n, cntR_tt k (n - 1), cntR_tt k (n - 2), cntR_tt k (n - 3), ttR]
theorem tt_220 : ∀ k : Fin 11, ∀ n : Fin 4, ttR k.val n.val ≤ 220 := by decide
