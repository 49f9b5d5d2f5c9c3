/-! THE NIGHT, as both pass it: a night's state n has mice 0, caught 1, stops come to 2, minutes 3, comes 4, leaves 5, the cells in their order 6, how many 7 -/
theorem idv_pos {x y : Int} (h0 : 0 ≤ x) (h1 : x < 2147483648) (h2 : 0 < y) (h3 : y < 2147483648) : idv x y = x / y := by
  unfold idv
  rw [Int32.toInt_div, ti_oi ⟨by omega, by omega⟩, ti_oi ⟨by omega, by omega⟩, Int.tdiv_eq_ediv_of_nonneg h0]
  have a1 : 0 ≤ x / y := Int.ediv_nonneg h0 (by omega)
  have a2 : x / y ≤ x := Int.ediv_le_self y h0
  exact Int.bmod_eq_of_le (by omega) (by omega)
theorem irm_pos {x y : Int} (h0 : 0 ≤ x) (h1 : x < 2147483648) (h2 : 0 < y) (h3 : y < 2147483648) : irm x y = x % y := by
  have e := idv_pos h0 h1 h2 h3
  unfold idv at e
  unfold irm
  have a1 : 0 ≤ x / y := Int.ediv_nonneg h0 (by omega)
  have a2 : x / y ≤ x := Int.ediv_le_self y h0
  have a3 : x / y * y ≤ x := Int.ediv_mul_le x (by omega)
  have a4 : 0 ≤ x / y * y := Int.mul_nonneg a1 (by omega)
  have hx : (Int32.ofInt x).toInt = x := ti_oi ⟨by omega, by omega⟩
  have hy : (Int32.ofInt y).toInt = y := ti_oi ⟨by omega, by omega⟩
  have m1 : (Int32.ofInt x / Int32.ofInt y * Int32.ofInt y).toInt = x / y * y := by
    rw [Int32.toInt_mul, e, hy]
    exact Int.bmod_eq_of_le (by omega) (by omega)
  rw [Int32.toInt_sub, m1, hx]
  rw [Int.bmod_eq_of_le (by omega) (by omega)]
  have := Int.emod_add_mul_ediv x y
  rw [Int.mul_comm] at this
  omega
abbrev nestb (S : dS) (t : Nat) (o : Int) : Prop := ian (shr (S t 3) o) 1 = 1
def wls (S : dS) (t : Nat) (mi o i m : Int) (j : Int) : Int := if j = 0 then mi else if j = 1 then S (t + 2) (S 17 (8 * o + i)) else if j = 2 then S 11 o else if j = 3 then i else if j = 4 then S t 1 else if j = 5 then (if S t 2 = 0 then 0 else 1) else idv m 60
def hvl (S : dS) (t : Nat) (mi o i m : Int) : Int := if S t 0 = -1 then (if mi ≤ 0 then 2 else 3) else max 0 (min 30 (evR S (S t 0) (wls S t mi o i m)))
def fly1 (S : dS) (t : Nat) (o m : Int) : Int := if S 11 o = 1 ∧ 4 ≤ S t 1 then idv (m + 1) 2 else m
def fly (S : dS) (t : Nat) (o c : Int) : Int := if S t 2 = 0 then fly1 S t o (S 9 (10 * S 17 c + S 17 (c + 1))) else 2 * fly1 S t o (S 9 (10 * S 17 c + S 17 (c + 1)))
def fu (S : dS) (n : dS) (o : Int) : Int := if n 2 o < S 15 o then n 3 o else 2147483647
def pk (f : Int → Int) : Nat → Int
  | 0 => -1
  | k + 1 => if (if pk f k = -1 then 2147483647 else f (pk f k)) ≤ f (k : Int) then pk f k else (k : Int)
def best (S n : dS) : Int := pk (fu S n) (S 5 2).toNat
/-- the hunt of owl b -/
def hu (S : dS) (t : Nat) (n : dS) (b : Int) : Int := hvl S t (n 0 (S 17 (8 * b + n 2 b))) b (n 2 b) (n 3 b)
def ns1 (S : dS) (t : Nat) (n : dS) (b : Int) : dS := up (up (up (up n 4 (8 * b + n 2 b) (n 3 b)) 5 (8 * b + n 2 b) (n 3 b + hu S t n b)) 6 (n 7 0) (8 * b + n 2 b)) 7 0 (n 7 0 + 1)
def ns2 (S : dS) (t : Nat) (n : dS) (b : Int) : dS := if 0 < hu S t n b ∧ 0 < n 0 (S 17 (8 * b + n 2 b)) then up (up (ns1 S t n b) 0 (S 17 (8 * b + n 2 b)) (n 0 (S 17 (8 * b + n 2 b)) - 1)) 1 b (n 1 b + 1) else ns1 S t n b
def ns3 (S : dS) (t : Nat) (n : dS) (b : Int) : dS := up (ns2 S t n b) 2 b (n 2 b + 1)
def ns (S : dS) (t : Nat) (n : dS) (b : Int) : dS := if n 2 b + 1 < S 15 b then up (ns3 S t n b) 3 b (n 3 b + hu S t n b + fly S t b (8 * b + n 2 b)) else ns3 S t n b
def nstep (S : dS) (t : Nat) (n : dS) : dS := if best S n = -1 then n else ns S t n (best S n)
def nit (S : dS) (t : Nat) : Nat → dS → dS
  | 0, n => n
  | k + 1, n => nit S t k (nstep S t n)
def N0 (S : dS) (t : Nat) : dS := fun k j => if k = 0 then 2 * S (t + 2) j else if k = 2 then (if nestb S t j then S 15 j else 0) else if k = 3 then S (t + 4) j else 0
/-- the night's end -/
def NF (S : dS) (t : Nat) : dS := nit S t 40 (N0 S t)
/-! what holds of a city and of a sky -/
def cityOK (S : dS) : Prop := (0 ≤ S 5 0 ∧ S 5 0 ≤ 10) ∧ (0 ≤ S 5 2 ∧ S 5 2 ≤ 5) ∧ (0 ≤ S 5 3 ∧ S 5 3 ≤ 8) ∧ (60 ≤ S 5 4 ∧ S 5 4 ≤ 600) ∧ (0 ≤ S 26 0 ∧ S 26 0 ≤ 4) ∧
  (∀ o, 0 ≤ o → o < S 5 2 → (0 ≤ S 11 o ∧ S 11 o ≤ 2) ∧ (1 ≤ S 15 o ∧ S 15 o ≤ 8) ∧ (∀ i, 0 ≤ i → i < S 15 o → 0 ≤ S 17 (8 * o + i) ∧ S 17 (8 * o + i) < S 5 0) ∧ (∀ i, 0 ≤ i → i + 1 < S 15 o → 1 ≤ S 9 (10 * S 17 (8 * o + i) + S 17 (8 * o + i + 1)) ∧ S 9 (10 * S 17 (8 * o + i) + S 17 (8 * o + i + 1)) ≤ 60)) ∧
  (∀ p, 0 ≤ p → p < S 5 3 → (0 ≤ S 19 p ∧ S 19 p < S 5 0) ∧ (0 ≤ S 21 p ∧ S 21 p < S 5 0) ∧ (0 ≤ S 23 p ∧ S 23 p ≤ 400) ∧ (0 ≤ S 25 p ∧ S 25 p ≤ 9)) ∧
  (∀ r, 0 ≤ r → r < S 26 0 → ruleOK S r)
def skyOK (S : dS) (t : Nat) : Prop := (-1 ≤ S t 0 ∧ S t 0 < S 26 0) ∧ (0 ≤ S t 1 ∧ S t 1 ≤ 7) ∧ (S t 2 = 0 ∨ S t 2 = 1) ∧ (0 ≤ S t 3 ∧ S t 3 ≤ 31) ∧ (∀ r, 0 ≤ r → r < S 5 0 → 0 ≤ S (t + 2) r ∧ S (t + 2) r ≤ 9) ∧ (∀ o, 0 ≤ o → o < S 5 2 → 0 ≤ S (t + 4) o ∧ S (t + 4) o ≤ 400)
/-- a night's state that can be -/
def NI (S : dS) (t : Nat) (n : dS) : Prop := (∀ r, 0 ≤ r → r < S 5 0 → 0 ≤ n 0 r ∧ n 0 r ≤ 18) ∧ (∀ o, 0 ≤ o → o < S 5 2 → (0 ≤ n 2 o ∧ n 2 o ≤ S 15 o) ∧ (0 ≤ n 3 o ∧ n 3 o ≤ 400 + 150 * n 2 o) ∧ (0 ≤ n 1 o ∧ n 1 o ≤ n 2 o) ∧ (nestb S t o → n 2 o = S 15 o))
theorem pk_r (f : Int → Int) : ∀ k : Nat, pk f k = -1 ∨ (0 ≤ pk f k ∧ pk f k < k ∧ f (pk f k) < 2147483647)
  | 0 => Or.inl rfl
  | k + 1 => by
    have ih := pk_r f k
    unfold pk
    by_cases h : (if pk f k = -1 then 2147483647 else f (pk f k)) ≤ f (k : Int)
    · rw [if_pos h]
      rcases ih with e | e
      · exact Or.inl e
      · exact Or.inr ⟨e.1, by omega, e.2.2⟩
    · rw [if_neg h]
      refine Or.inr ⟨by omega, by omega, ?_⟩
      rcases ih with e | e
      · rw [if_pos e] at h; omega
      · rw [if_neg (by omega)] at h; omega
theorem fu_lt {S n : dS} {o : Int} (h : fu S n o < 2147483647) : n 2 o < S 15 o := by
  unfold fu at h
  by_cases q : n 2 o < S 15 o
  · exact q
  · rw [if_neg q] at h; omega
theorem best_r {S n : dS} (hO : 0 ≤ S 5 2) : best S n = -1 ∨ (0 ≤ best S n ∧ best S n < S 5 2 ∧ n 2 (best S n) < S 15 (best S n)) := by
  rcases pk_r (fu S n) (S 5 2).toNat with e | e
  · exact Or.inl e
  · exact Or.inr ⟨e.1, by have := e.2.1; unfold best; omega, fu_lt e.2.2⟩
theorem hvl_r (S : dS) (t : Nat) (mi o i m : Int) : 0 ≤ hvl S t mi o i m ∧ hvl S t mi o i m ≤ 30 := by
  unfold hvl
  by_cases h : S t 0 = -1
  · rw [if_pos h]
    by_cases g : mi ≤ 0
    · rw [if_pos g]; omega
    · rw [if_neg g]; omega
  · rw [if_neg h]; omega
theorem fly_r {S : dS} {t : Nat} {o c : Int} (h1 : 1 ≤ S 9 (10 * S 17 c + S 17 (c + 1))) (h2 : S 9 (10 * S 17 c + S 17 (c + 1)) ≤ 60) : 1 ≤ fly S t o c ∧ fly S t o c ≤ 120 := by
  have a : 1 ≤ fly1 S t o (S 9 (10 * S 17 c + S 17 (c + 1))) ∧ fly1 S t o (S 9 (10 * S 17 c + S 17 (c + 1))) ≤ 60 := by
    unfold fly1
    by_cases g : S 11 o = 1 ∧ 4 ≤ S t 1
    · rw [if_pos g, idv_pos (by omega) (by omega) (by omega) (by omega)]; omega
    · rw [if_neg g]; omega
  unfold fly
  by_cases g : S t 2 = 0
  · rw [if_pos g]; omega
  · rw [if_neg g]; omega
theorem NI_step {S : dS} {t : Nat} {n : dS} (hc : cityOK S) (hn : NI S t n) : NI S t (nstep S t n) := by
  unfold nstep
  by_cases hb : best S n = -1
  · rw [if_pos hb]; exact hn
  rw [if_neg hb]
  rcases best_r (n := n) hc.2.1.1 with e | e
  · exact absurd e hb
  generalize best S n = b at e hb
  obtain ⟨b0, b1, b2⟩ := e
  obtain ⟨c1, c2, c3, c4, c5, c6, c7, c8⟩ := hc
  obtain ⟨k1, k2, k3, k4⟩ := c6 b b0 b1
  obtain ⟨n1, n2⟩ := hn
  have nb := n2 b b0 b1
  have hw := k3 (n 2 b) nb.1.1 b2
  have hh := hvl_r S t (n 0 (S 17 (8 * b + n 2 b))) b (n 2 b) (n 3 b)
  have hr := n1 (S 17 (8 * b + n 2 b)) hw.1 hw.2
  have e0 : ∀ r, ns S t n b 0 r = (if 0 < hu S t n b ∧ 0 < n 0 (S 17 (8 * b + n 2 b)) ∧ r = S 17 (8 * b + n 2 b) then n 0 r - 1 else n 0 r) := by
    intro r
    unfold ns ns3 ns2 ns1
    by_cases q : n 2 b + 1 < S 15 b <;> by_cases q2 : 0 < hu S t n b ∧ 0 < n 0 (S 17 (8 * b + n 2 b)) <;> by_cases q3 : r = S 17 (8 * b + n 2 b) <;> simp [q, q2, q3, up]
    all_goals (intros; omega)
  have e1 : ∀ o, ns S t n b 1 o = (if 0 < hu S t n b ∧ 0 < n 0 (S 17 (8 * b + n 2 b)) ∧ o = b then n 1 o + 1 else n 1 o) := by
    intro r
    unfold ns ns3 ns2 ns1
    by_cases q : n 2 b + 1 < S 15 b <;> by_cases q2 : 0 < hu S t n b ∧ 0 < n 0 (S 17 (8 * b + n 2 b)) <;> by_cases q3 : r = b <;> simp [q, q2, q3, up]
    all_goals (intros; omega)
  have e2 : ∀ o, ns S t n b 2 o = (if o = b then n 2 o + 1 else n 2 o) := by
    intro r
    unfold ns ns3 ns2 ns1
    by_cases q : n 2 b + 1 < S 15 b <;> by_cases q2 : 0 < hu S t n b ∧ 0 < n 0 (S 17 (8 * b + n 2 b)) <;> by_cases q3 : r = b <;> simp [q, q2, q3, up]
  have e3 : ∀ o, ns S t n b 3 o = (if o = b ∧ n 2 b + 1 < S 15 b then n 3 b + hu S t n b + fly S t b (8 * b + n 2 b) else n 3 o) := by
    intro r
    unfold ns ns3 ns2 ns1
    by_cases q : n 2 b + 1 < S 15 b <;> by_cases q2 : 0 < hu S t n b ∧ 0 < n 0 (S 17 (8 * b + n 2 b)) <;> by_cases q3 : r = b <;> simp [q, q2, q3, up]
  unfold hu at e0 e1 e3
  generalize hvl S t (n 0 (S 17 (8 * b + n 2 b))) b (n 2 b) (n 3 b) = v at hh e0 e1 e3
  refine ⟨fun r r0 r1 => ?_, fun o o0 o1 => ?_⟩
  · have := n1 r r0 r1
    rw [e0]
    by_cases q : 0 < v ∧ 0 < n 0 (S 17 (8 * b + n 2 b)) ∧ r = S 17 (8 * b + n 2 b)
    · rw [if_pos q]
      have q3 := q.2.2
      rw [← q3] at q
      omega
    · rw [if_neg q]; exact this
  · have ho := n2 o o0 o1
    rw [e1, e2, e3]
    by_cases q : o = b
    · subst q
      by_cases q2 : n 2 o + 1 < S 15 o
      · have hf := fly_r (t := t) (o := o) (k4 (n 2 o) nb.1.1 q2).1 (k4 (n 2 o) nb.1.1 q2).2
        rw [if_pos rfl, if_pos ⟨rfl, q2⟩]
        refine ⟨by omega, by omega, ?_, fun z => ?_⟩
        · by_cases q4 : 0 < v ∧ 0 < n 0 (S 17 (8 * o + n 2 o)) ∧ o = o
          · rw [if_pos q4]; omega
          · rw [if_neg q4]; omega
        · have := ho.2.2.2 z; omega
      · rw [if_pos rfl, if_neg (fun z => q2 z.2)]
        refine ⟨by omega, by omega, ?_, fun z => ?_⟩
        · by_cases q4 : 0 < v ∧ 0 < n 0 (S 17 (8 * o + n 2 o)) ∧ o = o
          · rw [if_pos q4]; omega
          · rw [if_neg q4]; omega
        · have := ho.2.2.2 z; omega
    · rw [if_neg q, if_neg (fun z => q z.1), if_neg (fun z => q z.2.2)]
      exact ho
theorem N0_I {S : dS} {t : Nat} (hc : cityOK S) (hs : skyOK S t) : NI S t (N0 S t) := by
  obtain ⟨c1, c2, c3, c4, c5, c6, c7, c8⟩ := hc
  obtain ⟨s1, s2, s3, s4, s5, s6⟩ := hs
  refine ⟨fun r r0 r1 => ?_, fun o o0 o1 => ?_⟩
  · have := s5 r r0 r1
    show 0 ≤ 2 * S (t + 2) r ∧ 2 * S (t + 2) r ≤ 18
    omega
  · have h := s6 o o0 o1
    have k := c6 o o0 o1
    have e2 : N0 S t 2 o = if nestb S t o then S 15 o else 0 := rfl
    have e3 : N0 S t 3 o = S (t + 4) o := rfl
    have e1 : N0 S t 1 o = 0 := rfl
    rw [e1, e2, e3]
    by_cases q : nestb S t o
    · rw [if_pos q]
      refine ⟨by omega, by omega, by omega, fun _ => rfl⟩
    · rw [if_neg q]
      exact ⟨by omega, by omega, by omega, fun z => absurd z q⟩
