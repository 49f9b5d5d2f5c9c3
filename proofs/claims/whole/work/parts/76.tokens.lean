/-! TOKENS: one pure cutting of a text T of n bytes -/
def lxL (x : Int) : Bool := decide (97 ≤ x ∧ x ≤ 122)
def lxD (x : Int) : Bool := decide (48 ≤ x ∧ x ≤ 57)
def lxB (x : Int) : Bool := decide (x = 32 ∨ x = 10)
def lxG (T : Int → Int) (n : Nat) (f : Int → Bool) : Nat → Nat → Nat
  | 0, i => i
  | m + 1, i => if i < n ∧ f (T (i : Int)) = true then lxG T n f m (i + 1) else i
/-- the first place from i on at which f fails, n at the latest -/
def lxE (T : Int → Int) (n : Nat) (f : Int → Bool) (i : Nat) : Nat := lxG T n f (n - i) i
section LX
variable {T T' : Int → Int} {n : Nat} {f : Int → Bool}
theorem lxE_s {i : Nat} (h : i < n) (hf : f (T (i : Int)) = true) : lxE T n f i = lxE T n f (i + 1) := by
  unfold lxE
  obtain ⟨m, hm⟩ : ∃ m, n - i = m + 1 := ⟨n - i - 1, by omega⟩
  rw [hm, show n - (i + 1) = m by omega]
  show (if i < n ∧ f (T (i : Int)) = true then lxG T n f m (i + 1) else i) = _
  rw [if_pos ⟨h, hf⟩]
theorem lxE_e {i : Nat} (h : ¬ (i < n ∧ f (T (i : Int)) = true)) : lxE T n f i = i := by
  unfold lxE
  cases hm : n - i with
  | zero => rfl
  | succ m =>
    show (if i < n ∧ f (T (i : Int)) = true then lxG T n f m (i + 1) else i) = i
    rw [if_neg h]
theorem lxG_sp : ∀ (m i : Nat), i + m = n → i ≤ lxG T n f m i ∧ lxG T n f m i ≤ n ∧ (∀ j : Nat, i ≤ j → j < lxG T n f m i → f (T (j : Int)) = true) ∧ (lxG T n f m i < n → f (T ((lxG T n f m i : Nat) : Int)) = false)
  | 0, i, h => by
    show i ≤ i ∧ i ≤ n ∧ (∀ j : Nat, i ≤ j → j < i → _) ∧ (i < n → _)
    exact ⟨Nat.le_refl i, by omega, fun j h1 h2 => by omega, fun h1 => by omega⟩
  | m + 1, i, h => by
    unfold lxG
    by_cases hc : i < n ∧ f (T (i : Int)) = true
    · rw [if_pos hc]
      obtain ⟨h1, h2, h3, h4⟩ := lxG_sp m (i + 1) (by omega)
      refine ⟨by omega, h2, fun j j1 j2 => ?_, h4⟩
      by_cases e : j = i
      · rw [e]; exact hc.2
      · exact h3 j (by omega) j2
    · rw [if_neg hc]
      refine ⟨Nat.le_refl i, by omega, fun j h1 h2 => by omega, fun h1 => ?_⟩
      cases hf : f (T (i : Int)) with
      | false => rfl
      | true => exact absurd ⟨h1, hf⟩ hc
theorem lxE_sp {i : Nat} (h : i ≤ n) : i ≤ lxE T n f i ∧ lxE T n f i ≤ n ∧ (∀ j : Nat, i ≤ j → j < lxE T n f i → f (T (j : Int)) = true) ∧ (lxE T n f i < n → f (T ((lxE T n f i : Nat) : Int)) = false) := lxG_sp (n - i) i (by omega)
theorem lxE_gt {i : Nat} (h : i < n) (hf : f (T (i : Int)) = true) : i < lxE T n f i := by
  rw [lxE_s h hf]
  have := (lxE_sp (T := T) (f := f) (n := n) (i := i + 1) h).1
  omega
/-! the code of a word -/
def wrn (T : Int → Int) (a b : Int) : List Int → Int → Int → Bool → Int
  | [], code, at_, same => if same = true ∧ at_ = b then code else 128
  | s :: cs, code, at_, same => if s = 32 then (if same = true ∧ at_ = b then code else wrn T a b cs (code + 1) a true) else wrn T a b cs code (at_ + 1) (same && (decide (at_ < b) && decide (T at_ = s)))
def lxC (T : Int → Int) (n b : Nat) : Int := if n ≤ b then 0 else if lxL (T (b : Int)) = true then wrn T (b : Int) ((lxE T n lxL b : Nat) : Int) (tx_t 1) 129 (b : Int) true else if lxD (T (b : Int)) = true then 1 else if 0 ≤ tx_ix 0 (T (b : Int)) then T (b : Int) else 2
/-- what m digits from a on are worth -/
def lxN (T : Int → Int) (a : Int) : Nat → Int
  | 0 => 0
  | m + 1 => 10 * lxN T a m + T (a + (m : Int)) - 48
def lxV (T : Int → Int) (n b : Nat) : Int := if n ≤ b then 0 else if lxL (T (b : Int)) = true then 0 else if lxD (T (b : Int)) = true then (if 4 < lxE T n lxD b - b then 10000 else lxN T (b : Int) (lxE T n lxD b - b)) else 0
/-- the end of the token that begins at b; where the k-th one ends ahead, where it begins -/
def lxT (T : Int → Int) (n b : Nat) : Nat := if n ≤ b then b else if lxL (T (b : Int)) = true then lxE T n lxL b else if lxD (T (b : Int)) = true then lxE T n lxD b else b + 1
def lxP (T : Int → Int) (n : Nat) : Nat → Nat
  | 0 => 0
  | k + 1 => lxT T n (lxE T n lxB (lxP T n k))
def lxQ (T : Int → Int) (n k : Nat) : Nat := lxE T n lxB (lxP T n k)
theorem lxT_gt {b : Nat} (h : b < n) : b < lxT T n b ∧ lxT T n b ≤ n := by
  unfold lxT
  rw [if_neg (by omega)]
  by_cases h1 : lxL (T (b : Int)) = true
  · rw [if_pos h1]
    exact ⟨lxE_gt h h1, (lxE_sp (by omega)).2.1⟩
  · rw [if_neg h1]
    by_cases h2 : lxD (T (b : Int)) = true
    · rw [if_pos h2]
      exact ⟨lxE_gt h h2, (lxE_sp (by omega)).2.1⟩
    · rw [if_neg h2]; omega
theorem lxP_le : ∀ k, lxP T n k ≤ n
  | 0 => Nat.zero_le n
  | k + 1 => by
    have h := (lxE_sp (T := T) (f := lxB) (lxP_le k)).2.1
    show lxT T n (lxE T n lxB (lxP T n k)) ≤ n
    rcases Nat.lt_or_ge (lxE T n lxB (lxP T n k)) n with z | z
    · exact (lxT_gt z).2
    · unfold lxT
      rw [if_pos z]; exact h
theorem lxQ_sp (k : Nat) : lxP T n k ≤ lxQ T n k ∧ lxQ T n k ≤ n := by
  have h := lxE_sp (T := T) (f := lxB) (lxP_le (T := T) (n := n) k)
  exact ⟨h.1, h.2.1⟩
theorem lxN_is : ∃ N, N ≤ n ∧ n ≤ lxQ T n N ∧ ∀ k, k < N → lxQ T n k < n := by
  have key : ∀ m, (∃ N, N ≤ m ∧ n ≤ lxQ T n N ∧ ∀ k, k < N → lxQ T n k < n) ∨ (m + 1 ≤ lxP T n (m + 1) ∧ ∀ k, k ≤ m → lxQ T n k < n) := by
    intro m
    induction m with
    | zero =>
      rcases Nat.lt_or_ge (lxQ T n 0) n with z | z
      · right
        refine ⟨?_, fun k hk => by rw [show k = 0 by omega]; exact z⟩
        have := (lxT_gt (T := T) z).1
        show 0 + 1 ≤ lxT T n (lxQ T n 0)
        omega
      · exact Or.inl ⟨0, Nat.le_refl 0, z, fun k hk => by omega⟩
    | succ m ih =>
      rcases ih with ⟨N, h1, h2, h3⟩ | ⟨h1, h2⟩
      · exact Or.inl ⟨N, by omega, h2, h3⟩
      · rcases Nat.lt_or_ge (lxQ T n (m + 1)) n with z | z
        · right
          refine ⟨?_, fun k hk => ?_⟩
          · have := (lxT_gt (T := T) z).1
            have h4 := (lxQ_sp (T := T) (n := n) (m + 1)).1
            show m + 1 + 1 ≤ lxT T n (lxQ T n (m + 1))
            omega
          · rcases Nat.lt_or_ge k (m + 1) with y | y
            · exact h2 k (by omega)
            · rw [show k = m + 1 by omega]; exact z
        · exact Or.inl ⟨m + 1, Nat.le_refl _, z, fun k hk => h2 k (by omega)⟩
  rcases key n with h | ⟨h, -⟩
  · exact h
  · have := lxP_le (T := T) (n := n) (n + 1)
    omega
theorem lxN_r {a : Int} : ∀ m : Nat, (∀ j : Nat, j < m → 48 ≤ T (a + (j : Int)) ∧ T (a + (j : Int)) ≤ 57) → m ≤ 4 → 0 ≤ lxN T a m ∧ lxN T a m ≤ 9999 ∧ (m ≤ 3 → lxN T a m ≤ 999)
  | 0, _, _ => by unfold lxN; omega
  | 1, h, _ => by
    have h0 := h 0 (by omega)
    unfold lxN lxN; omega
  | 2, h, _ => by
    have h0 := h 0 (by omega)
    have h1 := h 1 (by omega)
    unfold lxN lxN lxN; omega
  | 3, h, _ => by
    have h0 := h 0 (by omega)
    have h1 := h 1 (by omega)
    have h2 := h 2 (by omega)
    unfold lxN lxN lxN lxN; omega
  | 4, h, _ => by
    have h0 := h 0 (by omega)
    have h1 := h 1 (by omega)
    have h2 := h 2 (by omega)
    have h3 := h 3 (by omega)
    unfold lxN lxN lxN lxN lxN; omega
  | m + 5, _, h => by omega
theorem lxD_at {x : Int} (h : lxD x = true) : 48 ≤ x ∧ x ≤ 57 := of_decide_eq_true h
theorem lxL_at {x : Int} (h : lxL x = true) : 97 ≤ x ∧ x ≤ 122 := of_decide_eq_true h
theorem lxV_r (b : Nat) : 0 ≤ lxV T n b ∧ lxV T n b ≤ 10000 := by
  unfold lxV
  by_cases h0 : n ≤ b
  · rw [if_pos h0]; omega
  rw [if_neg h0]
  by_cases h1 : lxL (T (b : Int)) = true
  · rw [if_pos h1]; omega
  rw [if_neg h1]
  by_cases h2 : lxD (T (b : Int)) = true
  · rw [if_pos h2]
    by_cases h3 : 4 < lxE T n lxD b - b
    · rw [if_pos h3]; omega
    · rw [if_neg h3]
      have h4 := (lxE_sp (T := T) (f := lxD) (n := n) (i := b) (by omega)).2.2.1
      have := lxN_r (T := T) (a := (b : Int)) (lxE T n lxD b - b) (fun j hj => by
        have := lxD_at (h4 (b + j) (by omega) (by omega))
        rw [show (((b + j : Nat) : Nat) : Int) = (b : Int) + (j : Int) by omega] at this
        exact this) (by omega)
      omega
  · rw [if_neg h2]; omega
end LX
/-! the words -/
def txW : List (List Int) := [[114, 111, 111, 102], [102, 108, 105, 103, 104, 116], [116, 97, 119, 110, 121], [98, 97, 114, 110], [119, 104, 105, 116, 101], [114, 105, 100, 101, 114], [100, 97, 119, 110], [104, 117, 110, 116, 115], [111, 114], [97, 110, 100], [110, 111, 116], [109, 105, 99, 101], [103, 114, 97, 105, 110], [107, 105, 110, 100], [115, 116, 111, 112], [109, 111, 111, 110], [119, 101, 116], [104, 111, 117, 114]]
def txR : List (List Int) := [[109, 105, 99, 101], [103, 114, 97, 105, 110], [107, 105, 110, 100], [115, 116, 111, 112], [109, 111, 111, 110], [119, 101, 116], [104, 111, 117, 114], [116, 97, 119, 110, 121], [98, 97, 114, 110], [119, 104, 105, 116, 101], [114, 111, 111, 102], [102, 108, 105, 103, 104, 116], [114, 105, 100, 101, 114], [100, 97, 119, 110], [104, 117, 110, 116, 115], [97, 110, 100], [111, 114], [110, 111, 116]]
def txJ : List (List Int) → List Int
  | [] => []
  | [w] => w
  | w :: v :: ws => w ++ 32 :: txJ (v :: ws)
theorem txJ_W : tx_t 1 = txJ txW := by decide +kernel
theorem tx_cnt : (tx_t 1).length = 91 := by decide +kernel
/-- the text from a on, m signs of it; the same, the last sign first -/
def txF (T : Int → Int) : Nat → Int → List Int
  | 0, _ => []
  | m + 1, a => T a :: txF T m (a + 1)
def txB (T : Int → Int) (a : Int) : Nat → List Int
  | 0 => []
  | m + 1 => T (a + (m : Int)) :: txB T a m
def pkv : List Int → Int
  | [] => 0
  | s :: r => 32 * pkv r + (s - 96)
def wcl (t : List Int) : List (List Int) → Int → Int
  | [], _ => 128
  | w :: ws, c => if t = w then c else wcl t ws (c + 1)
def rkw (t : List Int) : List (List Int) → Int → Int
  | [], _ => -1
  | w :: ws, j => if t = w then j else rkw t ws (j + 1)
section WD
variable {T : Int → Int}
theorem txF_s : ∀ (m : Nat) (a : Int), txF T (m + 1) a = txF T m a ++ [T (a + (m : Int))]
  | 0, a => by
    show [T a] = [] ++ [T (a + ((0 : Nat) : Int))]
    rw [List.nil_append]; simp
  | m + 1, a => by
    show T a :: txF T (m + 1) (a + 1) = T a :: txF T m (a + 1) ++ [T (a + ((m + 1 : Nat) : Int))]
    rw [txF_s m (a + 1), show a + 1 + (m : Int) = a + ((m + 1 : Nat) : Int) by omega]
    rfl
theorem txB_F (a : Int) : ∀ m : Nat, txB T a m = (txF T m a).reverse
  | 0 => rfl
  | m + 1 => by
    rw [txF_s, List.reverse_append]
    show T (a + (m : Int)) :: txB T a m = _
    rw [txB_F a m]; rfl
theorem txF_len : ∀ (m : Nat) (a : Int), (txF T m a).length = m
  | 0, _ => rfl
  | m + 1, a => by
    show (T a :: txF T m (a + 1)).length = m + 1
    rw [List.length_cons, txF_len m]
/-- how far a word runs along the text -/
def pmw (T : Int → Int) (b : Int) : List Int → Int → Bool
  | [], _ => true
  | s :: w, a => (decide (a < b) && decide (T a = s)) && pmw T b w (a + 1)
theorem wrn_w {a b : Int} : ∀ (w cs : List Int) (code at_ : Int) (same : Bool), (∀ s ∈ w, s ≠ 32) → wrn T a b (w ++ cs) code at_ same = wrn T a b cs code (at_ + w.length) (same && pmw T b w at_)
  | [], cs, code, at_, same, _ => by
    show wrn T a b cs code at_ same = wrn T a b cs code (at_ + ((0 : Nat) : Int)) (same && true)
    rw [Bool.and_true]; simp
  | s :: w, cs, code, at_, same, h => by
    have h0 := h s List.mem_cons_self
    show (if s = 32 then _ else wrn T a b (w ++ cs) code (at_ + 1) (same && (decide (at_ < b) && decide (T at_ = s)))) = _
    rw [if_neg h0, wrn_w w cs code (at_ + 1) _ (fun x hx => h x (List.mem_cons_of_mem _ hx))]
    have e1 : at_ + 1 + (w.length : Int) = at_ + ((s :: w).length : Int) := by rw [List.length_cons]; omega
    rw [e1, Bool.and_assoc]
    rfl
theorem pmw_F {b : Int} : ∀ (w : List Int) (m : Nat) (a : Int), a + (m : Int) = b → ((pmw T b w a = true ∧ a + (w.length : Int) = b) ↔ txF T m a = w)
  | [], m, a, h => by
    constructor
    · intro q
      have : m = 0 := by
        have := q.2
        simp at this; omega
      subst this; rfl
    · intro q
      have := congrArg List.length q
      rw [txF_len] at this
      simp only [List.length_nil] at this
      subst this
      exact ⟨rfl, by simpa using h⟩
  | s :: w, 0, a, h => by
    constructor
    · intro q
      have := q.2
      rw [List.length_cons] at this
      omega
    · intro q; cases q
  | s :: w, m + 1, a, h => by
    have ih := pmw_F (b := b) w m (a + 1) (by omega)
    show (((decide (a < b) && decide (T a = s)) && pmw T b w (a + 1)) = true ∧ a + ((s :: w).length : Int) = b) ↔ T a :: txF T m (a + 1) = s :: w
    rw [Bool.and_eq_true, Bool.and_eq_true, decide_eq_true_eq, decide_eq_true_eq, List.length_cons]
    constructor
    · rintro ⟨⟨⟨h1, h2⟩, h3⟩, h4⟩
      rw [h2, ih.mp ⟨h3, by omega⟩]
    · intro q
      injection q with q1 q2
      obtain ⟨h3, h4⟩ := ih.mpr q2
      exact ⟨⟨⟨by omega, q1⟩, h3⟩, by omega⟩
theorem wrn_ws {a b : Int} {m : Nat} (hb : a + (m : Int) = b) : ∀ (ws : List (List Int)) (w : List Int) (code : Int), (∀ v ∈ w :: ws, ∀ s ∈ v, s ≠ 32) → wrn T a b (txJ (w :: ws)) code a true = wcl (txF T m a) (w :: ws) code
  | [], w, code, h => by
    have h0 := wrn_w (T := T) (a := a) (b := b) w [] code a true (h w List.mem_cons_self)
    rw [List.append_nil] at h0
    show wrn T a b w code a true = (if txF T m a = w then code else 128)
    rw [h0, Bool.true_and]
    show (if pmw T b w a = true ∧ a + (w.length : Int) = b then code else 128) = _
    by_cases q : txF T m a = w
    · rw [if_pos q, if_pos ((pmw_F w m a hb).mpr q)]
    · rw [if_neg q, if_neg (fun z => q ((pmw_F w m a hb).mp z))]
  | v :: ws, w, code, h => by
    have h0 := wrn_w (T := T) (a := a) (b := b) w (32 :: txJ (v :: ws)) code a true (h w List.mem_cons_self)
    have ih := wrn_ws hb ws v (code + 1) (fun x hx => h x (List.mem_cons_of_mem _ hx))
    show wrn T a b (w ++ 32 :: txJ (v :: ws)) code a true = (if txF T m a = w then code else wcl (txF T m a) (v :: ws) (code + 1))
    rw [h0, Bool.true_and]
    show (if (32 : Int) = 32 then (if pmw T b w a = true ∧ a + (w.length : Int) = b then code else wrn T a b (txJ (v :: ws)) (code + 1) a true) else _) = _
    rw [if_pos rfl, ih]
    by_cases q : txF T m a = w
    · rw [if_pos q, if_pos ((pmw_F w m a hb).mpr q)]
    · rw [if_neg q, if_neg (fun z => q ((pmw_F w m a hb).mp z))]
theorem wrn_wcl {a b : Int} {m : Nat} (hb : a + (m : Int) = b) : wrn T a b (tx_t 1) 129 a true = wcl (txF T m a) txW 129 := by
  rw [txJ_W]
  exact wrn_ws hb _ _ 129 (by decide +kernel)
theorem wcl_no (t : List Int) : ∀ (ws : List (List Int)) (c : Int), t ∉ ws → wcl t ws c = 128
  | [], _, _ => rfl
  | w :: ws, c, h => by
    show (if t = w then c else wcl t ws (c + 1)) = 128
    rw [if_neg (fun e => h (by rw [e]; exact List.mem_cons_self))]
    exact wcl_no t ws (c + 1) (fun z => h (List.mem_cons_of_mem _ z))
theorem rkw_no (t : List Int) : ∀ (ws : List (List Int)) (c : Int), t ∉ ws → rkw t ws c = -1
  | [], _, _ => rfl
  | w :: ws, c, h => by
    show (if t = w then c else rkw t ws (c + 1)) = -1
    rw [if_neg (fun e => h (by rw [e]; exact List.mem_cons_self))]
    exact rkw_no t ws (c + 1) (fun z => h (List.mem_cons_of_mem _ z))
theorem ix_wcl (t : List Int) : ix (wcl t txW 129) = rkw t txR 0 := by
  by_cases h : t ∈ txW
  · have : ∀ t ∈ txW, ix (wcl t txW 129) = rkw t txR 0 := by decide +kernel
    exact this t h
  · have hr : t ∉ txR := fun z => h (by
      have : ∀ t ∈ txR, t ∈ txW := by decide +kernel
      exact this t z)
    rw [wcl_no t txW 129 h, rkw_no t txR 0 hr]
    decide
theorem wcl_r (t : List Int) : 128 ≤ wcl t txW 129 ∧ wcl t txW 129 ≤ 146 := by
  by_cases h : t ∈ txW
  · have : ∀ t ∈ txW, 128 ≤ wcl t txW 129 ∧ wcl t txW 129 ≤ 146 := by decide +kernel
    exact this t h
  · rw [wcl_no t txW 129 h]; decide
theorem pkv_0 : ∀ {l : List Int}, (∀ s ∈ l, 97 ≤ s ∧ s ≤ 122) → 0 ≤ pkv l
  | [], _ => Int.le_refl 0
  | s :: l, h => by
    have h1 := h s List.mem_cons_self
    have h2 := pkv_0 (l := l) (fun x hx => h x (List.mem_cons_of_mem _ hx))
    show 0 ≤ 32 * pkv l + (s - 96)
    omega
theorem pkv_inj : ∀ {l l' : List Int}, (∀ s ∈ l, 97 ≤ s ∧ s ≤ 122) → (∀ s ∈ l', 97 ≤ s ∧ s ≤ 122) → pkv l = pkv l' → l = l'
  | [], [], _, _, _ => rfl
  | [], s :: l', _, h', e => by
    have h1 := h' s List.mem_cons_self
    have h2 := pkv_0 (l := l') (fun x hx => h' x (List.mem_cons_of_mem _ hx))
    have e : (0 : Int) = 32 * pkv l' + (s - 96) := e
    omega
  | s :: l, [], h, _, e => by
    have h1 := h s List.mem_cons_self
    have h2 := pkv_0 (l := l) (fun x hx => h x (List.mem_cons_of_mem _ hx))
    have e : 32 * pkv l + (s - 96) = (0 : Int) := e
    omega
  | s :: l, s' :: l', h, h', e => by
    have h1 := h s List.mem_cons_self
    have h1' := h' s' List.mem_cons_self
    have e : 32 * pkv l + (s - 96) = 32 * pkv l' + (s' - 96) := e
    have e1 : s = s' := by omega
    have e2 : pkv l = pkv l' := by omega
    rw [e1, pkv_inj (fun x hx => h x (List.mem_cons_of_mem _ hx)) (fun x hx => h' x (List.mem_cons_of_mem _ hx)) e2]
theorem txF_mem : ∀ (m : Nat) (a : Int), (∀ j : Nat, j < m → 97 ≤ T (a + (j : Int)) ∧ T (a + (j : Int)) ≤ 122) → ∀ s ∈ txF T m a, 97 ≤ s ∧ s ≤ 122
  | 0, _, _, s, hs => absurd hs List.not_mem_nil
  | m + 1, a, h, s, hs => by
    rcases List.mem_cons.mp hs with e | e
    · have := h 0 (by omega)
      rw [e]
      simpa using this
    · exact txF_mem m (a + 1) (fun j hj => by
        have := h (j + 1) (by omega)
        rw [show a + ((j + 1 : Nat) : Int) = a + 1 + (j : Int) by omega] at this
        exact this) s e
end WD
