/-! BATS -/
def tkr (σ : dS) (p : Int) : Nat → Int
  | 0 => 0
  | k + 1 => tkr σ p k + (if σ 25 (k : Int) < p then 0 else 1)
theorem tkr_r (σ : dS) (p : Int) : ∀ k : Nat, 0 ≤ tkr σ p k ∧ tkr σ p k ≤ k
  | 0 => by simp [tkr]
  | k + 1 => by
    have := tkr_r σ p k
    rw [tkr]
    by_cases z : σ 25 (k : Int) < p
    · rw [if_pos z]; omega
    · rw [if_neg z]; omega
def tks (σ : dS) (p : Int) : Int := tkr σ p (σ 5 3).toNat
def ogn (σ : dS) (a b : Int) : Int := if b < a then 0 else (a - 1) * tks σ a
def bgn (σ : dS) (a b : Int) : Int := if a ≤ b then 0 else (b - 1) * tks σ b
def rok (σ : dS) (a b k : Int) : Prop := ¬ (ogn σ a b < ogn σ k b) ∧ ¬ (bgn σ a b < bgn σ a k)
def rst (σ : dS) (a b : Int) : Prop := ∀ k : Int, 1 ≤ k → k ≤ 9 → rok σ a b k
noncomputable def rsv (σ : dS) (a b : Int) : Int := @ite Int (rst σ a b) (Classical.propDecidable _) 1 0
theorem rsv_y {σ : dS} {a b : Int} (h : rst σ a b) : rsv σ a b = 1 := by unfold rsv; exact if_pos h
theorem rsv_n {σ : dS} {a b : Int} (h : ¬ rst σ a b) : ¬ rsv σ a b = 1 := by unfold rsv; rw [if_neg h]; decide
noncomputable def bt1 (σ : dS) (a : Int) : Nat → Int × Int → Int × Int
  | 0, q => q
  | b + 1, q => if rsv σ a ((b + 1 : Nat) : Int) = 1 then ((bt1 σ a b q).1 + 1, if (bt1 σ a b q).2 = -1 then 10 * a + ((b + 1 : Nat) : Int) else (bt1 σ a b q).2) else bt1 σ a b q
theorem bt1_yes {σ : dS} {a : Int} {b : Nat} {q : Int × Int} (h : rst σ a ((b + 1 : Nat) : Int)) : bt1 σ a (b + 1) q = ((bt1 σ a b q).1 + 1, if (bt1 σ a b q).2 = -1 then 10 * a + ((b + 1 : Nat) : Int) else (bt1 σ a b q).2) := by rw [bt1, if_pos (rsv_y h)]
theorem bt1_no {σ : dS} {a : Int} {b : Nat} {q : Int × Int} (h : ¬ rst σ a ((b + 1 : Nat) : Int)) : bt1 σ a (b + 1) q = bt1 σ a b q := by rw [bt1, if_neg (rsv_n h)]
theorem bt1_r (σ : dS) (a : Int) (q : Int × Int) : ∀ b : Nat, q.1 ≤ (bt1 σ a b q).1 ∧ (bt1 σ a b q).1 ≤ q.1 + b
  | 0 => by simp [bt1]
  | b + 1 => by
    have := bt1_r σ a q b
    by_cases z : rst σ a ((b + 1 : Nat) : Int)
    · rw [bt1_yes z]
      show q.1 ≤ (bt1 σ a b q).1 + 1 ∧ (bt1 σ a b q).1 + 1 ≤ _
      omega
    · rw [bt1_no z]; omega
noncomputable def bt2 (σ : dS) : Nat → Int × Int
  | 0 => (0, -1)
  | a + 1 => bt1 σ ((a + 1 : Nat) : Int) 9 (bt2 σ a)
theorem bt2_r (σ : dS) : ∀ a : Nat, 0 ≤ (bt2 σ a).1 ∧ (bt2 σ a).1 ≤ 9 * a
  | 0 => by simp [bt2]
  | a + 1 => by
    have h1 := bt2_r σ a
    have h2 := bt1_r σ ((a + 1 : Nat) : Int) (bt2 σ a) 9
    rw [bt2]; omega
noncomputable def btV (σ : dS) (w : Int) : Int := if w = 0 then (bt2 σ 9).1 else (bt2 σ 9).2
section BATS
variable {d : Nat} {Q : dR → dS → Prop} {σ : dS}
theorem tks_r (hP : 0 ≤ σ 5 3 ∧ σ 5 3 ≤ 8) (p : Int) : 0 ≤ tks σ p ∧ tks σ p ≤ 8 := by
  have := tkr_r σ p (σ 5 3).toNat
  unfold tks; omega
theorem mul_r {a t : Int} (a1 : 1 ≤ a) (a9 : a ≤ 9) (t0 : 0 ≤ t) (t8 : t ≤ 8) : 0 ≤ (a - 1) * t ∧ (a - 1) * t ≤ 64 := by
  have h1 : 0 ≤ (a - 1) * t := Int.mul_nonneg (by omega) t0
  have h2 : (a - 1) * t ≤ 8 * t := Int.mul_le_mul_of_nonneg_right (by omega) t0
  omega
theorem l31 {p : Int} (hP : 0 ≤ σ 5 3 ∧ σ 5 3 ≤ 8) (hq : Q (.inl (some (.inl (tks σ p)))) σ) : ∀ (c m : Nat), (m : Int) + c = σ 5 3 → B31_1 d Q p (tkr σ p m) (m : Int) σ
  | 0, m, h => by
    have em : m = (σ 5 3).toNat := by omega
    refine b31_1 ⟨fun _ => b31_4 ?_, fun z => absurd (by omega) z⟩
    rw [em]; exact hq
  | c + 1, m, h => by
    have ih := l31 hP hq c (m + 1) (by omega)
    have r := tkr_r σ p m
    have ew : wr ((m : Int) + 1) = ((m + 1 : Nat) : Int) := by rw [wr_id (by omega) (by omega)]; omega
    refine b31_1 ⟨fun z => absurd z (by omega), fun _ => ?_⟩
    rw [rat_in (by omega) (by omega)]
    rw [tkr] at ih
    refine ⟨fun z => b31_2 (b31_3 ?_), fun z => b31_3 ?_⟩
    · rw [if_pos z] at ih; rw [ew, wr_id (by omega) (by omega)]; exact ih
    · rw [if_neg z] at ih; rw [ew, wr_id (by omega) (by omega)]; exact ih
theorem w31 {K : Int → dS → Prop} {p : Int} (hP : 0 ≤ σ 5 3 ∧ σ 5 3 ≤ 8) (h : K (tks σ p) σ) : wI (d + 2) 31 [.inr (.inr 5), .inl p] σ Q K :=
  c31 (b31_0 (l31 hP h (σ 5 3).toNat 0 (by omega)))
theorem w147 {K : Int → dS → Prop} {a b : Int} (hP : 0 ≤ σ 5 3 ∧ σ 5 3 ≤ 8) (a1 : 1 ≤ a) (a9 : a ≤ 9) (h : K (ogn σ a b) σ) : wI (d + 4) 147 [.inr (.inr 0), .inl a, .inl b] σ Q K := by
  have t := tks_r hP a
  have m := mul_r a1 a9 t.1 t.2
  unfold ogn at h
  refine c147 (b147_0 ⟨fun z => b147_1 (b147_2 ?_), fun z => w31 hP (b147_2 ?_)⟩)
  · rw [if_pos z] at h; exact h
  · rw [if_neg z] at h
    rw [wr_id (x := a - 1) (by omega) (by omega), wr_id (by omega) (by omega)]; exact h
theorem w148 {K : Int → dS → Prop} {a b : Int} (hP : 0 ≤ σ 5 3 ∧ σ 5 3 ≤ 8) (a1 : 1 ≤ b) (a9 : b ≤ 9) (h : K (bgn σ a b) σ) : wI (d + 4) 148 [.inr (.inr 0), .inl a, .inl b] σ Q K := by
  have t := tks_r hP b
  have m := mul_r a1 a9 t.1 t.2
  unfold bgn at h
  refine c148 (b148_0 ⟨fun z => b148_1 (b148_2 ?_), fun z => w31 hP (b148_2 ?_)⟩)
  · rw [if_pos z] at h; exact h
  · rw [if_neg z] at h
    rw [wr_id (x := b - 1) (by omega) (by omega), wr_id (by omega) (by omega)]; exact h
theorem l146 {a b : Int} (hP : 0 ≤ σ 5 3 ∧ σ 5 3 ≤ 8) (a1 : 1 ≤ a) (a9 : a ≤ 9) (b1 : 1 ≤ b) (b9 : b ≤ 9) (h1 : rst σ a b → Q (.inl (some (.inl 1))) σ) (h0 : ¬ rst σ a b → Q (.inl (some (.inl 0))) σ) : ∀ (c : Nat) (x : Int), 1 ≤ x → x + c = 10 → (∀ k, 1 ≤ k → k < x → rok σ a b k) → B146_1 (d + 3) Q a b x σ
  | 0, x, x1, hx, hk => b146_1 ⟨fun _ => b146_4 ⟨Or.inr rfl, h1 (fun k k1 k9 => hk k k1 (by omega))⟩, fun z => absurd (by omega) z⟩
  | c + 1, x, x1, hx, hk => by
    have no : ¬ rok σ a b x → B146_2 (d + 3) Q σ := fun z => b146_2 ⟨Or.inl rfl, h0 (fun q => z (q x x1 (by omega)))⟩
    refine b146_1 ⟨fun z => absurd z (by omega), fun _ => w147 hP x1 (by omega) (w147 hP a1 a9 ⟨fun z => no (fun q => q.1 z), fun z => w148 hP x1 (by omega) (w148 hP b1 b9 ⟨fun y => b146_3 ?_, fun y => no (fun q => q.2 (by omega))⟩)⟩)⟩
    rw [wr_id (by omega) (by omega)]
    refine l146 hP a1 a9 b1 b9 h1 h0 c (x + 1) (by omega) (by omega) (fun k k1 k2 => ?_)
    by_cases e : k = x
    · subst e; exact ⟨z, by omega⟩
    · exact hk k k1 (by omega)
theorem w146 {K : Int → dS → Prop} {a b : Int} (hP : 0 ≤ σ 5 3 ∧ σ 5 3 ≤ 8) (a1 : 1 ≤ a) (a9 : a ≤ 9) (b1 : 1 ≤ b) (b9 : b ≤ 9) (h1 : rst σ a b → K 1 σ) (h0 : ¬ rst σ a b → K 0 σ) : wI (d + 5) 146 [.inr (.inr 0), .inl a, .inl b] σ Q K :=
  c146 (b146_0 (l146 hP a1 a9 b1 b9 h1 h0 9 1 (by omega) (by omega) (fun k k1 k2 => absurd k1 (by omega))))
theorem l145_4 {w : Int} {a : Nat} (hP : 0 ≤ σ 5 3 ∧ σ 5 3 ≤ 8) (a1 : 1 ≤ a) (a9 : a ≤ 9) {q : Int × Int} (q0 : 0 ≤ q.1) (q1 : q.1 ≤ 1000) (hq : B145_8 (d + 4) Q w (bt1 σ (a : Int) 9 q).1 (bt1 σ (a : Int) 9 q).2 (a : Int) σ) : ∀ (c b : Nat), b + c = 9 → B145_4 (d + 4) Q w (bt1 σ (a : Int) b q).1 (bt1 σ (a : Int) b q).2 (a : Int) ((b : Int) + 1) σ
  | 0, b, h => by
    have e : b = 9 := by omega
    subst e
    exact b145_4 ⟨fun _ => hq, fun z => absurd (by omega) z⟩
  | c + 1, b, h => by
    have ih := l145_4 hP a1 a9 q0 q1 hq c (b + 1) (by omega)
    have r := bt1_r σ (a : Int) q b
    have ew : wr ((b : Int) + 1 + 1) = ((b + 1 : Nat) : Int) + 1 := by rw [wr_id (by omega) (by omega)]; omega
    refine b145_4 ⟨fun z => absurd z (by omega), fun _ => w146 hP (by omega) (by omega) (by omega) (by omega) (fun z => ⟨fun y => absurd y (by decide), fun _ => ?_⟩) (fun z => ⟨fun _ => b145_7 ?_, fun y => absurd rfl y⟩)⟩
    · have e := bt1_yes (q := q) (show rst σ (a : Int) ((b + 1 : Nat) : Int) from z)
      have e1 : (bt1 σ (a : Int) (b + 1) q).1 = (bt1 σ (a : Int) b q).1 + 1 := by rw [e]
      have e2 : (bt1 σ (a : Int) (b + 1) q).2 = if (bt1 σ (a : Int) b q).2 = -1 then 10 * (a : Int) + ((b + 1 : Nat) : Int) else (bt1 σ (a : Int) b q).2 := by rw [e]
      rw [e1, e2] at ih
      rw [wr_id (x := (bt1 σ (a : Int) b q).1 + 1) (by omega) (by omega)]
      refine ⟨fun y => b145_5 (b145_6 (b145_7 ?_)), fun y => b145_6 (b145_7 ?_)⟩
      · rw [if_neg y] at ih
        rw [ew]; exact ih
      · rw [if_pos (Decidable.of_not_not y)] at ih
        rw [ew, wr_id (x := 10 * (a : Int)) (by omega) (by omega), wr_id (by omega) (by omega)]
        exact ih
    · rw [bt1_no (show ¬ rst σ (a : Int) ((b + 1 : Nat) : Int) from z)] at ih
      rw [ew]; exact ih
theorem l145_3 {w : Int} (hP : 0 ≤ σ 5 3 ∧ σ 5 3 ≤ 8) (hq : Q (.inl (some (.inl (btV σ w)))) σ) : ∀ (c a : Nat), a + c = 9 → B145_3 (d + 4) Q w (bt2 σ a).1 (bt2 σ a).2 ((a : Int) + 1) σ
  | 0, a, h => by
    have e : a = 9 := by omega
    subst e
    unfold btV at hq
    refine b145_3 ⟨fun _ => b145_9 ⟨fun z => b145_10 (b145_11 ?_), fun z => b145_11 ?_⟩, fun z => absurd (by omega) z⟩
    · rw [if_neg z] at hq; exact hq
    · rw [if_pos (Decidable.of_not_not z)] at hq; exact hq
  | c + 1, a, h => by
    have ih := l145_3 hP hq c (a + 1) (by omega)
    have r := bt2_r σ a
    have ew : wr ((a : Int) + 1 + 1) = ((a + 1 : Nat) : Int) + 1 := by rw [wr_id (by omega) (by omega)]; omega
    refine b145_3 ⟨fun z => absurd z (by omega), fun _ => ?_⟩
    refine l145_4 (a := a + 1) (q := bt2 σ a) hP (by omega) (by omega) (by omega) (by omega) (b145_8 ?_) 9 0 (by omega)
    have e2 : wr (((a + 1 : Nat) : Int) + 1) = ((a + 1 : Nat) : Int) + 1 := wr_id (by omega) (by omega)
    rw [e2]
    exact ih
theorem x_bats {K : Int → dS → Prop} {w : Int} (hI : INV σ) (h1 : 0 ≤ w → w ≤ 1 → K (btV σ w) σ) (h2 : ¬ (0 ≤ w ∧ w ≤ 1) → Q (.inr 0) σ) : wI (d + 6) 145 [.inr (.inr 0), .inl w] σ Q K :=
  c145 (b145_0 ⟨fun z => b145_1 (h2 (by omega)), fun z => ⟨fun y => b145_2 (l145_3 (INV_c hI).2.2.1 (h1 (by omega) y) 9 0 (by omega)), fun y => b145_1 (h2 (by omega))⟩⟩)
/-! the reference -/
theorem l261 {S : dS} {p : Int} (hP : 0 ≤ S 5 3 ∧ S 5 3 ≤ 8) (hM : MVc σ S) (hq : Q (.inl (some (.inl (tks S p)))) σ) : ∀ (c m : Nat), (m : Int) + c = S 5 3 → B261_1 d Q p (tkr S p m) (m : Int) σ
  | 0, m, h => by
    have e := hM.2.2.1
    have em : m = (S 5 3).toNat := by omega
    refine b261_1 ⟨fun _ => b261_4 ?_, fun z => absurd (by omega) z⟩
    rw [em]; exact hq
  | c + 1, m, h => by
    have e := hM.2.2.1
    have ih := l261 hP hM hq c (m + 1) (by omega)
    have r := tkr_r S p m
    have ew : wr ((m : Int) + 1) = ((m + 1 : Nat) : Int) := by rw [wr_id (by omega) (by omega)]; omega
    have hr := (hM.2.2.2.2.2.2.2.1 (m : Int) (by omega) (by omega)).2.2.2
    refine b261_1 ⟨fun z => absurd z (by omega), fun _ => ?_⟩
    rw [wr_id (x := 4 * (m : Int)) (by omega) (by omega), wr_id (x := 4 * (m : Int) + 3) (by omega) (by omega), hr]
    rw [tkr] at ih
    refine ⟨by omega, by omega, fun z => b261_2 (b261_3 ?_), fun z => b261_3 ?_⟩
    · rw [if_pos z] at ih; rw [ew, wr_id (by omega) (by omega)]; exact ih
    · rw [if_neg z] at ih; rw [ew, wr_id (by omega) (by omega)]; exact ih
theorem w261 {K : Int → dS → Prop} {S : dS} {p : Int} (hP : 0 ≤ S 5 3 ∧ S 5 3 ≤ 8) (hM : MVc σ S) (h : K (tks S p) σ) : wI (d + 2) 261 [.inr (.inr 153), .inl p] σ Q K :=
  c261 (b261_0 (l261 hP hM h (S 5 3).toNat 0 (by omega)))
theorem w262_1 {K : Int → dS → Prop} {S : dS} {a b : Int} (hP : 0 ≤ S 5 3 ∧ S 5 3 ≤ 8) (hM : MVc σ S) (a1 : 1 ≤ a) (a9 : a ≤ 9) (h : K (ogn S a b) σ) : wI (d + 4) 262 [.inr (.inr 153), .inl a, .inl b, .inl 1] σ Q K := by
  have t := tks_r hP a
  have m := mul_r a1 a9 t.1 t.2
  unfold ogn at h
  refine c262 (b262_0 ⟨fun z => absurd z (by decide), fun _ => b262_2 ⟨fun z => b262_3 (b262_4 ⟨fun _ => b262_5 (b262_6 ?_), fun q => absurd (by decide) q⟩), fun z => b262_4 ⟨fun q => absurd rfl q, fun _ => w261 hP hM (b262_6 ?_)⟩⟩⟩)
  · rw [if_pos z] at h; exact h
  · rw [if_neg z] at h
    rw [wr_id (x := a - 1) (by omega) (by omega), Int.mul_comm, wr_id (by omega) (by omega)]; exact h
theorem w262_0 {K : Int → dS → Prop} {S : dS} {a b : Int} (hP : 0 ≤ S 5 3 ∧ S 5 3 ≤ 8) (hM : MVc σ S) (a1 : 1 ≤ b) (a9 : b ≤ 9) (h : K (bgn S a b) σ) : wI (d + 4) 262 [.inr (.inr 153), .inl a, .inl b, .inl 0] σ Q K := by
  have t := tks_r hP b
  have m := mul_r a1 a9 t.1 t.2
  unfold bgn at h
  refine c262 (b262_0 ⟨fun _ => b262_1 (b262_2 ⟨fun z => b262_3 (b262_4 ⟨fun q => absurd rfl q, fun _ => w261 hP hM (b262_6 ?_)⟩), fun z => b262_4 ⟨fun _ => b262_5 (b262_6 ?_), fun q => absurd (by decide) q⟩⟩), fun z => absurd rfl z⟩)
  · rw [if_neg (by omega)] at h
    rw [wr_id (x := b - 1) (by omega) (by omega), Int.mul_comm, wr_id (by omega) (by omega)]; exact h
  · rw [if_pos (by omega)] at h; exact h
theorem l263_4 {S : dS} {w a b x2 x3 : Int} (hP : 0 ≤ S 5 3 ∧ S 5 3 ≤ 8) (hM : MVc σ S) (a1 : 1 ≤ a) (a9 : a ≤ 9) (b1 : 1 ≤ b) (b9 : b ≤ 9) (h1 : rst S a b → B263_7 (d + 3) Q w x2 x3 a b 1 σ) (h0 : ¬ rst S a b → B263_7 (d + 3) Q w x2 x3 a b 0 σ) : ∀ (c : Nat) (x6 x : Int), 1 ≤ x → x + c = 10 → (x6 = 0 ∨ x6 = 1) → (x6 = 1 ↔ ∀ k, 1 ≤ k → k < x → rok S a b k) → B263_4 (d + 3) Q w x2 x3 a b x6 x σ
  | 0, x6, x, x1, hx, h6, hk => by
    have ex : x = 10 := by omega
    subst ex
    refine b263_4 ⟨fun _ => ?_, fun z => absurd (by omega) z⟩
    rcases h6 with e | e
    · subst e
      exact h0 (fun q => absurd (hk.mpr (fun k k1 k2 => q k k1 (by omega))) (by decide))
    · subst e
      exact h1 (fun k k1 k2 => (hk.mp rfl) k k1 (by omega))
  | c + 1, x6, x, x1, hx, h6, hk => by
    have ew : wr (x + 1) = x + 1 := wr_id (by omega) (by omega)
    have no : (¬ ∀ k, 1 ≤ k → k < x + 1 → rok S a b k) → B263_5 (d + 3) Q w x2 x3 a b x σ := by
      intro z
      refine b263_5 (b263_6 ?_)
      rw [ew]
      exact l263_4 hP hM a1 a9 b1 b9 h1 h0 c 0 (x + 1) (by omega) (by omega) (Or.inl rfl) ⟨fun q => absurd q (by decide), fun q => absurd q z⟩
    refine b263_4 ⟨fun z => absurd z (by omega), fun _ => ⟨fun z => no (fun q => ?_), fun z => w262_1 hP hM x1 (by omega) (w262_1 hP hM a1 a9 ⟨fun y => no (fun q => (q x x1 (by omega)).1 y), fun y => w262_0 hP hM x1 (by omega) (w262_0 hP hM b1 b9 ⟨fun u => no (fun q => (q x x1 (by omega)).2 u), fun u => b263_6 ?_⟩)⟩)⟩⟩
    · have := hk.mpr (fun k k1 k2 => q k k1 (by omega))
      omega
    · rw [ew]
      refine l263_4 hP hM a1 a9 b1 b9 h1 h0 c 1 (x + 1) (by omega) (by omega) (Or.inr rfl) ⟨fun _ k k1 k2 => ?_, fun _ => rfl⟩
      by_cases e : k = x
      · subst e; exact ⟨y, u⟩
      · exact hk.mp (h6.resolve_left z) k k1 (by omega)
theorem l263_3 {S : dS} {w : Int} {a : Nat} (hP : 0 ≤ S 5 3 ∧ S 5 3 ≤ 8) (hM : MVc σ S) (a1 : 1 ≤ a) (a9 : a ≤ 9) {q : Int × Int} (q0 : 0 ≤ q.1) (q1 : q.1 ≤ 1000) (hq : B263_10 (d + 3) Q w (bt1 S (a : Int) 9 q).1 (bt1 S (a : Int) 9 q).2 (a : Int) σ) : ∀ (c b : Nat), b + c = 9 → B263_3 (d + 3) Q w (bt1 S (a : Int) b q).1 (bt1 S (a : Int) b q).2 (a : Int) ((b : Int) + 1) σ
  | 0, b, h => by
    have e : b = 9 := by omega
    subst e
    exact b263_3 ⟨fun _ => hq, fun z => absurd (by omega) z⟩
  | c + 1, b, h => by
    have ih := l263_3 hP hM a1 a9 q0 q1 hq c (b + 1) (by omega)
    have r := bt1_r S (a : Int) q b
    have ew : wr ((b : Int) + 1 + 1) = ((b + 1 : Nat) : Int) + 1 := by rw [wr_id (by omega) (by omega)]; omega
    refine b263_3 ⟨fun z => absurd z (by omega), fun _ => l263_4 (S := S) hP hM (by omega) (by omega) (by omega) (by omega) (fun z => b263_7 ⟨fun _ => b263_8 ?_, fun y => absurd (by decide) y⟩) (fun z => b263_7 ⟨fun y => absurd rfl y, fun _ => b263_9 ?_⟩) 9 1 1 (by omega) (by omega) (Or.inr rfl) ⟨fun _ k k1 k2 => absurd k1 (by omega), fun _ => rfl⟩⟩
    · have e := bt1_yes (q := q) (show rst S (a : Int) ((b + 1 : Nat) : Int) from z)
      have e1 : (bt1 S (a : Int) (b + 1) q).1 = (bt1 S (a : Int) b q).1 + 1 := by rw [e]
      have e2 : (bt1 S (a : Int) (b + 1) q).2 = if (bt1 S (a : Int) b q).2 = -1 then 10 * (a : Int) + ((b + 1 : Nat) : Int) else (bt1 S (a : Int) b q).2 := by rw [e]
      rw [e1, e2] at ih
      rw [wr_id (x := (bt1 S (a : Int) b q).1 + 1) (by omega) (by omega)]
      refine ⟨fun y => b263_9 ?_, fun y => b263_9 ?_⟩
      · rw [if_neg y] at ih
        rw [ew]; exact ih
      · rw [if_pos (Decidable.of_not_not y)] at ih
        rw [ew, wr_id (x := 10 * (a : Int)) (by omega) (by omega), wr_id (by omega) (by omega)]
        exact ih
    · rw [bt1_no (show ¬ rst S (a : Int) ((b + 1 : Nat) : Int) from z)] at ih
      rw [ew]; exact ih
theorem l263_2 {S : dS} {w : Int} (hP : 0 ≤ S 5 3 ∧ S 5 3 ≤ 8) (hM : MVc σ S) (hq : Q (.inl (some (.inl (btV S w)))) σ) : ∀ (c a : Nat), a + c = 9 → B263_2 (d + 3) Q w (bt2 S a).1 (bt2 S a).2 ((a : Int) + 1) σ
  | 0, a, h => by
    have e : a = 9 := by omega
    subst e
    unfold btV at hq
    refine b263_2 ⟨fun _ => b263_11 ⟨fun z => b263_12 (b263_13 ?_), fun z => b263_13 ?_⟩, fun z => absurd (by omega) z⟩
    · rw [if_neg z] at hq; exact hq
    · rw [if_pos (Decidable.of_not_not z)] at hq; exact hq
  | c + 1, a, h => by
    have ih := l263_2 hP hM hq c (a + 1) (by omega)
    have r := bt2_r S a
    refine b263_2 ⟨fun z => absurd z (by omega), fun _ => ?_⟩
    refine l263_3 (a := a + 1) (q := bt2 S a) hP hM (by omega) (by omega) (by omega) (by omega) (b263_10 ?_) 9 0 (by omega)
    have e2 : wr (((a + 1 : Nat) : Int) + 1) = ((a + 1 : Nat) : Int) + 1 := wr_id (by omega) (by omega)
    rw [e2]
    exact ih
theorem m_bats {K : Int → dS → Prop} {w : Int} (hI : INV σ) (h1 : 0 ≤ w → w ≤ 1 → ∀ σ', FRM σ σ' → σ' 153 0 = 0 → K (btV σ w) σ') (h2 : ¬ (0 ≤ w ∧ w ≤ 1) → ∀ σ', FRM σ σ' → σ' 153 0 = 1 → K 0 σ') : wI (d + 6) 263 [.inr (.inr 153), .inl w] σ Q K := by
  refine c263 (b263_0 ?_)
  intro σ1 f1
  obtain ⟨hT, hF1, hI1, en, e5, e1, e3, e4⟩ := m_begin hI f1
  have hM : MVc σ1 σ := MVc_V (fun k hk => by
    symm
    refine hF1.1 k ?_ ?_ ?_
    · rcases hk with e | e | e | e | e | e | e | e | e | e | e | e | e | e <;> rw [e] <;> decide
    · rcases hk with e | e | e | e | e | e | e | e | e | e | e | e | e | e <;> rw [e] <;> decide
    · rcases hk with e | e | e | e | e | e | e | e | e | e | e | e | e | e <;> rw [e] <;> decide) hI1.2.1
  refine w218 hT (fun w0 w1 => ⟨fun _ => b263_1 (l263_2 (INV_c hI).2.2.1 hM (h1 w0 w1 σ1 hF1 hT) 9 0 (by omega)), fun q => absurd (by decide) q⟩) (fun z => ⟨fun q => absurd rfl q, fun _ => h2 z _ (FRM_tr hF1 FRM_153) (up_same _ _ _ _)⟩)
end BATS
