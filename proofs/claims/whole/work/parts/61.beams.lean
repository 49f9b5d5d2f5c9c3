/-! BEAMS -/
/-- ways of the reference, all of them -/
def EW (σ : dS) : Int → Int := fl3 (fl0 σ) (σ 5 0).toNat (σ 5 0).toNat
def rE (R : Int) (E : Int → Int) : Prop := ∀ a b, 0 ≤ a → a < R → 0 ≤ b → b < R → 0 ≤ E (10 * a + b) ∧ E (10 * a + b) ≤ 1000000
section FLOYD
variable {R : Int} {E C : Int → Int}
theorem fstep_r (R10 : R ≤ 10) (h : rE R E) {k a b : Int} (k0 : 0 ≤ k) (k1 : k < R) (a0 : 0 ≤ a) (a1 : a < R) (b0 : 0 ≤ b) (b1 : b < R) : rE R (fstep E k a b) := by
  intro x y x0 x1 y0 y1
  unfold fstep
  have h1 := h a k a0 a1 k0 k1
  have h2 := h k b k0 k1 b0 b1
  have h3 := h a b a0 a1 b0 b1
  by_cases z : 10 * x + y = 10 * a + b ∧ E (10 * a + k) + E (10 * k + b) < E (10 * a + b)
  · rw [if_pos z]; omega
  · rw [if_neg z]; exact h x y x0 x1 y0 y1
theorem fl1_r (R10 : R ≤ 10) (h : rE R E) {k a : Int} (k0 : 0 ≤ k) (k1 : k < R) (a0 : 0 ≤ a) (a1 : a < R) : ∀ b : Nat, (b : Int) ≤ R → rE R (fl1 E k a b)
  | 0, _ => h
  | b + 1, hb => fstep_r R10 (fl1_r R10 h k0 k1 a0 a1 b (by omega)) k0 k1 a0 a1 (by omega) (by omega)
theorem fl2_r (R10 : R ≤ 10) {N : Nat} (eN : (N : Int) = R) (h : rE R E) {k : Int} (k0 : 0 ≤ k) (k1 : k < R) : ∀ a : Nat, (a : Int) ≤ R → rE R (fl2 E N k a)
  | 0, _ => h
  | a + 1, ha => fl1_r R10 (fl2_r R10 eN h k0 k1 a (by omega)) k0 k1 (by omega) (by omega) N (by omega)
theorem fl3_r (R10 : R ≤ 10) {N : Nat} (eN : (N : Int) = R) (h : rE R E) : ∀ k : Nat, (k : Int) ≤ R → rE R (fl3 E N k)
  | 0, _ => h
  | k + 1, hk => fl2_r R10 eN (fl3_r R10 eN h k (by omega)) (by omega) (by omega) N (by omega)
/-- the class's ways: none of them above 10000 -/
def rC (R : Int) (E C : Int → Int) : Prop := ∀ a b, 0 ≤ a → a < R → 0 ≤ b → b < R → C (10 * a + b) = min (E (10 * a + b)) 10000
theorem rC_step (R10 : R ≤ 10) (hE : rE R E) (h : rC R E C) {k a b : Int} (k0 : 0 ≤ k) (k1 : k < R) (a0 : 0 ≤ a) (a1 : a < R) (b0 : 0 ≤ b) (b1 : b < R) {C' : Int → Int} (hC : ∀ i, C' i = if i = 10 * a + b ∧ C (10 * a + k) + C (10 * k + b) < C (10 * a + b) then C (10 * a + k) + C (10 * k + b) else C i) : rC R (fstep E k a b) C' := by
  intro x y x0 x1 y0 y1
  have h1 := h a k a0 a1 k0 k1
  have h2 := h k b k0 k1 b0 b1
  have h3 := h a b a0 a1 b0 b1
  have r1 := hE a k a0 a1 k0 k1
  have r2 := hE k b k0 k1 b0 b1
  have r3 := hE a b a0 a1 b0 b1
  rw [hC]
  unfold fstep
  by_cases e : 10 * x + y = 10 * a + b
  · rw [e]
    by_cases z : C (10 * a + k) + C (10 * k + b) < C (10 * a + b)
    · rw [if_pos ⟨rfl, z⟩]
      by_cases w : E (10 * a + k) + E (10 * k + b) < E (10 * a + b)
      · rw [if_pos ⟨rfl, w⟩]; omega
      · rw [if_neg (fun q => w q.2)]; omega
    · rw [if_neg (fun q => z q.2)]
      by_cases w : E (10 * a + k) + E (10 * k + b) < E (10 * a + b)
      · rw [if_pos ⟨rfl, w⟩]; omega
      · rw [if_neg (fun q => w q.2)]; omega
  · rw [if_neg (fun q => e q.1), if_neg (fun q => e q.1)]
    exact h x y x0 x1 y0 y1
end FLOYD
theorem fl0_r {σ : dS} (hf : flOK σ) (R10 : σ 5 0 ≤ 10) : rE (σ 5 0) (fl0 σ) := by
  intro a b a0 a1 b0 b1
  have := (hf.2 a b a0 (by omega) b0 (by omega)).1
  unfold fl0
  by_cases z : (10 * a + b) % 11 = 0
  · rw [if_pos z]; omega
  · rw [if_neg z]
    by_cases y : 0 < σ 9 (10 * a + b)
    · rw [if_pos y]; omega
    · rw [if_neg y]; omega
theorem EW_r {σ : dS} (hf : flOK σ) (R : 0 ≤ σ 5 0 ∧ σ 5 0 ≤ 10) : rE (σ 5 0) (EW σ) := fl3_r R.2 (by omega) (fl0_r hf R.2) (σ 5 0).toNat (by omega)
def nrb (σ : dS) (m r : Int) : Nat → Int
  | 0 => 0
  | p + 1 => ior (nrb σ m r p) (if EW σ (10 * r + σ 21 (p : Int)) ≤ m then shl 1 (p : Int) else 0)
def rnp (σ : dS) (m x p : Int) : Nat → Int
  | 0 => 0
  | r + 1 => if rnp σ m x p r ≠ 0 ∨ (ian (shr x (r : Int)) 1 = 1 ∧ EW σ (10 * (r : Int) + σ 21 p) ≤ m) then 1 else 0
theorem rnp_r (σ : dS) (m x p : Int) : ∀ r : Nat, rnp σ m x p r = 0 ∨ rnp σ m x p r = 1
  | 0 => Or.inl rfl
  | r + 1 => by
    unfold rnp
    by_cases z : rnp σ m x p r ≠ 0 ∨ (ian (shr x (r : Int)) 1 = 1 ∧ EW σ (10 * (r : Int) + σ 21 p) ≤ m)
    · rw [if_pos z]; exact Or.inr rfl
    · rw [if_neg z]; exact Or.inl rfl
def rnn (σ : dS) (m x : Int) : Nat → Int
  | 0 => 0
  | p + 1 => rnn σ m x p + rnp σ m x (p : Int) (σ 5 0).toNat
theorem rnn_r (σ : dS) (m x : Int) : ∀ p : Nat, 0 ≤ rnn σ m x p ∧ rnn σ m x p ≤ p
  | 0 => by simp [rnn]
  | p + 1 => by
    have := rnn_r σ m x p
    have := rnp_r σ m x (p : Int) (σ 5 0).toNat
    rw [rnn]; omega
def ror (σ : dS) (m x : Int) : Nat → Int
  | 0 => 0
  | r + 1 => ior (ror σ m x r) (if ian (shr x (r : Int)) 1 = 1 then nrb σ m (r : Int) (σ 5 3).toNat else 0)
theorem tb_or {x y r : Int} (r0 : 0 ≤ r) (r1 : r < 32) : ian (shr (ior x y) r) 1 = if ian (shr x r) 1 = 1 ∨ ian (shr y r) 1 = 1 then 1 else 0 := by
  rw [tb_eq r0 r1, tb_eq r0 r1, tb_eq r0 r1, gb_ior]
  cases gb x r.toNat <;> cases gb y r.toNat <;> rfl
theorem tb_shl {v r : Int} (r0 : 0 ≤ r) (r1 : r < 32) (v0 : 0 ≤ v) (v1 : v < 32) : ian (shr (shl 1 v) r) 1 = if r = v then 1 else 0 := by
  rw [tb_eq r0 r1, gb_shl v0 v1 (by omega)]
  have e : ((r.toNat : Nat) : Int) = r := by omega
  rw [e]
  by_cases z : r = v
  · rw [if_pos z, decide_eq_true z]; rfl
  · rw [if_neg z, decide_eq_false z]; rfl
theorem nrb_b {σ : dS} {m r q : Int} (q0 : 0 ≤ q) (q1 : q < 32) : ∀ p : Nat, p ≤ 8 → ian (shr (nrb σ m r p) q) 1 = if q < (p : Int) ∧ EW σ (10 * r + σ 21 q) ≤ m then 1 else 0
  | 0, _ => by
    rw [if_neg (by omega)]
    exact tb_0 q0 q1
  | p + 1, hp => by
    have ih := nrb_b (σ := σ) (m := m) (r := r) q0 q1 p (by omega)
    rw [nrb, tb_or q0 q1, ih]
    by_cases y : EW σ (10 * r + σ 21 (p : Int)) ≤ m
    · rw [if_pos y, tb_shl q0 q1 (by omega) (by omega)]
      by_cases e : q = (p : Int)
      · subst e
        rw [if_pos (Or.inr (by rw [if_pos rfl])), if_pos ⟨by omega, y⟩]
      · rw [if_neg e]
        by_cases w : q < (p : Int) ∧ EW σ (10 * r + σ 21 q) ≤ m
        · rw [if_pos w, if_pos (Or.inl rfl), if_pos ⟨by omega, w.2⟩]
        · rw [if_neg w, if_neg (by decide), if_neg (fun u => w ⟨by omega, u.2⟩)]
    · rw [if_neg y, tb_0 q0 q1]
      by_cases w : q < (p : Int) ∧ EW σ (10 * r + σ 21 q) ≤ m
      · rw [if_pos w, if_pos (Or.inl rfl), if_pos ⟨by omega, w.2⟩]
      · rw [if_neg w, if_neg (by decide), if_neg]
        intro u
        by_cases e : q = (p : Int)
        · subst e; exact y u.2
        · exact w ⟨by omega, u.2⟩
theorem ror_b {σ : dS} {m x q : Int} (hP : 0 ≤ σ 5 3 ∧ σ 5 3 ≤ 8) (q0 : 0 ≤ q) (q1 : q < 32) : ∀ r : Nat, ian (shr (ror σ m x r) q) 1 = if q < σ 5 3 then rnp σ m x q r else 0
  | 0 => by
    rw [ror, tb_0 q0 q1, rnp]
    by_cases z : q < σ 5 3
    · rw [if_pos z]
    · rw [if_neg z]
  | r + 1 => by
    have ih := ror_b (m := m) (x := x) hP q0 q1 r
    have nb := nrb_b (σ := σ) (m := m) (r := (r : Int)) q0 q1 (σ 5 3).toNat (by omega)
    have eP : ((σ 5 3).toNat : Int) = σ 5 3 := by omega
    rw [eP] at nb
    have rr := rnp_r σ m x q r
    rw [ror, tb_or q0 q1, ih, rnp]
    by_cases z : q < σ 5 3
    · rw [if_pos z, if_pos z]
      by_cases y : ian (shr x (r : Int)) 1 = 1
      · by_cases w : EW σ (10 * (r : Int) + σ 21 q) ≤ m
        · have nb1 : ian (shr (nrb σ m (r : Int) (σ 5 3).toNat) q) 1 = 1 := by rw [nb, if_pos ⟨z, w⟩]
          rw [if_pos y, nb1, if_pos (Or.inr rfl), if_pos (Or.inr ⟨y, w⟩)]
        · have nb1 : ian (shr (nrb σ m (r : Int) (σ 5 3).toNat) q) 1 = 0 := by rw [nb, if_neg (fun u => w u.2)]
          rw [if_pos y, nb1]
          by_cases v : rnp σ m x q r ≠ 0
          · rw [if_pos (Or.inl (rr.resolve_left v)), if_pos (Or.inl v)]
          · rw [if_neg (fun u => u.elim (fun t => v (by rw [t]; decide)) (fun t => absurd t (by decide))), if_neg (fun u => u.elim v (fun t => w t.2))]
      · rw [if_neg y, tb_0 q0 q1]
        by_cases v : rnp σ m x q r ≠ 0
        · rw [if_pos (Or.inl (rr.resolve_left v)), if_pos (Or.inl v)]
        · rw [if_neg (fun u => u.elim (fun t => v (by rw [t]; decide)) (fun t => absurd t (by decide))), if_neg (fun u => u.elim v (fun t => y t.1))]
    · rw [if_neg z, if_neg z]
      by_cases y : ian (shr x (r : Int)) 1 = 1
      · have nb1 : ian (shr (nrb σ m (r : Int) (σ 5 3).toNat) q) 1 = 0 := by rw [nb, if_neg (fun u => z u.1)]
        rw [if_pos y, nb1, if_neg (by decide)]
      · rw [if_neg y, tb_0 q0 q1, if_neg (by decide)]
theorem nrb_256 {σ : dS} {m r : Int} : ∀ p : Nat, p ≤ 8 → 0 ≤ nrb σ m r p ∧ nrb σ m r p < 256
  | 0, _ => by simp [nrb]
  | p + 1, hp => by
    have ih := nrb_256 (σ := σ) (m := m) (r := r) p (by omega)
    have hs : 0 ≤ shl 1 (p : Int) ∧ shl 1 (p : Int) < 256 := by
      have : ∀ q : Fin 8, 0 ≤ shl 1 ((q.val : Nat) : Int) ∧ shl 1 ((q.val : Nat) : Int) < 256 := by decide
      exact this ⟨p, by omega⟩
    rw [nrb]
    have h8 : (2 : Int) ^ 8 = 256 := by decide
    by_cases y : EW σ (10 * r + σ 21 (p : Int)) ≤ m
    · rw [if_pos y]
      have := ior_2 (k := 8) (by decide) ih.1 (by rw [h8]; exact ih.2) hs.1 (by rw [h8]; exact hs.2)
      rw [h8] at this; exact this
    · rw [if_neg y]
      have := ior_2 (y := 0) (k := 8) (by decide) ih.1 (by rw [h8]; exact ih.2) (by decide) (by decide)
      rw [h8] at this; exact this
theorem ror_256 {σ : dS} {m x : Int} (hP : 0 ≤ σ 5 3 ∧ σ 5 3 ≤ 8) : ∀ r : Nat, 0 ≤ ror σ m x r ∧ ror σ m x r < 256
  | 0 => by simp [ror]
  | r + 1 => by
    have ih := ror_256 (m := m) (x := x) hP r
    have nb := nrb_256 (σ := σ) (m := m) (r := (r : Int)) (σ 5 3).toNat (by omega)
    have h8 : (2 : Int) ^ 8 = 256 := by decide
    rw [ror]
    by_cases y : ian (shr x (r : Int)) 1 = 1
    · rw [if_pos y]
      have := ior_2 (k := 8) (by decide) ih.1 (by rw [h8]; exact ih.2) nb.1 (by rw [h8]; exact nb.2)
      rw [h8] at this; exact this
    · rw [if_neg y]
      have := ior_2 (y := 0) (k := 8) (by decide) ih.1 (by rw [h8]; exact ih.2) (by decide) (by decide)
      rw [h8] at this; exact this
theorem ror_n {σ : dS} {m x : Int} (hP : 0 ≤ σ 5 3 ∧ σ 5 3 ≤ 8) : bcn (ror σ m x (σ 5 0).toNat) = rnn σ m x (σ 5 3).toNat := by
  have r := ror_256 (m := m) (x := x) hP (σ 5 0).toNat
  rw [bcn_eq r.1 (by omega)]
  have key : ∀ k : Nat, k ≤ 10 → pcn (ror σ m x (σ 5 0).toNat) k = rnn σ m x (min k (σ 5 3).toNat) := by
    intro k
    induction k with
    | zero => intro _; rw [Nat.zero_min]; rfl
    | succ k ih =>
      intro hk
      rw [pcn, ih (by omega), ror_b hP (by omega) (by omega)]
      by_cases z : (k : Int) < σ 5 3
      · have e1 : min k (σ 5 3).toNat = k := by omega
        have e2 : min (k + 1) (σ 5 3).toNat = k + 1 := by omega
        rw [if_pos z, e1, e2, rnn]
      · have e1 : min k (σ 5 3).toNat = (σ 5 3).toNat := by omega
        have e2 : min (k + 1) (σ 5 3).toNat = (σ 5 3).toNat := by omega
        rw [if_neg z, e1, e2]; omega
  rw [key 10 (by omega)]
  congr 1
  omega
def bms (σ : dS) (n m : Int) : Nat → Int × Int
  | 0 => (-1, -1)
  | x + 1 => if pcn (x : Int) 10 = n ∧ (bms σ n m x).1 < rnn σ m (x : Int) (σ 5 3).toNat then (rnn σ m (x : Int) (σ 5 3).toNat, (x : Int)) else bms σ n m x
def bmV (σ : dS) (n m w : Int) : Int := if w = 0 then (bms σ n m (shl 1 (σ 5 0)).toNat).1 else (bms σ n m (shl 1 (σ 5 0)).toNat).2
theorem shl_R {R : Int} (h0 : 0 ≤ R) (h1 : R ≤ 10) : 1 ≤ shl 1 R ∧ shl 1 R ≤ 1024 := by
  have : ∀ q : Fin 11, 1 ≤ shl 1 ((q.val : Nat) : Int) ∧ shl 1 ((q.val : Nat) : Int) ≤ 1024 := by decide
  have h := this ⟨R.toNat, by omega⟩
  have e : ((R.toNat : Nat) : Int) = R := by omega
  simp only [e] at h
  exact h
section BEAMS
variable {d : Nat} {Q : dR → dS → Prop} {σ S : dS}
/-! the class -/
theorem l93_2 {S0 : dS} {a : Int} (hR : 0 ≤ S0 5 0 ∧ S0 5 0 ≤ 10) (hf : flOK S0) (a0 : 0 ≤ a) (a1 : a < S0 5 0) (hq : ∀ σ', (∀ k, k ≠ 144 → σ' k = S0 k) → (∀ x y, 0 ≤ x → x < S0 5 0 → 0 ≤ y → y < S0 5 0 → x < a + 1 → σ' 144 (10 * x + y) = min (fl0 S0 (10 * x + y)) 10000) → B93_7 (d + 1) Q a σ') : ∀ (c : Nat) (b : Int) (S : dS), 0 ≤ b → b + c = S0 5 0 → (∀ k, k ≠ 144 → S k = S0 k) → (∀ x y, 0 ≤ x → x < S0 5 0 → 0 ≤ y → y < S0 5 0 → (x < a ∨ (x = a ∧ y < b)) → S 144 (10 * x + y) = min (fl0 S0 (10 * x + y)) 10000) → B93_2 (d + 1) Q a b S
  | 0, b, S, b0, hb, hF, hB => by
    have e5 : S 5 = S0 5 := hF 5 (by decide)
    exact b93_2 ⟨fun _ => hq S hF (fun x y x0 x1 y0 y1 h => hB x y x0 x1 y0 y1 (by omega)), fun z => absurd (by rw [e5]; omega) z⟩
  | c + 1, b, S, b0, hb, hF, hB => by
    have e5 : S 5 = S0 5 := hF 5 (by decide)
    have e9 : S 9 = S0 9 := hF 9 (by decide)
    have b1 : b < S0 5 0 := by omega
    have fb := (hf.2 a b a0 (by omega) b0 (by omega)).1
    have ew : wr (wr (a * 10) + b) = 10 * a + b := by rw [wr_id (x := a * 10) (by omega) (by omega), wr_id (by omega) (by omega)]; omega
    have go : ∀ v, v = min (fl0 S0 (10 * a + b)) 10000 → B93_6 (d + 1) Q a b v (10 * a + b) S := by
      intro v hv
      refine b93_6 (fun σ1 f1 => ?_)
      rw [rput_in (by omega) (by omega)] at f1
      rw [wr_id (by omega) (by omega)]
      refine l93_2 hR hf a0 a1 hq c (b + 1) σ1 (by omega) (by omega) (fun k hk => by rw [f1, up_k hk]; exact hF k hk) (fun x y x0 x1 y0 y1 h => ?_)
      rw [f1]
      by_cases e : 10 * x + y = 10 * a + b
      · rw [e, up_same, hv]
      · rw [up_i e]
        exact hB x y x0 x1 y0 y1 (by omega)
    have go4 : ∀ v, (a ≠ b → v = min (fl0 S0 (10 * a + b)) 10000) → B93_4 (d + 1) Q a b v S := by
      intro v hv
      refine b93_4 ?_
      rw [ew]
      refine ⟨fun z => b93_5 (go v (hv z)), fun z => go 0 ?_⟩
      have : (10 * a + b) % 11 = 0 := by omega
      unfold fl0
      rw [if_pos this]; omega
    have ef : a ≠ b → fl0 S0 (10 * a + b) = if 0 < S0 9 (10 * a + b) then S0 9 (10 * a + b) else 1000000 := by
      intro z
      have : ¬ (10 * a + b) % 11 = 0 := by omega
      unfold fl0
      rw [if_neg this]
    refine b93_2 ⟨fun z => absurd z (by rw [e5]; omega), fun _ => w28_5 a0 (by omega) b0 (by omega) ?_⟩
    rw [e9]
    by_cases z : S0 9 (10 * a + b) = 0
    · rw [if_neg (show ¬ S0 9 (10 * a + b) ≠ 0 from fun q => q z)]
      refine ⟨fun q => absurd rfl q, fun _ => go4 10000 (fun y => ?_)⟩
      rw [ef y, if_neg (by omega)]; omega
    · rw [if_pos z]
      refine ⟨fun _ => b93_3 (go4 _ (fun y => ?_)), fun q => absurd (by omega) q⟩
      rw [ef y, if_pos (by omega)]; omega
theorem l93_1 {S0 : dS} (hR : 0 ≤ S0 5 0 ∧ S0 5 0 ≤ 10) (hf : flOK S0) (hq : ∀ σ', (∀ k, k ≠ 144 → σ' k = S0 k) → rC (S0 5 0) (fl0 S0) (σ' 144) → B93_8 (d + 1) Q σ') : ∀ (c : Nat) (a : Int) (S : dS), 0 ≤ a → a + c = S0 5 0 → (∀ k, k ≠ 144 → S k = S0 k) → (∀ x y, 0 ≤ x → x < S0 5 0 → 0 ≤ y → y < S0 5 0 → x < a → S 144 (10 * x + y) = min (fl0 S0 (10 * x + y)) 10000) → B93_1 (d + 1) Q a S
  | 0, a, S, a0, ha, hF, hB => by
    have e5 : S 5 = S0 5 := hF 5 (by decide)
    exact b93_1 ⟨fun _ => hq S hF (fun x y x0 x1 y0 y1 => hB x y x0 x1 y0 y1 (by omega)), fun z => absurd (by rw [e5]; omega) z⟩
  | c + 1, a, S, a0, ha, hF, hB => by
    have e5 : S 5 = S0 5 := hF 5 (by decide)
    refine b93_1 ⟨fun z => absurd z (by rw [e5]; omega), fun _ => l93_2 (S0 := S0) hR hf a0 (by omega) (fun σ1 g1 g2 => b93_7 ?_) (S0 5 0).toNat 0 S (by omega) (by omega) hF (fun x y x0 x1 y0 y1 h => hB x y x0 x1 y0 y1 (by omega))⟩
    rw [wr_id (by omega) (by omega)]
    exact l93_1 hR hf hq c (a + 1) σ1 (by omega) (by omega) g1 (fun x y x0 x1 y0 y1 h => g2 x y x0 x1 y0 y1 h)
theorem l94_2 {S0 : dS} {R k a : Int} (hR : 0 ≤ R ∧ R ≤ 10) (e5 : S0 5 0 = R) (k0 : 0 ≤ k) (k1 : k < R) (a0 : 0 ≤ a) (a1 : a < R) {E : Int → Int} (hE : rE R E) (hq : ∀ σ', (∀ j, j ≠ 144 → σ' j = S0 j) → rC R (fl1 E k a R.toNat) (σ' 144) → B94_4 d Q k a σ') : ∀ (c b : Nat) (S : dS), (b : Int) + c = R → (∀ j, j ≠ 144 → S j = S0 j) → rC R (fl1 E k a b) (S 144) → B94_2 d Q k a (b : Int) S
  | 0, b, S, hb, hF, hC => by
    have e : S 5 0 = R := by rw [hF 5 (by decide)]; exact e5
    have eb : b = R.toNat := by omega
    refine b94_2 ⟨fun _ => hq S hF ?_, fun z => absurd (by omega) z⟩
    rw [← eb]; exact hC
  | c + 1, b, S, hb, hF, hC => by
    have e : S 5 0 = R := by rw [hF 5 (by decide)]; exact e5
    have b1 : (b : Int) < R := by omega
    have hE1 := fl1_r hR.2 hE k0 k1 a0 a1 b (by omega)
    have ew : ∀ x y : Int, 0 ≤ x → x < R → 0 ≤ y → y < R → wr (wr (x * 10) + y) = 10 * x + y := fun x y x0 x1 y0 y1 => by rw [wr_id (x := x * 10) (by omega) (by omega), wr_id (by omega) (by omega)]; omega
    have er : ∀ x y : Int, 0 ≤ x → x < R → 0 ≤ y → y < R → rat S 144 100 (10 * x + y) = S 144 (10 * x + y) := fun x y x0 x1 y0 y1 => rat_in (by omega) (by omega)
    have b0 : 0 ≤ (b : Int) := by omega
    have hz : ¬ S 5 0 ≤ (b : Int) := by omega
    have i0 : 0 ≤ 10 * a + (b : Int) := by omega
    have i1 : 10 * a + (b : Int) < 100 := by omega
    have eb1 : wr ((b : Int) + 1) = ((b + 1 : Nat) : Int) := by rw [wr_id (by omega) (by omega)]; omega
    have c1 := hC a k a0 a1 k0 k1
    have c2 := hC k (b : Int) k0 k1 b0 b1
    have r1 := hE1 a k a0 a1 k0 k1
    have r2 := hE1 k (b : Int) k0 k1 b0 b1
    have es : wr (S 144 (10 * a + k) + S 144 (10 * k + (b : Int))) = S 144 (10 * a + k) + S 144 (10 * k + (b : Int)) := wr_id (by omega) (by omega)
    refine b94_2 ⟨fun z => absurd z hz, fun _ => ?_⟩
    rw [ew a _ a0 a1 b0 b1, ew a k a0 a1 k0 k1, ew k _ k0 k1 b0 b1, er a _ a0 a1 b0 b1, er a k a0 a1 k0 k1, er k _ k0 k1 b0 b1, es]
    refine ⟨fun z => b94_3 ?_, fun z σ1 f1 => b94_3 ?_⟩
    · rw [eb1]
      refine l94_2 hR e5 k0 k1 a0 a1 hE hq c (b + 1) S (by omega) hF ?_
      refine rC_step hR.2 hE1 hC k0 k1 a0 a1 b0 b1 (fun i => ?_)
      rw [if_neg (fun q => by have := q.2; omega)]
    · rw [rput_in i0 i1] at f1
      rw [eb1]
      refine l94_2 hR e5 k0 k1 a0 a1 hE hq c (b + 1) σ1 (by omega) (fun j hj => by rw [f1, up_k hj]; exact hF j hj) ?_
      refine rC_step hR.2 hE1 hC k0 k1 a0 a1 b0 b1 (fun i => ?_)
      rw [f1]
      by_cases w : i = 10 * a + (b : Int)
      · rw [w, up_same, if_pos ⟨rfl, by omega⟩]
      · rw [up_i w, if_neg (fun q => w q.1)]
theorem l94_1 {S0 : dS} {R k : Int} (hR : 0 ≤ R ∧ R ≤ 10) (e5 : S0 5 0 = R) (k0 : 0 ≤ k) (k1 : k < R) {E : Int → Int} (hE : rE R E) (hq : ∀ σ', (∀ j, j ≠ 144 → σ' j = S0 j) → rC R (fl2 E R.toNat k R.toNat) (σ' 144) → Q (.inl none) σ') : ∀ (c a : Nat) (S : dS), (a : Int) + c = R → (∀ j, j ≠ 144 → S j = S0 j) → rC R (fl2 E R.toNat k a) (S 144) → B94_1 d Q k (a : Int) S
  | 0, a, S, ha, hF, hC => by
    have e : S 5 0 = R := by rw [hF 5 (by decide)]; exact e5
    have ea : a = R.toNat := by omega
    refine b94_1 ⟨fun _ => b94_5 (hq S hF ?_), fun z => absurd (by omega) z⟩
    rw [← ea]
    rw [ea] at hC ⊢
    exact hC
  | c + 1, a, S, ha, hF, hC => by
    have e : S 5 0 = R := by rw [hF 5 (by decide)]; exact e5
    have hE1 := fl2_r hR.2 (N := R.toNat) (by omega) hE k0 k1 a (by omega)
    have ea1 : wr ((a : Int) + 1) = ((a + 1 : Nat) : Int) := by rw [wr_id (by omega) (by omega)]; omega
    refine b94_1 ⟨fun z => absurd z (by omega), fun _ => l94_2 (S0 := S0) (E := fl2 E R.toNat k a) hR e5 k0 k1 (by omega) (by omega) hE1 (fun σ1 g1 g2 => b94_4 ?_) R.toNat 0 S (by omega) hF hC⟩
    rw [ea1]
    exact l94_1 hR e5 k0 k1 hE hq c (a + 1) σ1 (by omega) g1 g2
theorem l93_9 {S0 : dS} {R : Int} (hR : 0 ≤ R ∧ R ≤ 10) (e5 : S0 5 0 = R) {E : Int → Int} (hE : rE R E) (hq : ∀ σ', (∀ j, j ≠ 144 → σ' j = S0 j) → rC R (fl3 E R.toNat R.toNat) (σ' 144) → Q (.inl none) σ') : ∀ (c k : Nat) (S : dS), (k : Int) + c = R → (∀ j, j ≠ 144 → S j = S0 j) → rC R (fl3 E R.toNat k) (S 144) → B93_9 (d + 1) Q (k : Int) S
  | 0, k, S, hk, hF, hC => by
    have e : S 5 0 = R := by rw [hF 5 (by decide)]; exact e5
    have ek : k = R.toNat := by omega
    refine b93_9 ⟨fun _ => b93_10 (hq S hF ?_), fun z => absurd (by omega) z⟩
    rw [ek] at hC
    exact hC
  | c + 1, k, S, hk, hF, hC => by
    have e : S 5 0 = R := by rw [hF 5 (by decide)]; exact e5
    have hE1 := fl3_r hR.2 (N := R.toNat) (by omega) hE k (by omega)
    have ek1 : wr ((k : Int) + 1) = ((k + 1 : Nat) : Int) := by rw [wr_id (by omega) (by omega)]; omega
    refine b93_9 ⟨fun z => absurd z (by omega), fun _ => c94 (b94_0 (l94_1 (S0 := S0) (E := fl3 E R.toNat k) hR e5 (by omega) (by omega) hE1 (fun σ1 g1 g2 => ?_) R.toNat 0 S (by omega) hF hC))⟩
    rw [ek1]
    exact l93_9 hR e5 hE hq c (k + 1) σ1 (by omega) g1 g2
theorem w93 {K : dS → Prop} (hR : 0 ≤ S 5 0 ∧ S 5 0 ≤ 10) (hf : flOK S) (hq : ∀ σ', (∀ j, j ≠ 144 → σ' j = S j) → rC (S 5 0) (EW S) (σ' 144) → K σ') : wV (d + 3) 93 [.inr (.inr 142)] S Q K := by
  refine c93 (b93_0 (l93_1 (S0 := S) hR hf (fun σ1 g1 g2 => b93_8 ?_) (S 5 0).toNat 0 S (by omega) (by omega) (fun _ _ => rfl) (fun x y _ _ _ _ h => absurd h (by omega))))
  exact l93_9 (S0 := S) (R := S 5 0) (E := fl0 S) hR rfl (fl0_r hf hR.2) (fun σ' q1 q2 => hq σ' q1 q2) (S 5 0).toNat 0 σ1 (by omega) g1 g2
theorem l95 {S0 : dS} {m r : Int} (hc : cityOK S0) (hf : flOK S0) (r0 : 0 ≤ r) (r1 : r < S0 5 0) (m200 : m ≤ 200) (hF : ∀ k, (k = 5 ∨ k = 21) → S k = S0 k) (hC : rC (S0 5 0) (EW S0) (S 144)) (hq : Q (.inl (some (.inl (nrb S0 m r (S0 5 3).toNat)))) S) : ∀ (c p : Nat), (p : Int) + c = S0 5 3 → B95_1 d Q r m (nrb S0 m r p) (p : Int) S
  | 0, p, hp => by
    have e5 : S 5 = S0 5 := hF 5 (by omega)
    have ep : p = (S0 5 3).toNat := by omega
    refine b95_1 ⟨fun _ => b95_4 ?_, fun z => absurd (by rw [e5]; omega) z⟩
    rw [ep]; exact hq
  | c + 1, p, hp => by
    have hP := hc.2.2.1
    have hR := hc.1
    have e5 : S 5 = S0 5 := hF 5 (by omega)
    have hp2 := (hc.2.2.2.2.2.2.1 (p : Int) (by omega) (by omega)).2.1
    have hC2 := hC r (S0 21 (p : Int)) r0 r1 hp2.1 hp2.2
    have ih := l95 hc hf r0 r1 m200 hF hC hq c (p + 1) (by omega)
    have ew : wr ((p : Int) + 1) = ((p + 1 : Nat) : Int) := by rw [wr_id (by omega) (by omega)]; omega
    have e21 : rat S 21 8 (p : Int) = S0 21 (p : Int) := by rw [rat_in (by omega) (by omega), hF 21 (by omega)]
    have ei : wr (wr (r * 10) + S0 21 (p : Int)) = 10 * r + S0 21 (p : Int) := by rw [wr_id (x := r * 10) (by omega) (by omega), wr_id (by omega) (by omega)]; omega
    have e144 : rat S 144 100 (10 * r + S0 21 (p : Int)) = min (EW S0 (10 * r + S0 21 (p : Int))) 10000 := by rw [rat_in (by omega) (by omega)]; exact hC2
    rw [nrb] at ih
    refine b95_1 ⟨fun z => absurd z (by rw [e5]; omega), fun _ => ?_⟩
    rw [e21, ei, e144]
    refine ⟨fun z => b95_2 (b95_3 ?_), fun z => b95_3 ?_⟩
    · rw [if_neg (by omega)] at ih
      rw [ew]; exact ih
    · rw [if_pos (by omega)] at ih
      rw [ew]; exact ih
theorem l96 {S0 : dS} {m x : Int} (hc : cityOK S0) (e5 : S 5 = S0 5) (h146 : ∀ r, 0 ≤ r → r < S0 5 0 → S 146 r = nrb S0 m r (S0 5 3).toNat) (hq : Q (.inl (some (.inl (ror S0 m x (S0 5 0).toNat)))) S) : ∀ (c r : Nat), (r : Int) + c = S0 5 0 → B96_1 d Q x (ror S0 m x r) (r : Int) S
  | 0, r, hr => by
    have er : r = (S0 5 0).toNat := by omega
    refine b96_1 ⟨fun _ => b96_4 ?_, fun z => absurd (by rw [e5]; omega) z⟩
    rw [er]; exact hq
  | c + 1, r, hr => by
    have hR := hc.1
    have ih := l96 hc e5 h146 hq c (r + 1) (by omega)
    have ew : wr ((r : Int) + 1) = ((r + 1 : Nat) : Int) := by rw [wr_id (by omega) (by omega)]; omega
    rw [ror] at ih
    refine b96_1 ⟨fun z => absurd z (by rw [e5]; omega), fun _ => ?_⟩
    rw [rat_in (by omega) (by omega), h146 _ (by omega) (by omega)]
    refine ⟨fun z => b96_2 (b96_3 ?_), fun z => b96_3 ?_⟩
    · rw [if_neg z] at ih
      rw [ew]; exact ih
    · rw [if_pos (Decidable.of_not_not z)] at ih
      rw [ew]; exact ih
theorem l92_3 {S0 : dS} {n m : Int} (hc : cityOK S0) (hq : ∀ σ', (∀ k, k ≠ 142 → k ≠ 144 → k ≠ 146 → σ' k = S0 k) → σ' 142 3 = (bms S0 n m (shl 1 (S0 5 0)).toNat).1 → σ' 142 4 = (bms S0 n m (shl 1 (S0 5 0)).toNat).2 → Q (.inl none) σ') : ∀ (c x : Nat) (S : dS), (x : Int) + c = shl 1 (S0 5 0) → (∀ k, k ≠ 142 → k ≠ 144 → k ≠ 146 → S k = S0 k) → (∀ r, 0 ≤ r → r < S0 5 0 → S 146 r = nrb S0 m r (S0 5 3).toNat) → S 142 3 = (bms S0 n m x).1 → S 142 4 = (bms S0 n m x).2 → B92_3 (d + 1) Q n (x : Int) S
  | 0, x, S, hx, hF, hB, h3, h4 => by
    have e5 : S 5 = S0 5 := hF 5 (by decide) (by decide) (by decide)
    have ex : x = (shl 1 (S0 5 0)).toNat := by omega
    refine b92_3 ⟨fun _ => b92_5 (hq S hF (by rw [h3, ex]) (by rw [h4, ex])), fun z => absurd (by rw [e5]; omega) z⟩
  | c + 1, x, S, hx, hF, hB, h3, h4 => by
    have hR := hc.1
    have hP := hc.2.2.1
    have sR := shl_R hR.1 hR.2
    have e5 : S 5 = S0 5 := hF 5 (by decide) (by decide) (by decide)
    have ew : wr ((x : Int) + 1) = ((x + 1 : Nat) : Int) := by rw [wr_id (by omega) (by omega)]; omega
    have es : bms S0 n m (x + 1) = if pcn (x : Int) 10 = n ∧ (bms S0 n m x).1 < rnn S0 m (x : Int) (S0 5 3).toNat then (rnn S0 m (x : Int) (S0 5 3).toNat, (x : Int)) else bms S0 n m x := rfl
    have no : ¬ (pcn (x : Int) 10 = n ∧ (bms S0 n m x).1 < rnn S0 m (x : Int) (S0 5 3).toNat) → B92_4 (d + 1) Q n (x : Int) S := by
      intro z
      rw [if_neg z] at es
      refine b92_4 ?_
      rw [ew]
      exact l92_3 hc hq c (x + 1) S (by omega) hF hB (by rw [es]; exact h3) (by rw [es]; exact h4)
    refine b92_3 ⟨fun z => absurd z (by rw [e5]; omega), fun _ => w0_ ?_⟩
    rw [bcn_eq (by omega) (by omega)]
    refine ⟨fun z => no (fun q => z q.1), fun z => c96 (b96_0 (l96 (S0 := S0) (m := m) hc e5 hB (w0_ ?_) (S0 5 0).toNat 0 (by omega)))⟩
    rw [ror_n hP, h3]
    refine ⟨fun y => no (fun q => by omega), fun y σ1 f1 σ2 f2 => b92_4 ?_⟩
    rw [if_pos ⟨Decidable.of_not_not z, by omega⟩] at es
    rw [ew]
    refine l92_3 hc hq c (x + 1) σ2 (by omega) (fun k q1 q2 q3 => by rw [f2, up_k q1, f1, up_k q1]; exact hF k q1 q2 q3) (fun r r0 r1 => by rw [f2, up_k (by decide), f1, up_k (by decide)]; exact hB r r0 r1) ?_ ?_
    · rw [es, f2, up_i (by decide), f1, up_same]
    · rw [es, f2, up_same]
theorem l92_1 {S0 : dS} {n m : Int} (hc : cityOK S0) (hf : flOK S0) (m200 : m ≤ 200) (hq : ∀ σ', (∀ k, k ≠ 142 → k ≠ 144 → k ≠ 146 → σ' k = S0 k) → σ' 142 3 = -1 → σ' 142 4 = -1 → (∀ r, 0 ≤ r → r < S0 5 0 → σ' 146 r = nrb S0 m r (S0 5 3).toNat) → B92_2 (d + 1) Q n σ') : ∀ (c : Nat) (r : Int) (S : dS), 0 ≤ r → r + c = S0 5 0 → (∀ k, k ≠ 142 → k ≠ 144 → k ≠ 146 → S k = S0 k) → rC (S0 5 0) (EW S0) (S 144) → S 142 3 = -1 → S 142 4 = -1 → (∀ j, 0 ≤ j → j < r → S 146 j = nrb S0 m j (S0 5 3).toNat) → B92_1 (d + 1) Q n m r S
  | 0, r, S, r0, hr, hF, hC, h3, h4, hB => by
    have e5 : S 5 = S0 5 := hF 5 (by decide) (by decide) (by decide)
    exact b92_1 ⟨fun _ => hq S hF h3 h4 (fun j j0 j1 => hB j j0 (by omega)), fun z => absurd (by rw [e5]; omega) z⟩
  | c + 1, r, S, r0, hr, hF, hC, h3, h4, hB => by
    have hR := hc.1
    have hP := hc.2.2.1
    have e5 : S 5 = S0 5 := hF 5 (by decide) (by decide) (by decide)
    refine b92_1 ⟨fun z => absurd z (by rw [e5]; omega), fun _ => c95 (b95_0 (l95 (S0 := S0) hc hf r0 (by omega) m200 (fun k hk => hF k (by omega) (by omega) (by omega)) hC (fun σ1 f1 => ?_) (S0 5 3).toNat 0 (by omega)))⟩
    rw [rput_in r0 (by omega)] at f1
    rw [wr_id (by omega) (by omega)]
    refine l92_1 hc hf m200 hq c (r + 1) σ1 (by omega) (by omega) (fun k q1 q2 q3 => by rw [f1, up_k q3]; exact hF k q1 q2 q3) (by rw [f1, up_k (by decide)]; exact hC) (by rw [f1, up_k (by decide)]; exact h3) (by rw [f1, up_k (by decide)]; exact h4) (fun j j0 j1 => ?_)
    rw [f1]
    by_cases e : j = r
    · subst e; rw [up_same]
    · rw [up_i e]; exact hB j j0 (by omega)
theorem EW_k {σ' : dS} (h5 : σ' 5 = σ 5) (h9 : σ' 9 = σ 9) : EW σ' = EW σ := by
  have e : fl0 σ' = fl0 σ := by funext i; unfold fl0; rw [h9]
  unfold EW
  rw [e, h5]
theorem x_beams {K : Int → dS → Prop} {n m w : Int} (hI : INV σ) (h1 : (0 ≤ w ∧ w ≤ 1) → (0 ≤ n ∧ n ≤ 10) → (0 ≤ m ∧ m ≤ 200) → ∀ σ', FRM σ σ' → K (bmV σ n m w) σ') (h2 : ¬ (0 ≤ w ∧ w ≤ 1) → Q (.inr 0) σ) (h3 : (0 ≤ w ∧ w ≤ 1) → ¬ ((0 ≤ n ∧ n ≤ 10) ∧ (0 ≤ m ∧ m ≤ 200)) → Q (.inr 1) σ) : wI (d + 7) 132 [.inr (.inr 0), .inl n, .inl m, .inl w] σ Q K := by
  have hc := INV_c hI
  have hR := hc.1
  have hf := hI.2.2.2.1
  have sR := shl_R hR.1 hR.2
  refine c132 (b132_0 ⟨fun z => b132_1 (h2 (by omega)), fun w0 => ⟨fun w1 => b132_2 ⟨fun z => b132_3 (h3 (by omega) (by omega)), fun n0 => ⟨fun z => b132_3 (h3 (by omega) (by omega)), fun n1 => ⟨fun z => b132_3 (h3 (by omega) (by omega)), fun m0 => ⟨fun m1 => b132_4 ?_, fun z => b132_3 (h3 (by omega) (by omega))⟩⟩⟩⟩, fun z => b132_1 (h2 (by omega))⟩⟩)
  refine c92 (b92_0 (fun σ1 f1 σ2 f2 => ?_))
  have F2 : ∀ k, k ≠ 142 → σ2 k = σ k := fun k hk => by rw [f2, up_k hk, f1, up_k hk]
  have hf2 : flOK σ2 := by unfold flOK; rw [F2 5 (by decide), F2 9 (by decide)]; exact hf
  refine w93 (by rw [F2 5 (by decide)]; exact hR) hf2 (fun σ3 g1 g2 => ?_)
  rw [EW_k (F2 5 (by decide)) (F2 9 (by decide)), F2 5 (by decide)] at g2
  refine l92_1 (S0 := σ) (n := n) (m := m) hc hf m1 (fun σ4 q1 q2 q3 q4 => b92_2 ?_) (σ 5 0).toNat 0 σ3 (by omega) (by omega) (fun k p1 p2 p3 => by rw [g1 k p2]; exact F2 k p1) g2 (by rw [g1 142 (by decide), f2, up_i (by decide), f1, up_same]) (by rw [g1 142 (by decide), f2, up_same]) (fun j j0 j1 => absurd j1 (by omega))
  refine l92_3 (S0 := σ) (n := n) (m := m) hc (fun σ5 p1 p2 p3 => ?_) (shl 1 (σ 5 0)).toNat 0 σ4 (by omega) q1 q4 q2 q3
  have hh := h1 (by omega) (by omega) (by omega) σ5 (FRM_c (fun k hk => p1 k (by omega) (by omega) (by omega)))
  unfold bmV at hh
  refine ⟨fun z => b132_5 (b132_6 ?_), fun z => b132_6 ?_⟩
  · rw [if_neg z] at hh
    rw [p3]; exact hh
  · rw [if_pos (Decidable.of_not_not z)] at hh
    rw [p2]; exact hh
/-! the reference -/
theorem l162 {x : Int} (hq : Q (.inl (some (.inl (pcn x 10)))) S) : ∀ (c k : Nat), k + c = 10 → B162_1 d Q x (pcn x k) (k : Int) S
  | 0, k, hk => by
    have ek : k = 10 := by omega
    subst ek
    exact b162_1 ⟨fun _ => b162_2 hq, fun z => absurd (by decide) z⟩
  | c + 1, k, hk => by
    have ih := l162 hq c (k + 1) (by omega)
    have ew : wr ((k : Int) + 1) = ((k + 1 : Nat) : Int) := by rw [wr_id (by omega) (by omega)]; omega
    have pr : ∀ k : Nat, k ≤ 10 → 0 ≤ pcn x k ∧ pcn x k ≤ k := by
      intro k
      induction k with
      | zero => intro _; exact ⟨Int.le_refl _, Int.le_refl _⟩
      | succ k ih2 =>
        intro h
        have a := ih2 (by omega)
        have b := tb_r (x := x) (r := (k : Int)) (by omega) (by omega)
        rw [pcn]; omega
    have a := pr k (by omega)
    have b := tb_r (x := x) (r := (k : Int)) (by omega) (by omega)
    rw [pcn] at ih
    refine b162_1 ⟨fun z => absurd z (by omega), fun _ => ?_⟩
    rw [ew, wr_id (by omega) (by omega)]; exact ih
theorem l242_8 {S0 : dS} {n m w x4 x5 x x7 p : Int} (hc : cityOK S0) (hM : MVc S S0) (hfar : ∀ a b, 0 ≤ a → a < S0 5 0 → 0 ≤ b → b < S0 5 0 → S 177 (10 * a + b) = EW S0 (10 * a + b)) (p0 : 0 ≤ p) (p1 : p < S0 5 3) (hq : B242_12 (d + 2) Q n m w x4 x5 x x7 p (rnp S0 m x p (S0 5 0).toNat) S) : ∀ (c r : Nat), (r : Int) + c = S0 5 0 → B242_8 (d + 2) Q n m w x4 x5 x x7 p (rnp S0 m x p r) (r : Int) S
  | 0, r, hr => by
    have e1 := hM.1
    have er : r = (S0 5 0).toNat := by omega
    refine b242_8 ⟨fun _ => ?_, fun z => absurd (by omega) z⟩
    rw [er]; exact hq
  | c + 1, r, hr => by
    have hR := hc.1
    have hP := hc.2.2.1
    have e1 := hM.1
    have hp2 := (hc.2.2.2.2.2.2.1 p p0 p1).2.1
    have ih := l242_8 hc hM hfar p0 p1 hq c (r + 1) (by omega)
    have ew : wr ((r : Int) + 1) = ((r + 1 : Nat) : Int) := by rw [wr_id (by omega) (by omega)]; omega
    have ei : wr (wr (10 * (r : Int)) + S0 21 p) = 10 * (r : Int) + S0 21 p := by rw [wr_id (x := 10 * (r : Int)) (by omega) (by omega), wr_id (by omega) (by omega)]
    have b1 : 0 ≤ 10 * (r : Int) + S0 21 p := by omega
    have b2 : 10 * (r : Int) + S0 21 p < 100 := by omega
    have e177 := hfar (r : Int) (S0 21 p) (by omega) (by omega) hp2.1 hp2.2
    have yes : (rnp S0 m x p r ≠ 0 ∨ (ian (shr x (r : Int)) 1 = 1 ∧ EW S0 (10 * (r : Int) + S0 21 p) ≤ m)) → B242_9 (d + 2) Q n m w x4 x5 x x7 p (r : Int) S := by
      intro z
      rw [rnp, if_pos z] at ih
      refine b242_9 (b242_11 ?_)
      rw [ew]; exact ih
    have no : ¬ (rnp S0 m x p r ≠ 0 ∨ (ian (shr x (r : Int)) 1 = 1 ∧ EW S0 (10 * (r : Int) + S0 21 p) ≤ m)) → B242_10 (d + 2) Q n m w x4 x5 x x7 p (r : Int) S := by
      intro z
      rw [rnp, if_neg z] at ih
      refine b242_10 (b242_11 ?_)
      rw [ew]; exact ih
    refine b242_8 ⟨fun z => absurd z (by omega), fun _ => ⟨fun z => yes (Or.inl z), fun z => ⟨fun y => no (fun q => q.elim z (fun u => y u.1)), fun y => w210 hc hM p0 p1 ?_⟩⟩⟩
    rw [ei, e177]
    exact ⟨b1, b2, fun u => no (fun q => q.elim z (fun v => by have := v.2; omega)), fun u => yes (Or.inr ⟨Decidable.of_not_not y, by omega⟩)⟩
theorem l242_7 {S0 : dS} {n m w x4 x5 x : Int} (hc : cityOK S0) (hM : MVc S S0) (hfar : ∀ a b, 0 ≤ a → a < S0 5 0 → 0 ≤ b → b < S0 5 0 → S 177 (10 * a + b) = EW S0 (10 * a + b)) (hq : B242_15 (d + 2) Q n m w x4 x5 x (rnn S0 m x (S0 5 3).toNat) S) : ∀ (c p : Nat), (p : Int) + c = S0 5 3 → B242_7 (d + 2) Q n m w x4 x5 x (rnn S0 m x p) (p : Int) S
  | 0, p, hp => by
    have e4 := hM.2.2.1
    have ep : p = (S0 5 3).toNat := by omega
    refine b242_7 ⟨fun _ => ?_, fun z => absurd (by omega) z⟩
    rw [ep]; exact hq
  | c + 1, p, hp => by
    have hR := hc.1
    have hP := hc.2.2.1
    have e4 := hM.2.2.1
    have ih := l242_7 hc hM hfar hq c (p + 1) (by omega)
    have ew : wr ((p : Int) + 1) = ((p + 1 : Nat) : Int) := by rw [wr_id (by omega) (by omega)]; omega
    have rr := rnp_r S0 m x (p : Int) (S0 5 0).toNat
    have rn := rnn_r S0 m x p
    rw [rnn] at ih
    refine b242_7 ⟨fun z => absurd z (by omega), fun _ => l242_8 hc hM hfar (by omega) (by omega) (b242_12 ⟨fun z => b242_13 (b242_14 ?_), fun z => b242_14 ?_⟩) (S0 5 0).toNat 0 (by omega)⟩
    · rw [z] at ih
      rw [ew, wr_id (by omega) (by omega)]; exact ih
    · rw [rr.resolve_left z] at ih
      rw [ew, wr_id (by omega) (by omega)]; exact ih
theorem l242_5 {S0 : dS} {n m w : Int} (hc : cityOK S0) (hM : MVc S S0) (hfar : ∀ a b, 0 ≤ a → a < S0 5 0 → 0 ≤ b → b < S0 5 0 → S 177 (10 * a + b) = EW S0 (10 * a + b)) (hq : Q (.inl (some (.inl (bmV S0 n m w)))) S) : ∀ (c x : Nat), (x : Int) + c = shl 1 (S0 5 0) → B242_5 (d + 2) Q n m w (bms S0 n m x).2 (bms S0 n m x).1 (x : Int) S
  | 0, x, hx => by
    have e1 := hM.1
    have ex : x = (shl 1 (S0 5 0)).toNat := by omega
    refine b242_5 ⟨fun _ => b242_18 ?_, fun z => absurd (by rw [e1]; omega) z⟩
    unfold bmV at hq
    rw [← ex] at hq
    refine ⟨fun z => b242_19 (b242_20 ?_), fun z => b242_20 ?_⟩
    · rw [if_neg z] at hq; exact hq
    · rw [if_pos (Decidable.of_not_not z)] at hq; exact hq
  | c + 1, x, hx => by
    have hR := hc.1
    have hP := hc.2.2.1
    have sR := shl_R hR.1 hR.2
    have e1 := hM.1
    have ih := l242_5 hc hM hfar hq c (x + 1) (by omega)
    have ew : wr ((x : Int) + 1) = ((x + 1 : Nat) : Int) := by rw [wr_id (by omega) (by omega)]; omega
    have es : bms S0 n m (x + 1) = if pcn (x : Int) 10 = n ∧ (bms S0 n m x).1 < rnn S0 m (x : Int) (S0 5 3).toNat then (rnn S0 m (x : Int) (S0 5 3).toNat, (x : Int)) else bms S0 n m x := rfl
    have no : ¬ (pcn (x : Int) 10 = n ∧ (bms S0 n m x).1 < rnn S0 m (x : Int) (S0 5 3).toNat) → B242_17 (d + 2) Q n m w (bms S0 n m x).2 (bms S0 n m x).1 (x : Int) S := by
      intro z
      rw [if_neg z] at es
      rw [es] at ih
      refine b242_17 ?_
      rw [ew]; exact ih
    refine b242_5 ⟨fun z => absurd z (by rw [e1]; omega), fun _ => c162 (b162_0 (l162 ⟨fun z => b242_6 ?_, fun z => no (fun q => z q.1)⟩ 10 0 (by omega)))⟩
    refine l242_7 hc hM hfar (b242_15 ⟨fun y => b242_16 (b242_17 ?_), fun y => no (fun q => y q.2)⟩) (S0 5 3).toNat 0 (by omega)
    rw [if_pos ⟨z, y⟩] at es
    rw [es] at ih
    rw [ew]; exact ih
theorem m_beams {K : Int → dS → Prop} {n m w : Int} (hI : INV σ) (h1 : (0 ≤ w ∧ w ≤ 1) → (0 ≤ n ∧ n ≤ 10) → (0 ≤ m ∧ m ≤ 200) → ∀ σ', FRM σ σ' → σ' 153 0 = 0 → K (bmV σ n m w) σ') (h2 : ¬ (0 ≤ w ∧ w ≤ 1) → ∀ σ', FRM σ σ' → σ' 153 0 = 1 → K 0 σ') (h3 : (0 ≤ w ∧ w ≤ 1) → ¬ ((0 ≤ n ∧ n ≤ 10) ∧ (0 ≤ m ∧ m ≤ 200)) → ∀ σ', FRM σ σ' → σ' 153 0 = 2 → K 0 σ') : wI (d + 7) 242 [.inr (.inr 153), .inl n, .inl m, .inl w] σ Q K := by
  have hc := INV_c hI
  have hR := hc.1
  have sR := shl_R hR.1 hR.2
  refine c242 (b242_0 ?_)
  intro σ1 f1
  obtain ⟨hT, hF1, hI1, en, e5, e1, e3, e4⟩ := m_begin hI f1
  have hM : MVc σ1 σ := MVc_V (fun k hk => (cty_F hF1 k hk).symm) hI1.2.1
  have hfar : ∀ a b, 0 ≤ a → a < σ 5 0 → 0 ≤ b → b < σ 5 0 → σ1 177 (10 * a + b) = EW σ (10 * a + b) := fun a b a0 a1 b0 b1 => by
    have := hI1.2.2.2.2.2.2.2.2.2.2.2.2.2.2 a b a0 (by rw [e5]; exact a1) b0 (by rw [e5]; exact b1)
    rw [this]
    show EW σ1 _ = _
    rw [EW_k e5 (hF1.1 9 (by decide) (by decide) (by decide))]
  have bad : (0 ≤ w ∧ w ≤ 1) → ¬ ((0 ≤ n ∧ n ≤ 10) ∧ (0 ≤ m ∧ m ≤ 200)) → B242_1 (d + 5) (fun res σ1 => match res with | .inl (some (.inl v)) => K v σ1 | .inl _ => False | .inr e => Q (.inr e) σ1) n m w σ1 := fun hw z => b242_1 (b242_2 (w158 hT (by decide) (fun q => absurd rfl q) (fun _ => ⟨fun q => absurd rfl q, fun _ => b242_3 (h3 hw z _ (FRM_tr hF1 FRM_153) (up_same _ _ _ _))⟩)))
  refine w218 hT (fun w0 w1 => ⟨fun q => absurd q (by decide), fun _ => w159 (fun n0 n1 => ⟨fun q => absurd q (by decide), fun _ => w159 (fun m0 m1 => ⟨fun q => absurd q (by decide), fun _ => b242_2 (w158 hT (by decide) (fun _ => ⟨fun _ => b242_4 ?_, fun q => absurd (by decide) q⟩) (fun q => absurd q (by decide)))⟩) (fun z => ⟨fun _ => bad ⟨w0, w1⟩ (fun q => z q.2), fun q => absurd rfl q⟩)⟩) (fun z => ⟨fun _ => bad ⟨w0, w1⟩ (fun q => z q.1), fun q => absurd rfl q⟩)⟩) (fun z => ⟨fun _ => b242_3 (h2 z _ (FRM_tr hF1 FRM_153) (up_same _ _ _ _)), fun q => absurd rfl q⟩)
  exact l242_5 (S0 := σ) hc hM hfar (h1 ⟨w0, w1⟩ ⟨n0, n1⟩ ⟨m0, m1⟩ σ1 hF1 hT) (shl 1 (σ 5 0)).toNat 0 (by omega)
end BEAMS
