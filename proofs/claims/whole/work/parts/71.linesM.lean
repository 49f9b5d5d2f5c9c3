/-! THE REFERENCE READS lines -/
def fls (rs : List (List Int)) : List Int := (rs.map flt).flatten
def mfl (S σ : dS) : Prop := (∀ x, x ≠ 153 → ¬ (163 ≤ x ∧ x ≤ 173) → σ x = S x) ∧ (∀ j, j < 16 ∨ (18 ≤ j ∧ j ≤ 19) ∨ (36 ≤ j ∧ j ≠ 1026) → σ 153 j = S 153 j)
def MR (Mk : Nat → dS → Prop) (S : dS) (k : Nat) (D : dS) (dt : Bool) (rs : List (List Int)) (σ : dS) : Prop :=
  mfl S σ ∧ Mk k σ ∧ (σ 153 16 = 0 ∧ σ 153 17 = -1) ∧ (σ 153 27 = D 33 0 ∧ σ 153 28 = D 33 1 ∧ σ 153 29 = D 33 2 ∧ σ 153 30 = D 33 3 ∧ σ 153 31 = (rs.length : Int) ∧ σ 153 32 = (if dt = true then D 33 4 else -1)) ∧
  (∀ r, 0 ≤ r → r < D 33 0 → σ 163 r = D 35 r) ∧ (∀ i, 0 ≤ i → i < 100 → σ 164 i = D 37 i) ∧
  (∀ o, 0 ≤ o → o < D 33 2 → σ 165 o = D 39 o ∧ σ 166 o = D 41 o ∧ σ 167 o = D 43 o ∧ ∀ i, 0 ≤ i → i < D 43 o → σ 168 (8 * o + i) = D 45 (8 * o + i)) ∧
  (∀ p, 0 ≤ p → p < D 33 3 → σ 169 (4 * p) = D 47 p ∧ σ 169 (4 * p + 1) = D 49 p ∧ σ 169 (4 * p + 2) = D 51 p ∧ σ 169 (4 * p + 3) = D 53 p) ∧
  (∀ i : Nat, i < rs.length → σ 170 i = ((fls (rs.take i)).length : Int)) ∧ σ 153 33 = ((fls rs).length : Int) ∧ seg σ 171 0 (fls rs)
def MF (S : dS) (f p : Int) (σ : dS) : Prop := mfl S σ ∧ σ 153 16 = f ∧ σ 153 17 = p
section ML
variable {c q v : Nat → Int} {N : Nat} {Mk : Nat → dS → Prop} {S : dS} {d : Nat} {Q : dR → dS → Prop} {σ : dS} {k : Nat} {D : dS} {dt : Bool} {rs : List (List Int)}
theorem mfl_j {j x : Int} (hj : (16 ≤ j ∧ j ≤ 17) ∨ (20 ≤ j ∧ j ≤ 35)) (h : mfl S σ) : mfl S (up σ 153 j x) :=
  ⟨fun y a1 a2 => by rw [up_k a1]; exact h.1 y a1 a2, fun i hi => by rw [up_i (by omega)]; exact h.2 i hi⟩
theorem mfl_c {y : Nat} {i x : Int} (hy : 163 ≤ y ∧ y ≤ 173) (h : mfl S σ) : mfl S (up σ y i x) :=
  ⟨fun z a1 a2 => by rw [up_k (by omega)]; exact h.1 z a1 a2, fun j hj => by rw [up_k (by omega)]; exact h.2 j hj⟩
theorem MF_of {f : Int} (hT : TM c q v N Mk) (hk : k ≤ N) (hM : Mk k σ) (h : mfl S σ) : MF S f (q k) (up (up σ 153 16 f) 153 17 (σ 153 22)) :=
  ⟨mfl_j (by omega) (mfl_j (by omega) h), by rw [up_i (by decide), up_same], by rw [up_same]; exact (hT.1 k σ hk hM).1⟩
theorem w172M {K : dS → Prop} {f : Int} (hT : TM c q v N Mk) (hk : k ≤ N) (h : MR Mk S k D dt rs σ) (hq : ∀ σ', MF S f (q k) σ' → K σ') : wV (d + 2) 172 [.inr (.inr 153), .inl f] σ Q K :=
  w172 h.2.2.1.1 (hq _ (MF_of hT hk h.2.1 h.1))
theorem MR_goes {K : dS → Prop} (hT : TM c q v N Mk) (hk : k < N) (h : MR Mk S k D dt rs σ) (hq : ∀ σ', (∀ x, x ≠ 153 → σ' x = σ x) → MR Mk S (k + 1) D dt rs σ' → K σ') : wV (d + 5) 168 [.inr (.inr 153)] σ Q K := by
  obtain ⟨a1, a2, ⟨a3, a3'⟩, ⟨n1, n2, n3, n4, n5, n6⟩, b1, b2, b3, b4, b5, b6, b7⟩ := h
  refine hT.2.2.1 d Q K σ k hk a2 (fun σ' f1 f2 f3 => hq σ' f1 ?_)
  refine ⟨⟨fun x h1 h2 => by rw [f1 x h1]; exact a1.1 x h1 h2, fun j hj => by rw [f2 j (by omega)]; exact a1.2 j hj⟩, f3, ⟨by rw [f2 16 (by omega)]; exact a3, by rw [f2 17 (by omega)]; exact a3'⟩, ⟨by rw [f2 27 (by omega)]; exact n1, by rw [f2 28 (by omega)]; exact n2, by rw [f2 29 (by omega)]; exact n3, by rw [f2 30 (by omega)]; exact n4, by rw [f2 31 (by omega)]; exact n5, by rw [f2 32 (by omega)]; exact n6⟩, by rw [f1 163 (by decide)]; exact b1, by rw [f1 164 (by decide)]; exact b2, by rw [f1 165 (by decide), f1 166 (by decide), f1 167 (by decide), f1 168 (by decide)]; exact b3, by rw [f1 169 (by decide)]; exact b4, by rw [f1 170 (by decide)]; exact b5, by rw [f2 33 (by omega)]; exact b6, seg_k (f1 171 (by decide)) b7⟩
/-- numbers and roofs -/
theorem w176M {K : Int → dS → Prop} {lo hi : Int} (hhi : hi ≤ 9999) (hT : TM c q v N Mk) (c0 : c N = 0) (hk : k ≤ N) (h : MR Mk S k D dt rs σ) (h1 : fN c v k lo hi ≠ 0 → ∀ y σ', MF S (fN c v k lo hi) (q k) σ' → K y σ') (h0 : fN c v k lo hi = 0 → lo ≤ v k → v k ≤ hi → c k = 1 → ∀ σ', (∀ x, x ≠ 153 → σ' x = σ x) → MR Mk S (k + 1) D dt rs σ' → K (v k) σ') : wI (d + 6) 176 [.inr (.inr 153), .inl lo, .inl hi] σ Q K := by
  obtain ⟨m1, m2, m3, m4, m5, m6⟩ := hT.1 k σ hk h.2.1
  have hg := h.2.2.1.1
  have bad : ∀ f, f = fN c v k lo hi → f ≠ 0 → ∀ σ', MF S f (q k) σ' → B176_4 (d + 4) (fun res σ1 => match res with | .inl (some (.inl v)) => K v σ1 | .inl _ => False | .inr e => Q (.inr e) σ1) σ' := by
    intro f ef hf σ' g
    rw [ef] at g hf
    exact b176_4 (w173b (by rw [g.2.1]; exact hf) ⟨fun _ => b176_5 (h1 hf _ σ' g), fun z => absurd rfl z⟩)
  refine c176 (b176_0 (w173g hg ⟨fun _ => b176_1 ⟨fun z => b176_2 ?_, fun z => ?_⟩, fun z => absurd (by decide) z⟩))
  · have e1 : c k = 1 := m3.mp z
    obtain ⟨m7, m8⟩ := m5 e1
    have n1 : ¬ c k ≠ 1 := fun u => u e1
    refine ⟨fun y => b176_3 (w172M hT hk h (bad 2 ?_ ne_2)), fun y => ?_⟩
    · unfold fN
      rw [if_neg n1, if_pos (by have : ¬ v k ≤ 9999 := fun u => absurd (m7.mpr u) (by omega); omega)]
    · have e24 := m8 (m7.mp (by omega))
      rw [e24]
      refine ⟨fun x => b176_3 (w172M hT hk h (bad 2 ?_ ne_2)), fun x => ⟨fun w => ?_, fun w => b176_3 (w172M hT hk h (bad 2 ?_ ne_2))⟩⟩
      · unfold fN; rw [if_neg n1, if_pos (Or.inl x)]
      · have e0 : fN c v k lo hi = 0 := by unfold fN; rw [if_neg n1, if_neg (by omega)]
        have hlt := one_lt c0 hk (by omega)
        refine b176_4 (w173g hg ⟨fun u => absurd u (by decide), fun _ => MR_goes hT hlt h (fun σ' f1 g => b176_5 ?_)⟩)
        rw [e24]
        exact h0 e0 (by omega) w e1 σ' f1 g
      · unfold fN; rw [if_neg n1, if_pos (Or.inr (by omega))]
  · have n1 : c k ≠ 1 := fun u => z (m3.mpr u)
    exact w172M hT hk h (bad 1 (by unfold fN; rw [if_pos n1]) ne_1)
theorem w177M {K : Int → dS → Prop} (hT : TM c q v N Mk) (hk : k ≤ N) (h : MR Mk S k D dt rs σ) (hR : D 33 0 ≤ 10) (h1 : fR c v k (D 33 0) ≠ 0 → ∀ σ', MF S (fR c v k (D 33 0)) (q k) σ' → K 0 σ') (h0 : fR c v k (D 33 0) = 0 → c k = 1 → v k < D 33 0 → K (v k) σ) : wI (d + 4) 177 [.inr (.inr 153)] σ Q K := by
  obtain ⟨m1, m2, m3, m4, m5, m6⟩ := hT.1 k σ hk h.2.1
  have hg := h.2.2.1.1
  have bad : ∀ f, f = fR c v k (D 33 0) → f ≠ 0 → ∀ σ', MF S f (q k) σ' → B177_4 (d + 2) (fun res σ1 => match res with | .inl (some (.inl v)) => K v σ1 | .inl _ => False | .inr e => Q (.inr e) σ1) σ' := by
    intro f ef hf σ' g
    rw [ef] at g hf
    exact b177_4 (w173b (by rw [g.2.1]; exact hf) ⟨fun _ => b177_5 (b177_6 (h1 hf σ' g)), fun z => absurd rfl z⟩)
  refine c177 (b177_0 (w173g hg ⟨fun _ => b177_1 ⟨fun z => b177_2 ?_, fun z => ?_⟩, fun z => absurd (by decide) z⟩))
  · have e1 : c k = 1 := m3.mp z
    obtain ⟨m7, m8⟩ := m5 e1
    have n1 : ¬ c k ≠ 1 := fun u => u e1
    refine ⟨fun y => b177_3 ?_, fun y => w172M hT hk h (bad 2 ?_ ne_2)⟩
    · have le := m7.mp y
      have e24 := m8 le
      rw [e24, h.2.2.2.1.1]
      refine ⟨fun x => b177_4 (w173g hg ⟨fun u => absurd u (by decide), fun _ => b177_6 ?_⟩), fun x => w172M hT hk h (bad 3 ?_ ne_3)⟩
      · rw [e24]
        exact h0 (by unfold fR; rw [if_neg n1, if_neg (by omega), if_neg (by omega)]) e1 x
      · unfold fR; rw [if_neg n1, if_neg (by omega), if_pos (by omega)]
    · unfold fR
      rw [if_neg n1, if_pos (by have : ¬ v k ≤ 9999 := fun u => y (m7.mpr u); omega)]
  · have n1 : c k ≠ 1 := fun u => z (m3.mpr u)
    exact w172M hT hk h (bad 1 (by unfold fR; rw [if_pos n1]) ne_1)
theorem w178M {K : Int → dS → Prop} (hT : TM c q v N Mk) (c0 : c N = 0) (hk : k ≤ N) (h : MR Mk S k D dt rs σ) (hR : D 33 0 ≤ 10) (h1 : fR c v k (D 33 0) ≠ 0 → ∀ σ', MF S (fR c v k (D 33 0)) (q k) σ' → K 0 σ') (h0 : fR c v k (D 33 0) = 0 → c k = 1 → v k < D 33 0 → ∀ σ', (∀ x, x ≠ 153 → σ' x = σ x) → MR Mk S (k + 1) D dt rs σ' → K (v k) σ') : wI (d + 6) 178 [.inr (.inr 153)] σ Q K := by
  refine c178 (b178_0 (w177M (d := d + 1) hT hk h hR (fun y σ' g => w173b (by rw [g.2.1]; exact y) ⟨fun _ => b178_1 (h1 y σ' g), fun z => absurd rfl z⟩) (fun y y1 y2 => w173g h.2.2.1.1 ⟨fun z => absurd z (by decide), fun _ => MR_goes hT (one_lt c0 hk (by omega)) h (fun σ' f1 g => b178_1 (h0 y y1 y2 σ' f1 g))⟩)))
/-- behind a fault nothing more is done -/
theorem w176B {K : Int → dS → Prop} {lo hi : Int} (h : σ 153 16 ≠ 0) (hq : K 0 σ) : wI (d + 3) 176 [.inr (.inr 153), .inl lo, .inl hi] σ Q K :=
  c176 (b176_0 (w173b h ⟨fun z => absurd rfl z, fun _ => hq⟩))
theorem w177B {K : Int → dS → Prop} (h : σ 153 16 ≠ 0) (hq : K 0 σ) : wI (d + 3) 177 [.inr (.inr 153)] σ Q K :=
  c177 (b177_0 (w173b h ⟨fun z => absurd rfl z, fun _ => hq⟩))
theorem w178B {K : Int → dS → Prop} (h : σ 153 16 ≠ 0) (hq : K 0 σ) : wI (d + 4) 178 [.inr (.inr 153)] σ Q K :=
  c178 (b178_0 (w177B h (w173b h ⟨fun _ => b178_1 hq, fun z => absurd rfl z⟩)))
theorem w174A {K : Int → dS → Prop} {x : Int} (hq : ∀ b, K b σ) : wI (d + 2) 174 [.inr (.inr 153), .inl x] σ Q K :=
  c174 (b174_0 ⟨fun _ => b174_1 (b174_2 ⟨Or.inl rfl, hq 0⟩), fun _ => ⟨fun _ => b174_1 (b174_2 ⟨Or.inl rfl, hq 0⟩), fun _ => b174_2 ⟨Or.inr rfl, hq 1⟩⟩⟩)
theorem w175B {K : dS → Prop} {x : Int} (h : σ 153 16 ≠ 0) (hq : K σ) : wV (d + 3) 175 [.inr (.inr 153), .inl x] σ Q K :=
  c175 (b175_0 (w173b h ⟨fun z => absurd rfl z, fun _ => hq⟩))
theorem b193_bad {f p : Int} (hf : f ≠ 0) (h : MF S f p σ) (hq : Q (.inl none) σ) : B193_13 (d + 2) Q σ :=
  b193_13 (w174A (fun b => w175B (by rw [h.2.1]; exact hf) hq))
theorem b193_end (hT : TM c q v N Mk) (c0 : c N = 0) (hk : k ≤ N) (h : MR Mk S k D dt rs σ) (h1 : c k = 59 → ∀ σ', MR Mk S (k + 1) D dt rs σ' → Q (.inl none) σ') (h0 : c k ≠ 59 → ∀ σ', MF S 1 (q k) σ' → Q (.inl none) σ') : B193_13 (d + 6) Q σ := by
  have hM := hT.1 k σ hk h.2.1
  refine b193_13 (w174 hM (by decide) (by decide) (fun z => c175 (b175_0 (w173g h.2.2.1.1 ⟨fun _ => b175_1 ⟨fun y => absurd y (by decide), fun _ => MR_goes hT (one_lt c0 hk (by omega)) h (fun σ' _ g => b175_3 (h1 z σ' g))⟩, fun y => absurd (by decide) y⟩))) (fun z => c175 (b175_0 (w173g h.2.2.1.1 ⟨fun _ => b175_1 ⟨fun _ => b175_2 (w172M hT hk h (fun σ' g => b175_3 (h0 z σ' g))), fun y => absurd rfl y⟩, fun y => absurd (by decide) y⟩))))
end ML
