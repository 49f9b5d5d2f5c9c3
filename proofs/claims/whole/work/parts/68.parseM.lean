/-! THE REFERENCE READS a rule -/
/-- which known word a code is -/
def ix (x : Int) : Int := if x = 129 then 10 else if x = 130 then 11 else if 131 ≤ x ∧ x ≤ 133 then x - 124 else if x = 134 then 12 else if x = 135 then 13 else if x = 136 then 14 else if x = 137 then 16 else if x = 138 then 15 else if x = 139 then 17 else if 140 ≤ x ∧ x ≤ 146 then x - 140 else -1
/-- what the reference knows of its present token -/
def MP (c q v : Nat → Int) (k : Nat) (σ : dS) : Prop := σ 153 22 = q k ∧ (σ 153 21 = 0 ↔ c k = 0) ∧ (σ 153 21 = 2 ↔ c k = 1) ∧ (σ 153 21 = 1 ↔ 128 ≤ c k) ∧ (c k = 1 → (σ 153 23 ≤ 4 ↔ v k ≤ 9999) ∧ (v k ≤ 9999 → σ 153 24 = v k)) ∧ (∀ x, 40 ≤ x → x ≤ 61 → ((σ 153 21 = 3 ∧ σ 153 25 = x) ↔ c k = x))
abbrev tkf (j : Int) : Prop := (20 ≤ j ∧ j ≤ 26) ∨ j = 1026
def TM (c q v : Nat → Int) (N : Nat) (Mk : Nat → dS → Prop) : Prop :=
  (∀ k σ, k ≤ N → Mk k σ → MP c q v k σ) ∧
  (∀ k σ σ', Mk k σ → σ' 161 = σ 161 → (∀ j, tkf j ∨ j = 19 ∨ j = 17 → σ' 153 j = σ 153 j) → Mk k σ') ∧
  (∀ (d : Nat) (Q : dR → dS → Prop) (K : dS → Prop) (σ : dS) (k : Nat), k < N → Mk k σ → (∀ σ', (∀ x, x ≠ 153 → σ' x = σ x) → (∀ j, ¬ tkf j → σ' 153 j = σ 153 j) → Mk (k + 1) σ' → K σ') → wV (d + 5) 168 [.inr (.inr 153)] σ Q K) ∧
  (∀ (d : Nat) (Q : dR → dS → Prop) (K : Int → dS → Prop) (σ : dS) (k : Nat), k ≤ N → Mk k σ → K (ix (c k)) σ → wI (d + 5) 171 [.inr (.inr 153)] σ Q K)
def ac (x : Int) : Int := if x = 139 then 3 else if x = 40 then 14 else en x
def wk (x : Int) : Prop := x = 137 ∨ x = 138 ∨ x = 139 ∨ x = 60 ∨ x = 61 ∨ x = 43 ∨ x = 45 ∨ x = 42 ∨ x = 47 ∨ x = 40
def ecs : List Int → List Int
  | [] => []
  | s :: cs => enc s ++ ecs cs
theorem ecs_app : ∀ (a b : List Int), ecs (a ++ b) = ecs a ++ ecs b
  | [], _ => rfl
  | s :: a, b => by
    show enc s ++ ecs (a ++ b) = enc s ++ ecs a ++ ecs b
    rw [ecs_app a b, List.append_assoc]
theorem flt_ecs : ∀ (a : List Int), flt a = ecs a ++ [0]
  | [] => rfl
  | s :: a => by
    show enc s ++ flt a = enc s ++ ecs a ++ [0]
    rw [flt_ecs a, List.append_assoc]
def tsk (σ : dS) : List Bool → Prop
  | [] => True
  | b :: T => σ 173 ((T.length : Int) + 1) = (if b = true then 1 else 0) ∧ tsk σ T
theorem tsk_k {σ σ' : dS} (h : σ' 173 = σ 173) : ∀ {T : List Bool}, tsk σ T → tsk σ' T
  | [], _ => trivial
  | _ :: _, hT => ⟨by rw [h]; exact hT.1, tsk_k h hT.2⟩
theorem tsk_up {σ : dS} {i v : Int} : ∀ {T : List Bool}, (T.length : Int) < i → tsk σ T → tsk (up σ 173 i v) T
  | [], _, _ => trivial
  | _ :: _, hi, hT => by
    simp only [List.length_cons] at hi
    exact ⟨by rw [up_i (by omega)]; exact hT.1, tsk_up (by omega) hT.2⟩
theorem stk_k {σ σ' : dS} {y : Nat} (h : σ' y = σ y) : ∀ {st : List Int}, stk σ y st → stk σ' y st
  | [], _ => trivial
  | _ :: _, hT => ⟨by rw [h]; exact hT.1, stk_k h hT.2⟩
def mfr (S σ : dS) : Prop := (∀ x, x ≠ 153 → x ≠ 171 → x ≠ 172 → x ≠ 173 → σ x = S x) ∧ (∀ j, j < 16 ∨ (18 ≤ j ∧ j ≤ 19) ∨ (27 ≤ j ∧ j ≤ 32) ∨ (36 ≤ j ∧ j ≠ 1026) → σ 153 j = S 153 j)
def RS (Mk : Nat → dS → Prop) (S : dS) (N : Nat) (pre o0 : List Int) (k : Nat) (W : List Int) (T : List Bool) (o : List Int) (σ : dS) : Prop :=
  mfr S σ ∧ Mk k σ ∧ σ 153 16 = 0 ∧ (σ 153 34 = (W.length : Int) ∧ stk σ 172 (W.map ac)) ∧ (σ 153 35 = (T.length : Int) ∧ tsk σ T) ∧ (∃ cs, o = o0 ++ cs ∧ σ 153 33 = ((pre ++ ecs cs).length : Int) ∧ seg σ 171 0 (pre ++ ecs cs)) ∧ k ≤ N ∧ W.length ≤ k ∧ σ 153 33 + (W.length : Int) ≤ 2 * k + 8 ∧ T.length ≤ 6 ∧ T.length = 1 + W.count 40 ∧ ∀ x ∈ W, wk x
/-- a fault is told -/
def FB (S : dS) (f p : Int) (σ : dS) : Prop := mfr S σ ∧ σ 153 16 = f ∧ σ 153 17 = p ∧ (0 ≤ σ 153 34 ∧ σ 153 34 ≤ 900) ∧ 0 ≤ σ 153 33 ∧ σ 153 33 + σ 153 34 ≤ 2790
section PM
variable {c q v : Nat → Int} {N : Nat} {Mk : Nat → dS → Prop} {S : dS} {pre o0 : List Int} {d : Nat} {Q : dR → dS → Prop} {σ : dS} {k : Nat} {W : List Int} {T : List Bool} {o : List Int}
theorem w173g {K : Int → dS → Prop} (h : σ 153 16 = 0) (hq : K 1 σ) : wI (d + 2) 173 [.inr (.inr 153)] σ Q K :=
  c173 (b173_0 ⟨fun z => absurd h z, fun _ => b173_2 ⟨Or.inr rfl, hq⟩⟩)
theorem w173b {K : Int → dS → Prop} (h : σ 153 16 ≠ 0) (hq : K 0 σ) : wI (d + 2) 173 [.inr (.inr 153)] σ Q K :=
  c173 (b173_0 ⟨fun _ => b173_1 (b173_2 ⟨Or.inl rfl, hq⟩), fun z => absurd h z⟩)
theorem w174 {K : Int → dS → Prop} {x : Int} (hM : MP c q v k σ) (x0 : 40 ≤ x) (x1 : x ≤ 61) (h1 : c k = x → K 1 σ) (h0 : c k ≠ x → K 0 σ) : wI (d + 2) 174 [.inr (.inr 153), .inl x] σ Q K := by
  have hs := hM.2.2.2.2.2 x x0 x1
  refine c174 (b174_0 ⟨fun z => b174_1 (b174_2 ⟨Or.inl rfl, h0 (fun y => z (hs.mpr y).1)⟩), fun z => ⟨fun y => b174_1 (b174_2 ⟨Or.inl rfl, h0 (fun u => y (hs.mpr u).2)⟩), fun y => b174_2 ⟨Or.inr rfl, h1 (hs.mp ⟨by omega, by omega⟩)⟩⟩⟩)
theorem w172 {K : dS → Prop} {f : Int} (h0 : σ 153 16 = 0) (h : K (up (up σ 153 16 f) 153 17 (σ 153 22))) : wV (d + 2) 172 [.inr (.inr 153), .inl f] σ Q K := by
  refine c172 (b172_0 ⟨fun _ => b172_1 fun σ1 e1 σ2 e2 => ?_, fun z => absurd h0 z⟩)
  rw [e1, up_i (by decide)] at e2
  rw [e2]
  exact h
theorem mfr_j {j : Int} {x : Int} (hj : 16 ≤ j ∧ j ≤ 17 ∨ 20 ≤ j ∧ j ≤ 26 ∨ 33 ≤ j ∧ j ≤ 35) (h : mfr S σ) : mfr S (up σ 153 j x) :=
  ⟨fun y a1 a2 a3 a4 => by rw [up_k a1]; exact h.1 y a1 a2 a3 a4, fun i hi => by rw [up_i (by omega)]; exact h.2 i hi⟩
theorem mfr_c {y : Nat} {i x : Int} (hy : y = 171 ∨ y = 172 ∨ y = 173) (h : mfr S σ) : mfr S (up σ y i x) :=
  ⟨fun z a1 a2 a3 a4 => by rw [up_k (by rcases hy with e | e | e <;> rw [e] <;> assumption)]; exact h.1 z a1 a2 a3 a4, fun j hj => by rw [up_k (by omega)]; exact h.2 j hj⟩
theorem RS_bad {f : Int} (hT : TM c q v N Mk) (hN : N ≤ 700) (h : RS Mk S N pre o0 k W T o σ) : FB S f (q k) (up (up σ 153 16 f) 153 17 (σ 153 22)) := by
  obtain ⟨a1, a2, a3, a4, a5, a6, a7, a8, a9, a10, a11, a12⟩ := h
  obtain ⟨cs, b1, b2, b3⟩ := a6
  refine ⟨mfr_j (by omega) (mfr_j (by omega) a1), by rw [up_i (by decide), up_same], by rw [up_same]; exact (hT.1 k σ a7 a2).1, ?_, ?_, ?_⟩
  · rw [up_i (by decide), up_i (by decide), a4.1]; omega
  · rw [up_i (by decide), up_i (by decide)]; omega
  · rw [up_i (by decide), up_i (by decide), up_i (by decide), up_i (by decide), a4.1]; omega
/-- one more step of code -/
theorem w179 {K : dS → Prop} {x : Int} (h0 : 0 ≤ σ 153 33) (h1 : σ 153 33 < 2800) (h : K (up (up σ 171 (σ 153 33) x) 153 33 (σ 153 33 + 1))) : wV (d + 2) 179 [.inr (.inr 153), .inl x] σ Q K := by
  refine c179 (b179_0 ⟨h0, h1, fun σ1 e1 σ2 e2 => ?_⟩)
  rw [e1, up_k (k' := 153) (by decide), wr_id (by omega) (by omega)] at e2
  rw [e2]
  exact h
theorem w183 {K : dS → Prop} {x : Int} (h0 : 0 ≤ σ 153 34) (h1 : σ 153 34 < 950) (h : K (up (up σ 172 (σ 153 34) x) 153 34 (σ 153 34 + 1))) : wV (d + 2) 183 [.inr (.inr 153), .inl x] σ Q K := by
  refine c183 (b183_0 ⟨h0, h1, fun σ1 e1 σ2 e2 => ?_⟩)
  rw [e1, up_k (k' := 153) (by decide), wr_id (by omega) (by omega)] at e2
  rw [e2]
  exact h
theorem w180 {K : Int → dS → Prop} {x : Int} (h1 : 14 ≤ x → K 1 σ) (h0 : x < 14 → K 0 σ) : wI (d + 2) 180 [.inl x] σ Q K :=
  c180 (b180_0 ⟨fun z => b180_1 (b180_2 ⟨Or.inl rfl, h0 z⟩), fun z => b180_2 ⟨Or.inr rfl, h1 (by omega)⟩⟩)
def sth (x : Int) : Int := if x = 5 then 1 else if x = 4 then 2 else if x = 3 then 3 else if x = 6 ∨ x = 7 then 4 else if x = 8 ∨ x = 9 then 5 else 6
theorem w181 {K : Int → dS → Prop} {x : Int} (h : K (sth x) σ) : wI (d + 2) 181 [.inl x] σ Q K := by
  unfold sth at h
  refine c181 (b181_0 ⟨fun z1 => b181_1 ⟨fun z2 => b181_2 ⟨fun z3 => b181_3 ⟨fun z4 => b181_4 (b181_8 ?_), fun z4 => ⟨fun z5 => b181_5 ⟨fun z6 => b181_6 (b181_8 ?_), fun z6 => ⟨fun z7 => b181_7 (b181_8 ?_), fun z7 => b181_6 (b181_8 ?_)⟩⟩, fun z5 => b181_4 (b181_8 ?_)⟩⟩, fun z3 => b181_8 ?_⟩, fun z2 => b181_8 ?_⟩, fun z1 => b181_8 ?_⟩)
  · rw [if_neg z1, if_neg z2, if_neg z3, if_pos (Or.inl z4)] at h; exact h
  · rw [if_neg z1, if_neg z2, if_neg z3, if_neg (by omega), if_pos (Or.inl z6)] at h; exact h
  · rw [if_neg z1, if_neg z2, if_neg z3, if_neg (by omega), if_neg (by omega)] at h; exact h
  · rw [if_neg z1, if_neg z2, if_neg z3, if_neg (by omega), if_pos (Or.inr (by omega))] at h; exact h
  · rw [if_neg z1, if_neg z2, if_neg z3, if_pos (Or.inr (by omega))] at h; exact h
  · rw [if_neg z1, if_neg z2, if_pos (by omega)] at h; exact h
  · rw [if_neg z1, if_pos (by omega)] at h; exact h
  · rw [if_pos (by omega)] at h; exact h
theorem ac_wk {x : Int} (h : wk x) : (14 ≤ ac x ↔ x = 40) ∧ (x ≠ 40 → sth (ac x) = (stg x : Int) ∧ enc (-x) = [ac x]) := by
  unfold wk at h
  rcases h with h | h | h | h | h | h | h | h | h | h <;> subst h <;> decide
/-- the signs that give way -/
theorem RS_pop {x : Int} {σ3 : dS} (hN : N ≤ 700) (hx : x ≠ 40) (h : RS Mk S N pre o0 k (x :: W) T o σ) (hT : TM c q v N Mk) (e3 : σ3 = up σ 153 34 (W.length : Int)) : RS Mk S N pre o0 k W T (o ++ [-x]) (up (up σ3 171 (σ3 153 33) (ac x)) 153 33 (σ3 153 33 + 1)) := by
  obtain ⟨a1, a2, a3, a4, a5, a6, a7, a8, a9, a10, a11, a12⟩ := h
  obtain ⟨cs, b1, b2, b3⟩ := a6
  simp only [List.length_cons] at a4 a8 a9
  have hw := ac_wk (a12 x (List.mem_cons_self ..))
  have he := (hw.2 hx).2
  have f33 : σ3 153 33 = σ 153 33 := by rw [e3, up_i (by decide)]
  rw [f33]
  have l1 : pre ++ ecs (cs ++ [-x]) = (pre ++ ecs cs) ++ [ac x] := by
    rw [ecs_app, show ecs [-x] = enc (-x) ++ [] from rfl, he, List.append_nil, List.append_assoc]
  have g : ∀ j, j ≠ 33 → j ≠ 34 → (up (up σ3 171 (σ 153 33) (ac x)) 153 33 (σ 153 33 + 1)) 153 j = σ 153 j := fun j h1 h2 => by rw [up_i h1, up_k (by decide), e3, up_i h2]
  have gk : ∀ y, y ≠ 153 → y ≠ 171 → (up (up σ3 171 (σ 153 33) (ac x)) 153 33 (σ 153 33 + 1)) y = σ y := fun y h1 h2 => by rw [up_k h1, up_k h2, e3, up_k h1]
  refine ⟨mfr_j (by omega) (mfr_c (by omega) (by rw [e3]; exact mfr_j (by omega) a1)), hT.2.1 k σ _ a2 (gk 161 (by decide) (by decide)) (fun j hj => g j (by omega) (by omega)), by rw [g 16 (by decide) (by decide)]; exact a3, ⟨by rw [up_i (by decide), up_k (by decide), e3, up_same], stk_k (gk 172 (by decide) (by decide)) a4.2.2⟩, ⟨by rw [g 35 (by decide) (by decide)]; exact a5.1, tsk_k (gk 173 (by decide) (by decide)) a5.2⟩, ⟨cs ++ [-x], by rw [b1, List.append_assoc], ?_, ?_⟩, a7, by omega, ?_, a10, ?_, fun y hy => a12 y (List.mem_cons_of_mem _ hy)⟩
  · rw [up_same, l1, List.length_append, b2]; rfl
  · rw [l1]
    refine seg_k (σ := up σ3 171 (σ 153 33) (ac x)) (up_k (by decide)) ?_
    rw [seg_app]
    refine ⟨seg_up (seg_k (by rw [e3, up_k (by decide)]) b3) (by omega), ?_, trivial⟩
    rw [Int.zero_add, b2, up_same]
  · rw [up_same]; omega
  · rw [a11, List.count_cons, if_neg (by simpa using hx)]; rfl
theorem l182 {l : Nat} (hN : N ≤ 700) (hT : TM c q v N Mk) : ∀ (W o : List Int) (σ : dS), RS Mk S N pre o0 k W T o σ → (∀ σ', RS Mk S N pre o0 k (gdr l W o).1 T (gdr l W o).2 σ' → Q (.inl none) σ') → B182_0 (d + 1) Q (l : Int) σ
  | [], o, σ, h, hq => b182_0 ⟨fun _ => b182_1 (hq σ h), fun z => absurd (by rw [h.2.2.2.1.1]; exact Int.le_refl 0) z⟩
  | x :: W, o, σ, h, hq => by
    have h' := h
    obtain ⟨a1, a2, a3, a4, a5, a6, a7, a8, a9, a10, a11, a12⟩ := h'
    obtain ⟨cs, b1, b2, b3⟩ := a6
    have a41 := a4.1
    simp only [List.length_cons] at a41 a8
    have ew : wr (σ 153 34 - 1) = (W.length : Int) := by rw [wr_id (by omega) (by omega)]; omega
    have et : σ 172 (W.length : Int) = ac x := by
      have := a4.2.1
      rw [List.length_map] at this
      exact this
    have hw := ac_wk (a12 x (List.mem_cons_self ..))
    have stop : x = 40 ∨ stg x < l → B182_1 (d + 1) Q σ := by
      intro z
      refine b182_1 (hq σ ?_)
      have e : gdr l (x :: W) o = (x :: W, o) := if_pos z
      rw [e]; exact h
    refine b182_0 ⟨fun z => absurd z (by omega), fun _ => ?_⟩
    rw [ew]
    refine ⟨by omega, by omega, ?_⟩
    rw [et]
    refine w180 (fun z => ⟨fun _ => stop (Or.inl (hw.1.mp z)), fun y => absurd (by decide) y⟩) (fun z => ⟨fun y => absurd rfl y, fun _ => ⟨by omega, by omega, ?_⟩⟩)
    have hx : x ≠ 40 := fun y => by have := hw.1.mpr y; omega
    refine w181 ?_
    rw [ew, et, (hw.2 hx).1]
    refine ⟨fun y => stop (Or.inr (by omega)), fun y σ3 e3 => ?_⟩
    have e34 : σ3 153 34 = (W.length : Int) := by rw [e3, up_same]
    rw [e34]
    have f33 : σ3 153 33 = σ 153 33 := by rw [e3, up_i (by decide)]
    refine ⟨by omega, by omega, ?_⟩
    rw [show σ3 172 (W.length : Int) = ac x by rw [e3, up_k (by decide)]; exact et]
    refine w179 (by omega) (by omega) ?_
    have e : gdr l (x :: W) o = gdr l W (o ++ [-x]) := if_neg (by omega)
    rw [e] at hq
    exact l182 hN hT W _ _ (RS_pop hN hx h hT e3) hq
theorem w182 {K : dS → Prop} {l : Nat} {y : Int} (hN : N ≤ 700) (hT : TM c q v N Mk) (hy : y = (l : Int)) (h : RS Mk S N pre o0 k W T o σ) (hq : ∀ σ', RS Mk S N pre o0 k (gdr l W o).1 T (gdr l W o).2 σ' → K σ') : wV (d + 3) 182 [.inr (.inr 153), .inl y] σ Q K := by
  rw [hy]
  exact c182 (l182 hN hT W o σ h hq)
/-- what still waits behind a fault -/
theorem l182B {f p l : Int} : ∀ (n : Nat) (σ : dS), σ 153 34 = (n : Int) → FB S f p σ → (∀ σ', FB S f p σ' → Q (.inl none) σ') → B182_0 (d + 1) Q l σ
  | 0, σ, e, h, hq => b182_0 ⟨fun _ => b182_1 (hq σ h), fun z => absurd (by rw [e]; exact Int.le_refl 0) z⟩
  | n + 1, σ, e, h, hq => by
    have h' := h
    obtain ⟨a1, a2, a3, a4, a5, a6⟩ := h'
    have ew : wr (σ 153 34 - 1) = (n : Int) := by rw [wr_id (by omega) (by omega)]; omega
    refine b182_0 ⟨fun z => absurd z (by omega), fun _ => ?_⟩
    rw [ew]
    refine ⟨by omega, by omega, w180 (fun z => ⟨fun _ => b182_1 (hq σ h), fun y => absurd (by decide) y⟩) (fun z => ⟨fun y => absurd rfl y, fun _ => ⟨by omega, by omega, w181 ⟨fun _ => b182_1 (hq σ h), fun _ σ3 e3 => ?_⟩⟩⟩)⟩
    have e34 : σ3 153 34 = (n : Int) := by rw [e3, up_same]; exact ew
    have f33 : σ3 153 33 = σ 153 33 := by rw [e3, up_i (by decide)]
    refine ⟨by omega, by omega, w179 (by omega) (by omega) ?_⟩
    have g : ∀ x, ∀ j, j ≠ 33 → j ≠ 34 → (up (up σ3 171 (σ3 153 33) x) 153 33 (σ3 153 33 + 1)) 153 j = σ 153 j := fun x j h1 h2 => by rw [up_i h1, up_k (by decide), e3, up_i h2]
    refine l182B n _ (by rw [up_i (by decide), up_k (by decide)]; exact e34) ⟨mfr_j (by omega) (mfr_c (by omega) (by rw [e3]; exact mfr_j (by omega) a1)), by rw [g _ 16 (by decide) (by decide)]; exact a2, by rw [g _ 17 (by decide) (by decide)]; exact a3, ?_, ?_, ?_⟩ hq
    · rw [up_i (by decide), up_k (by decide)]; omega
    · rw [up_same]; omega
    · rw [up_same, up_i (by decide), up_k (by decide)]; omega
theorem w182B {K : dS → Prop} {f p l : Int} (h : FB S f p σ) (hq : ∀ σ', FB S f p σ' → K σ') : wV (d + 3) 182 [.inr (.inr 153), .inl l] σ Q K := by
  have := h.2.2.2.1
  exact c182 (l182B (σ 153 34).toNat σ (by omega) h hq)
end PM
