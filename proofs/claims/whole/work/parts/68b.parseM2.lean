/-! THE REFERENCE READS a rule: operands -/
theorem ix_not {x : Int} : ix x = 17 ↔ x = 139 := by
  unfold ix
  constructor
  · intro h
    by_cases h1 : x = 129
    · rw [if_pos h1] at h; omega
    by_cases h2 : x = 130
    · rw [if_neg h1, if_pos h2] at h; omega
    by_cases h3 : 131 ≤ x ∧ x ≤ 133
    · rw [if_neg h1, if_neg h2, if_pos h3] at h; omega
    by_cases h4 : x = 134
    · rw [if_neg h1, if_neg h2, if_neg h3, if_pos h4] at h; omega
    by_cases h5 : x = 135
    · rw [if_neg h1, if_neg h2, if_neg h3, if_neg h4, if_pos h5] at h; omega
    by_cases h6 : x = 136
    · rw [if_neg h1, if_neg h2, if_neg h3, if_neg h4, if_neg h5, if_pos h6] at h; omega
    by_cases h7 : x = 137
    · rw [if_neg h1, if_neg h2, if_neg h3, if_neg h4, if_neg h5, if_neg h6, if_pos h7] at h; omega
    by_cases h8 : x = 138
    · rw [if_neg h1, if_neg h2, if_neg h3, if_neg h4, if_neg h5, if_neg h6, if_neg h7, if_pos h8] at h; omega
    by_cases h9 : x = 139
    · exact h9
    by_cases h10 : 140 ≤ x ∧ x ≤ 146
    · rw [if_neg h1, if_neg h2, if_neg h3, if_neg h4, if_neg h5, if_neg h6, if_neg h7, if_neg h8, if_neg h9, if_pos h10] at h; omega
    · rw [if_neg h1, if_neg h2, if_neg h3, if_neg h4, if_neg h5, if_neg h6, if_neg h7, if_neg h8, if_neg h9, if_neg h10] at h; omega
  · intro h; subst h; decide
theorem ix_val {x : Int} (h : 140 ≤ x ∧ x ≤ 146) : ix x = x - 140 := by
  have : x = 140 ∨ x = 141 ∨ x = 142 ∨ x = 143 ∨ x = 144 ∨ x = 145 ∨ x = 146 := by omega
  rcases this with h | h | h | h | h | h | h <;> subst h <;> decide
theorem ix_no {x : Int} (h : x < 140 ∨ 146 < x) : ix x < 0 ∨ 6 < ix x := by
  unfold ix
  by_cases h1 : x = 129
  · rw [if_pos h1]; omega
  by_cases h2 : x = 130
  · rw [if_neg h1, if_pos h2]; omega
  by_cases h3 : 131 ≤ x ∧ x ≤ 133
  · rw [if_neg h1, if_neg h2, if_pos h3]; omega
  by_cases h4 : x = 134
  · rw [if_neg h1, if_neg h2, if_neg h3, if_pos h4]; omega
  by_cases h5 : x = 135
  · rw [if_neg h1, if_neg h2, if_neg h3, if_neg h4, if_pos h5]; omega
  by_cases h6 : x = 136
  · rw [if_neg h1, if_neg h2, if_neg h3, if_neg h4, if_neg h5, if_pos h6]; omega
  by_cases h7 : x = 137
  · rw [if_neg h1, if_neg h2, if_neg h3, if_neg h4, if_neg h5, if_neg h6, if_pos h7]; omega
  by_cases h8 : x = 138
  · rw [if_neg h1, if_neg h2, if_neg h3, if_neg h4, if_neg h5, if_neg h6, if_neg h7, if_pos h8]; omega
  by_cases h9 : x = 139
  · rw [if_neg h1, if_neg h2, if_neg h3, if_neg h4, if_neg h5, if_neg h6, if_neg h7, if_neg h8, if_pos h9]; omega
  · rw [if_neg h1, if_neg h2, if_neg h3, if_neg h4, if_neg h5, if_neg h6, if_neg h7, if_neg h8, if_neg h9, if_neg (by omega)]; omega
/-- the state without its bounds -/
def RCo (Mk : Nat → dS → Prop) (S : dS) (pre o0 : List Int) (k : Nat) (W : List Int) (T : List Bool) (o : List Int) (t : Int) (σ : dS) : Prop :=
  mfr S σ ∧ Mk k σ ∧ σ 153 16 = 0 ∧ (σ 153 34 = (W.length : Int) ∧ stk σ 172 (W.map ac)) ∧ (σ 153 35 = (T.length : Int) ∧ tsk σ T) ∧ (∃ cs, o = o0 ++ cs ∧ σ 153 33 = ((pre ++ ecs cs).length : Int) ∧ seg σ 171 0 (pre ++ ecs cs)) ∧ σ 153 33 = t ∧ ∀ x ∈ W, wk x
section PN
variable {c q v : Nat → Int} {N : Nat} {Mk : Nat → dS → Prop} {S : dS} {pre o0 : List Int} {d : Nat} {Q : dR → dS → Prop} {σ : dS} {k : Nat} {W : List Int} {T : List Bool} {o : List Int} {t : Int}
theorem RCo_of (h : RS Mk S N pre o0 k W T o σ) : RCo Mk S pre o0 k W T o (σ 153 33) σ ∧ k ≤ N ∧ W.length ≤ k ∧ σ 153 33 + (W.length : Int) ≤ 2 * k + 8 ∧ T.length ≤ 6 ∧ T.length = 1 + W.count 40 ∧ 0 ≤ σ 153 33 := by
  obtain ⟨a1, a2, a3, a4, a5, a6, a7, a8, a9, a10, a11, a12⟩ := h
  refine ⟨⟨a1, a2, a3, a4, a5, a6, rfl, a12⟩, a7, a8, a9, a10, a11, ?_⟩
  obtain ⟨cs, b1, b2, b3⟩ := a6
  omega
theorem RS_of (h : RCo Mk S pre o0 k W T o t σ) (h1 : k ≤ N) (h2 : W.length ≤ k) (h3 : t + (W.length : Int) ≤ 2 * k + 8) (h4 : T.length ≤ 6) (h5 : T.length = 1 + W.count 40) : RS Mk S N pre o0 k W T o σ := by
  obtain ⟨a1, a2, a3, a4, a5, a6, a7, a8⟩ := h
  exact ⟨a1, a2, a3, a4, a5, a6, h1, h2, by rw [a7]; exact h3, h4, h5, a8⟩
theorem RC_push {x : Int} (hT : TM c q v N Mk) (hx : wk x) (h : RCo Mk S pre o0 k W T o t σ) : RCo Mk S pre o0 k (x :: W) T o t (up (up σ 172 (σ 153 34) (ac x)) 153 34 (σ 153 34 + 1)) := by
  obtain ⟨a1, a2, a3, a4, a5, a6, a7, a8⟩ := h
  have g : ∀ j, j ≠ 34 → (up (up σ 172 (σ 153 34) (ac x)) 153 34 (σ 153 34 + 1)) 153 j = σ 153 j := fun j h1 => by rw [up_i h1, up_k (by decide)]
  have gk : ∀ y, y ≠ 153 → y ≠ 172 → (up (up σ 172 (σ 153 34) (ac x)) 153 34 (σ 153 34 + 1)) y = σ y := fun y h1 h2 => by rw [up_k h1, up_k h2]
  obtain ⟨cs, b1, b2, b3⟩ := a6
  refine ⟨mfr_j (by omega) (mfr_c (by omega) a1), hT.2.1 k σ _ a2 (gk 161 (by decide) (by decide)) (fun j hj => g j (by omega)), by rw [g 16 (by decide)]; exact a3, ⟨?_, ?_⟩, ⟨by rw [g 35 (by decide)]; exact a5.1, tsk_k (gk 173 (by decide) (by decide)) a5.2⟩, ⟨cs, b1, by rw [g 33 (by decide)]; exact b2, seg_k (gk 171 (by decide) (by decide)) b3⟩, by rw [g 33 (by decide)]; exact a7, fun y hy => ?_⟩
  · rw [up_same, a4.1]; simp only [List.length_cons]; omega
  · refine stk_k (σ := up σ 172 (σ 153 34) (ac x)) (up_k (by decide)) ?_
    refine ⟨by rw [a4.1, List.length_map, up_same], (stk_up (by rw [a4.1, List.length_map]; exact Int.le_refl _)).mpr a4.2⟩
  · rcases List.mem_cons.mp hy with z | z
    · rw [z]; exact hx
    · exact a8 y z
theorem RC_test {b b0 : Bool} {x : Int} (hT : TM c q v N Mk) (hx : x = if b = true then 1 else 0) (h : RCo Mk S pre o0 k W (b0 :: T) o t σ) : RCo Mk S pre o0 k W (b :: T) o t (up σ 173 (σ 153 35) x) := by
  obtain ⟨a1, a2, a3, a4, a5, a6, a7, a8⟩ := h
  have g : ∀ j, (up σ 173 (σ 153 35) x) 153 j = σ 153 j := fun j => by rw [up_k (by decide)]
  have gk : ∀ y, y ≠ 173 → (up σ 173 (σ 153 35) x) y = σ y := fun y h1 => by rw [up_k h1]
  have l1 := a5.1
  simp only [List.length_cons] at l1
  obtain ⟨cs, b1, b2, b3⟩ := a6
  refine ⟨mfr_c (by omega) a1, hT.2.1 k σ _ a2 (gk 161 (by decide)) (fun j hj => g j), by rw [g]; exact a3, ⟨by rw [g]; exact a4.1, stk_k (gk 172 (by decide)) a4.2⟩, ⟨by rw [g]; exact a5.1, ?_, tsk_up (by omega) a5.2.2⟩, ⟨cs, b1, by rw [g]; exact b2, seg_k (gk 171 (by decide)) b3⟩, by rw [g]; exact a7, a8⟩
  rw [show ((T.length : Int) + 1) = σ 153 35 by omega, up_same, hx]
theorem RC_deep {σ1 : dS} (hT : TM c q v N Mk) (h : RCo Mk S pre o0 k W T o t σ) (e1 : σ1 = up σ 153 35 ((T.length : Int) + 1)) : RCo Mk S pre o0 k W (false :: T) o t (up σ1 173 (σ1 153 35) 0) := by
  obtain ⟨a1, a2, a3, a4, a5, a6, a7, a8⟩ := h
  have e35 : σ1 153 35 = (T.length : Int) + 1 := by rw [e1, up_same]
  rw [e35]
  have g : ∀ j, j ≠ 35 → (up σ1 173 ((T.length : Int) + 1) 0) 153 j = σ 153 j := fun j hj => by rw [up_k (by decide), e1, up_i hj]
  have gk : ∀ y, y ≠ 153 → y ≠ 173 → (up σ1 173 ((T.length : Int) + 1) 0) y = σ y := fun y h1 h2 => by rw [up_k h2, e1, up_k h1]
  obtain ⟨cs, b1, b2, b3⟩ := a6
  refine ⟨mfr_c (by omega) (by rw [e1]; exact mfr_j (by omega) a1), hT.2.1 k σ _ a2 (gk 161 (by decide) (by decide)) (fun j hj => g j (by omega)), by rw [g 16 (by decide)]; exact a3, ⟨by rw [g 34 (by decide)]; exact a4.1, stk_k (gk 172 (by decide) (by decide)) a4.2⟩, ⟨?_, ?_, ?_⟩, ⟨cs, b1, by rw [g 33 (by decide)]; exact b2, seg_k (gk 171 (by decide) (by decide)) b3⟩, by rw [g 33 (by decide)]; exact a7, a8⟩
  · rw [up_k (by decide), e35]; simp only [List.length_cons]; omega
  · rw [up_same]; rfl
  · exact tsk_up (by omega) (tsk_k (by rw [e1, up_k (by decide)]) a5.2)
theorem RC_goes {K : dS → Prop} (hT : TM c q v N Mk) (hk : k < N) (h : RCo Mk S pre o0 k W T o t σ) (hq : ∀ σ', RCo Mk S pre o0 (k + 1) W T o t σ' → K σ') : wV (d + 5) 168 [.inr (.inr 153)] σ Q K := by
  obtain ⟨a1, a2, a3, a4, a5, a6, a7, a8⟩ := h
  refine hT.2.2.1 d Q K σ k hk a2 (fun σ' f1 f2 f3 => hq σ' ?_)
  obtain ⟨cs, b1, b2, b3⟩ := a6
  refine ⟨⟨fun x h1 h2 h3 h4 => by rw [f1 x h1]; exact a1.1 x h1 h2 h3 h4, fun j hj => by rw [f2 j (by omega)]; exact a1.2 j hj⟩, f3, by rw [f2 16 (by omega)]; exact a3, ⟨by rw [f2 34 (by omega)]; exact a4.1, stk_k (f1 172 (by decide)) a4.2⟩, ⟨by rw [f2 35 (by omega)]; exact a5.1, tsk_k (f1 173 (by decide)) a5.2⟩, ⟨cs, b1, by rw [f2 33 (by omega)]; exact b2, seg_k (f1 171 (by decide)) b3⟩, by rw [f2 33 (by omega)]; exact a7, a8⟩
/-- a part lays two steps -/
theorem RC_two {K : dS → Prop} {x y s : Int} (y' : dS → Int) (hy : ∀ σ1 : dS, (∀ j, j ≠ 33 → σ1 153 j = σ 153 j) → y' σ1 = y) (hT : TM c q v N Mk) (he : enc s = [x, y]) (ht0 : 0 ≤ t) (ht : t < 2700) (h : RCo Mk S pre o0 k W T o t σ) (hq : ∀ σ', RCo Mk S pre o0 k W T (o ++ [s]) (t + 2) σ' → K σ') : wV (d + 2) 179 [.inr (.inr 153), .inl x] σ Q (fun σ1 => wV (d + 2) 179 [.inr (.inr 153), .inl (y' σ1)] σ1 Q K) := by
  obtain ⟨a1, a2, a3, a4, a5, a6, a7, a8⟩ := h
  refine w179 (by omega) (by omega) ?_
  rw [hy _ (fun j hj => by rw [up_i hj, up_k (by decide)])]
  refine w179 (by rw [up_same]; omega) (by rw [up_same]; omega) (hq _ ?_)
  rw [up_same]
  obtain ⟨cs, b1, b2, b3⟩ := a6
  have l1 : pre ++ ecs (cs ++ [s]) = (pre ++ ecs cs) ++ [x, y] := by
    rw [ecs_app, show ecs [s] = enc s ++ [] from rfl, he, List.append_nil, List.append_assoc]
  have g : ∀ j, j ≠ 33 → (up (up (up (up σ 171 (σ 153 33) x) 153 33 (σ 153 33 + 1)) 171 (σ 153 33 + 1) y) 153 33 (σ 153 33 + 1 + 1)) 153 j = σ 153 j := fun j h1 => by rw [up_i h1, up_k (by decide), up_i h1, up_k (by decide)]
  have gk : ∀ z, z ≠ 153 → z ≠ 171 → (up (up (up (up σ 171 (σ 153 33) x) 153 33 (σ 153 33 + 1)) 171 (σ 153 33 + 1) y) 153 33 (σ 153 33 + 1 + 1)) z = σ z := fun z h1 h2 => by rw [up_k h1, up_k h2, up_k h1, up_k h2]
  refine ⟨mfr_j (by omega) (mfr_c (by omega) (mfr_j (by omega) (mfr_c (by omega) a1))), hT.2.1 k σ _ a2 (gk 161 (by decide) (by decide)) (fun j hj => g j (by omega)), by rw [g 16 (by decide)]; exact a3, ⟨by rw [g 34 (by decide)]; exact a4.1, stk_k (gk 172 (by decide) (by decide)) a4.2⟩, ⟨by rw [g 35 (by decide)]; exact a5.1, tsk_k (gk 173 (by decide) (by decide)) a5.2⟩, ⟨cs ++ [s], by rw [b1, List.append_assoc], ?_, ?_⟩, by rw [up_same]; omega, a8⟩
  · rw [up_same, l1, List.length_append, b2]
    simp only [List.length_cons, List.length_nil]; omega
  · rw [l1]
    refine seg_k (σ := up (up (up σ 171 (σ 153 33) x) 153 33 (σ 153 33 + 1)) 171 (σ 153 33 + 1) y) (up_k (by decide)) ?_
    rw [seg_app]
    refine ⟨seg_up (seg_k (σ := up σ 171 (σ 153 33) x) (up_k (by decide)) (seg_up b3 (by omega))) (by omega), ?_, ?_, trivial⟩
    · rw [Int.zero_add, up_i (by omega), up_k (by decide), b2, up_same]
    · rw [Int.zero_add, b2, up_same]
theorem w179F {K : dS → Prop} {f p m x : Int} (h : FB S f p σ) (hm : σ 153 33 + σ 153 34 ≤ m) (m1 : m < 2789) (hq : ∀ σ', FB S f p σ' → σ' 153 33 + σ' 153 34 ≤ m + 1 → K σ') : wV (d + 2) 179 [.inr (.inr 153), .inl x] σ Q K := by
  obtain ⟨a1, a2, a3, a4, a5, a6⟩ := h
  have g : ∀ j, j ≠ 33 → (up (up σ 171 (σ 153 33) x) 153 33 (σ 153 33 + 1)) 153 j = σ 153 j := fun j h1 => by rw [up_i h1, up_k (by decide)]
  refine w179 (by omega) (by omega) (hq _ ⟨mfr_j (by omega) (mfr_c (by omega) a1), by rw [g 16 (by decide)]; exact a2, by rw [g 17 (by decide)]; exact a3, by rw [g 34 (by decide)]; exact a4, by rw [up_same]; omega, by rw [up_same, g 34 (by decide)]; omega⟩ ?_)
  rw [up_same, g 34 (by decide)]; omega
theorem RS_bad2 {f : Int} (hN : N ≤ 700) (h : RS Mk S N pre o0 k W T o σ) : (up (up σ 153 16 f) 153 17 (σ 153 22)) 153 33 + (up (up σ 153 16 f) 153 17 (σ 153 22)) 153 34 ≤ 1500 := by
  obtain ⟨a1, a2, a3, a4, a5, a6, a7, a8, a9, a10, a11, a12⟩ := h
  rw [up_i (by decide), up_i (by decide), up_i (by decide), up_i (by decide), a4.1]; omega
theorem w184B {K : dS → Prop} (h : σ 153 16 ≠ 0) (hq : K σ) : wV (d + 3) 184 [.inr (.inr 153)] σ Q K :=
  c184 (b184_0 (w173b h ⟨fun z => absurd rfl z, fun _ => hq⟩))
theorem TMne (hT : TM c q v N Mk) (c0 : c N = 0) (hk : k ≤ N) (h : c k ≠ 0) : k < N := by
  rcases Nat.lt_or_ge k N with h' | h'
  · exact h'
  · have : k = N := by omega
    rw [this, c0] at h; omega
theorem w184 {K : dS → Prop} (hT : TM c q v N Mk) (c0 : c N = 0) (hN : N ≤ 700) (v0 : ∀ k, 0 ≤ v k) (hc : c k ≠ 40) (h : RS Mk S N pre o0 k W T o σ)
    (hn : c k = 1 → v k ≤ 9999 → ∀ σ', RS Mk S N pre o0 (k + 1) W T (o ++ [v k]) σ' → K σ')
    (hv : c k ≠ 1 → 128 ≤ c k → ¬ (c k < 140 ∨ 146 < c k) → ∀ σ', RS Mk S N pre o0 (k + 1) W T (o ++ [-(c k)]) σ' → K σ')
    (h2 : c k = 1 → ¬ v k ≤ 9999 → ∀ σ', FB S 2 (q k) σ' → K σ')
    (h1 : c k ≠ 1 → c k < 128 → ∀ σ', FB S 1 (q k) σ' → K σ')
    (h3 : c k ≠ 1 → ¬ c k < 128 → (c k < 140 ∨ 146 < c k) → ∀ σ', FB S 3 (q k) σ' → K σ') : wV (d + 6) 184 [.inr (.inr 153)] σ Q K := by
  obtain ⟨r1, r2, r3, r4, r5, r6, r7⟩ := RCo_of h
  obtain ⟨m1, m2, m3, m4, m5, m6⟩ := hT.1 k σ r2 r1.2.1
  have hg : σ 153 16 = 0 := r1.2.2.1
  refine c184 (b184_0 (w173g hg ⟨fun _ => b184_1 ⟨fun z => b184_3 ⟨fun y => b184_6 ?_, fun y => hT.2.2.2 _ _ _ σ k r2 r1.2.1 ?_⟩, fun z => ?_⟩, fun z => absurd (by decide) z⟩))
  · have n1 : c k ≠ 1 := fun u => z (m3.mpr u)
    have n2 : c k < 128 := by
      rcases Int.lt_or_le (c k) 128 with u | u
      · exact u
      · exact absurd (m4.mpr u) y
    exact w172 hg (b184_7 (w173b (by rw [up_i (by decide), up_same]; exact ne_1) ⟨fun _ => b184_8 (h1 n1 n2 _ (RS_bad hT hN h)), fun u => absurd rfl u⟩))
  · have n1 : c k ≠ 1 := fun u => z (m3.mpr u)
    have n2 : 128 ≤ c k := m4.mp (by omega)
    have bad : (c k < 140 ∨ 146 < c k) → ∀ Q', (∀ σ', K σ' → Q' (.inl none) σ') → B184_4 (d + 4) Q' (ix (c k)) σ := by
      intro u Q' hq'
      refine b184_4 (w172 hg (b184_5 ?_))
      refine w179F (RS_bad hT hN h) (RS_bad2 hN h) (by decide) (fun σ2 g2 l2 => w179F g2 l2 (by decide) (fun σ3 g3 l3 => b184_7 (w173b (by rw [g3.2.1]; exact ne_3) ⟨fun _ => b184_8 (hq' _ (h3 n1 (by omega) u σ3 g3)), fun u => absurd rfl u⟩)))
    by_cases u : c k < 140 ∨ 146 < c k
    · have iu := ix_no u
      exact ⟨fun _ => bad u _ (fun _ w => w), fun _ => ⟨fun _ => absurd iu (by omega), fun _ => bad u _ (fun _ w => w)⟩⟩
    · have iu := ix_val (x := c k) (by omega)
      have hlt := TMne hT c0 r2 (by omega)
      refine ⟨fun w => absurd w (by omega), fun _ => ⟨fun _ => b184_5 ?_, fun w => absurd (by omega) w⟩⟩
      rw [iu]
      have he : enc (-(c k)) = [2, c k - 140] := by
        unfold enc
        rw [if_neg (by omega), if_pos (by omega)]
        rw [show - -(c k) - 140 = c k - 140 by omega]
      exact RC_two (d := d + 3) (fun _ => c k - 140) (fun _ _ => rfl) hT he r7 (by omega) r1 (fun σ' g => b184_7 (w173g g.2.2.1 ⟨fun w => absurd w (by decide), fun _ => RC_goes hT hlt g (fun σ2 g2 => b184_8 (hv n1 n2 u σ2 (RS_of g2 (by omega) (by omega) (by omega) r5 r6)))⟩))
  · have n1 : c k = 1 := m3.mp (by omega)
    have hlt := TMne hT c0 r2 (by omega)
    obtain ⟨m7, m8⟩ := m5 n1
    refine ⟨fun y => b184_2 ?_, fun y => w172 hg (b184_2 ?_)⟩
    · have e24 := m8 (m7.mp y)
      have vv := v0 k
      have he : enc (v k) = [1, v k] := by
        unfold enc
        rw [if_pos vv]
      exact RC_two (d := d + 3) (fun σ1 => σ1 153 24) (fun σ1 hh => by rw [hh 24 (by decide)]; exact e24) hT he r7 (by omega) r1 (fun σ' g => b184_7 (w173g g.2.2.1 ⟨fun w => absurd w (by decide), fun _ => RC_goes hT hlt g (fun σ2 g2 => b184_8 (hn n1 (m7.mp y) σ2 (RS_of g2 (by omega) (by omega) (by omega) r5 r6)))⟩))
    · refine w179F (RS_bad hT hN h) (RS_bad2 hN h) (by decide) (fun σ2 g2 l2 => w179F g2 l2 (by decide) (fun σ3 g3 l3 => b184_7 (w173b (by rw [g3.2.1]; exact ne_2) ⟨fun _ => b184_8 (h2 n1 (fun u => y (m7.mpr u)) σ3 g3), fun u => absurd rfl u⟩)))
theorem wr_j {j : Nat} (h : j ≤ 6) : wr ((j : Int) + 1) = ((j + 1 : Nat) : Int) := by rw [wr_id (by omega) (by omega)]; omega
/-- the way of a fault through an operand -/
theorem b186B_5 {f p : Int} {may : Int} (hf : f ≠ 0) (h : FB S f p σ) (hq : ∀ σ', FB S f p σ' → Q (.inl none) σ') : B186_5 (d + 5) Q may σ :=
  b186_5 (w173b (by rw [h.2.1]; exact hf) ⟨fun _ => b186_6 (b186_7 ⟨fun _ => b186_8 (b186_1 ⟨fun _ => b186_9 (w184B (by rw [h.2.1]; exact hf) (hq σ h)), fun z => absurd rfl z⟩), fun z => absurd rfl z⟩), fun z => absurd rfl z⟩)
theorem w185 {K : dS → Prop} (hT : TM c q v N Mk) (hN : N ≤ 700) (hk : k ≤ N) (hW : W.length ≤ k) (ht0 : 0 ≤ t) (ht : t + (W.length : Int) ≤ 2 * k + 8) (h6 : T.length ≤ 6) (hc : T.length + 1 = 1 + W.count 40) (h : RCo Mk S pre o0 k W T o t σ)
    (h1 : T.length < 6 → ∀ σ', RS Mk S N pre o0 k W (false :: T) o σ' → K σ')
    (h0 : ¬ T.length < 6 → ∀ σ', FB S (if c k = 1 ∨ c k = 40 ∨ 128 ≤ c k then 2 else 1) (q k) σ' → K σ') : wV (d + 6) 185 [.inr (.inr 153)] σ Q K := by
  have h' := h
  obtain ⟨a1, a2, a3, a4, a5, a6, a7, a8⟩ := h'
  obtain ⟨m1, m2, m3, m4, m5, m6⟩ := hT.1 k σ hk a2
  have a51 := a5.1
  refine c185 (b185_0 ⟨fun z => b185_1 ?_, fun z σ1 e1 => ?_⟩)
  · have n6 : ¬ T.length < 6 := by omega
    have fin : ∀ f Q', f = (if c k = 1 ∨ c k = 40 ∨ 128 ≤ c k then (2 : Int) else 1) → (∀ σ', K σ' → Q' (.inl none) σ') → B185_4 (d + 4) Q' f σ := by
      intro f Q' ef hq'
      refine b185_4 (w172 a3 (hq' _ (h0 n6 _ ?_)))
      rw [← ef]
      obtain ⟨cs, b1, b2, b3⟩ := a6
      refine ⟨mfr_j (by omega) (mfr_j (by omega) a1), by rw [up_i (by decide), up_same], by rw [up_same]; exact m1, ?_, ?_, ?_⟩
      · rw [up_i (by decide), up_i (by decide), a4.1]; omega
      · rw [up_i (by decide), up_i (by decide)]; omega
      · rw [up_i (by decide), up_i (by decide), up_i (by decide), up_i (by decide), a4.1]; omega
    refine ⟨fun y => b185_2 (fin 2 _ ?_ (fun _ w => w)), fun y => ⟨fun x => b185_2 (fin 2 _ ?_ (fun _ w => w)), fun x => w174 (hT.1 k σ hk a2) (by decide) (by decide) (fun u => ⟨fun w => absurd w (by decide), fun _ => b185_2 (fin 2 _ ?_ (fun _ w => w))⟩) (fun u => ⟨fun _ => b185_3 (fin 1 _ ?_ (fun _ w => w)), fun w => absurd rfl w⟩)⟩⟩
    · rw [if_pos (Or.inl (m3.mp y))]
    · rw [if_pos (Or.inr (Or.inr (m4.mp x)))]
    · rw [if_pos (Or.inr (Or.inl u))]
    · rw [if_neg]
      rintro (w | w | w)
      · exact y (m3.mpr w)
      · exact u w
      · exact x (m4.mpr w)
  · rw [a51, wr_id (by omega) (by omega)] at e1
    have e35 : σ1 153 35 = (T.length : Int) + 1 := by rw [e1, up_same]
    refine ⟨by omega, by omega, Or.inl rfl, fun σ2 e2 => h1 (by omega) σ2 ?_⟩
    rw [e2]
    refine RS_of (RC_deep hT h e1) hk hW ht (by simp only [List.length_cons]; omega) (by simp only [List.length_cons]; omega)
theorem l186 {r : Int × Nat × List Int} (hT : TM c q v N Mk) (c0 : c N = 0) (hN : N ≤ 700) (v0 : ∀ k, 0 ≤ v k) (hr : r.1 ≠ 9) (n0 : Nat)
    (hq : ∀ n' k1 W1 T1 o1 σ1, n' < n0 → RS Mk S N pre o0 k1 W1 T1 o1 σ1 → mac c v n' none k1 W1 T1 o1 = r → Q (.inl none) σ1)
    (hb : ∀ σ1, FB S r.1 (q r.2.1) σ1 → r.1 ≠ 0 → Q (.inl none) σ1) : ∀ (n : Nat) (may : Bool) (j k : Nat) (W : List Int) (T : List Bool) (o : List Int) (σ : dS), n ≤ n0 → j ≤ 6 → RS Mk S N pre o0 k W T o σ → mac c v n (some (may, j)) k W T o = r → B186_2 (d + 5) Q (if may = true then 1 else 0) (j : Int) σ
  | 0, may, j, k, W, T, o, σ, hn, hj, h, hm => by
    rw [← hm] at hr
    exact absurd rfl hr
  | n + 1, may, j, k, W, T, o, σ, hn, hj, h, hm => by
    obtain ⟨r1, r2, r3, r4, r5, r6, r7⟩ := RCo_of h
    have hg : σ 153 16 = 0 := r1.2.2.1
    have hM := hT.1 k σ r2 r1.2.1
    have go5 : ¬ (may = true ∧ c k = 139) → B186_5 (d + 5) Q (if may = true then 1 else 0) σ := by
      intro hno
      rw [mac, if_neg hno] at hm
      refine b186_5 (w173g hg ⟨fun z => absurd z (by decide), fun _ => w174 hM (by decide) (by decide) (fun z => ⟨fun y => absurd y (by decide), fun _ => b186_7 ⟨fun y => absurd y (by decide), fun _ => ?_⟩⟩) (fun z => ⟨fun _ => b186_6 (b186_7 ⟨fun _ => b186_8 (b186_1 ⟨fun _ => b186_9 ?_, fun y => absurd rfl y⟩), fun y => absurd rfl y⟩), fun y => absurd rfl y⟩)⟩)
      · rw [if_pos z] at hm
        have hlt := TMne hT c0 r2 (by omega)
        have e34 := r1.2.2.2.1.1
        refine w183 (by omega) (by omega) ?_
        have p1 := RC_push (x := 40) hT (by unfold wk; omega) r1
        refine RC_goes hT hlt p1 (fun σ2 p2 => ?_)
        refine w185 hT hN (by omega) (by simp only [List.length_cons]; omega) r7 (by simp only [List.length_cons]; omega) r5 (by rw [List.count_cons, if_pos (by simp)]; omega) p2 (fun z6 σ3 p3 => ?_) (fun z6 σ3 p3 => ?_)
        · rw [if_pos z6] at hm
          refine b186_8 (b186_1 ⟨fun y => absurd y (by decide), fun _ => w173g p3.2.2.1 ⟨fun y => absurd y (by decide), fun _ => ?_⟩⟩)
          exact l186 hT c0 hN v0 hr n0 hq hb n true 0 (k + 1) (40 :: W) (false :: T) o σ3 (by omega) (by decide) p3 hm
        · rw [if_neg z6] at hm
          have e1 : r.1 = (if c (k + 1) = 1 ∨ c (k + 1) = 40 ∨ 128 ≤ c (k + 1) then 2 else 1) := by rw [← hm]
          have e2 : r.2.1 = k + 1 := by rw [← hm]
          rw [← e1, ← e2] at p3
          have ne : r.1 ≠ 0 := by
            rw [e1]
            by_cases u : c (k + 1) = 1 ∨ c (k + 1) = 40 ∨ 128 ≤ c (k + 1)
            · rw [if_pos u]; decide
            · rw [if_neg u]; decide
          exact b186_8 (b186_1 ⟨fun y => absurd y (by decide), fun _ => w173b (by rw [p3.2.1]; exact ne) ⟨fun _ => b186_9 (w184B (by rw [p3.2.1]; exact ne) (hb σ3 p3 ne)), fun y => absurd rfl y⟩⟩)
      · rw [if_neg z] at hm
        refine w184 hT c0 hN v0 z h (fun y1 y2 σ' g => ?_) (fun y1 y2 y3 σ' g => ?_) (fun y1 y2 σ' g => ?_) (fun y1 y2 σ' g => ?_) (fun y1 y2 y3 σ' g => ?_)
        · rw [if_pos y1, if_pos y2] at hm
          exact hq n _ _ _ _ σ' (by omega) g hm
        · rw [if_neg y1, if_neg (by omega), if_neg y3] at hm
          exact hq n _ _ _ _ σ' (by omega) g hm
        · rw [if_pos y1, if_neg y2] at hm
          rw [← hm] at hb
          exact hb σ' g ne_2
        · rw [if_neg y1, if_pos y2] at hm
          rw [← hm] at hb
          exact hb σ' g ne_1
        · rw [if_neg y1, if_neg y2, if_pos y3] at hm
          rw [← hm] at hb
          exact hb σ' g ne_3
    refine b186_2 (w173g hg ⟨fun z => absurd z (by decide), fun _ => ⟨fun z => ?_, fun z => hT.2.2.2 _ _ _ σ k r2 r1.2.1 ⟨fun y => go5 (fun u => y (ix_not.mpr u.2)), fun y => ⟨fun x => b186_3 ?_, fun x => w172 hg (b186_3 ?_)⟩⟩⟩⟩)
    · refine go5 (fun u => ?_)
      rw [if_pos u.1] at z
      exact absurd z (by decide)
    · have hc : c k = 139 := ix_not.mp (by omega)
      have hmay : may = true := by
        cases may with
        | true => rfl
        | false => exact absurd rfl z
      have hlt := TMne hT c0 r2 (by omega)
      rw [mac, if_pos ⟨hmay, hc⟩, if_neg (by omega)] at hm
      have e34 := r1.2.2.2.1.1
      refine w173g hg ⟨fun _ => b186_4 (w183 (by omega) (by omega) ?_), fun y => absurd (by decide) y⟩
      have p1 := RC_push (x := 139) hT (by unfold wk; omega) r1
      refine RC_goes hT hlt p1 (fun σ2 p2 => ?_)
      have p3 := RS_of (N := N) p2 (by omega) (by simp only [List.length_cons]; omega) (by simp only [List.length_cons]; omega) r5 (by rw [List.count_cons, if_neg (by decide)]; exact r6)
      have := l186 hT c0 hN v0 hr n0 hq hb n true (j + 1) (k + 1) (139 :: W) T o σ2 (by omega) (by omega) p3 hm
      rw [hmay, wr_j (by omega)]
      exact this
    · have hc : c k = 139 := ix_not.mp (by omega)
      have hmay : may = true := by
        cases may with
        | true => rfl
        | false => exact absurd rfl z
      rw [mac, if_pos ⟨hmay, hc⟩, if_pos (by omega)] at hm
      rw [← hm] at hb
      have fb := RS_bad (f := 2) hT hN h
      refine w173b (by rw [fb.2.1]; exact ne_2) ⟨fun y => absurd rfl y, fun _ => b186_2 (w173b (by rw [fb.2.1]; exact ne_2) ⟨fun _ => b186B_5 ne_2 fb (fun σ' g => hb σ' g ne_2), fun y => absurd rfl y⟩)⟩
theorem w186 {K : dS → Prop} {may : Bool} {y : Int} {n : Nat} {r : Int × Nat × List Int} (hT : TM c q v N Mk) (c0 : c N = 0) (hN : N ≤ 700) (v0 : ∀ k, 0 ≤ v k) (hr : r.1 ≠ 9) (hy : y = if may = true then 1 else 0) (h : RS Mk S N pre o0 k W T o σ) (hm : mac c v n (some (may, 0)) k W T o = r)
    (hq : ∀ n' k1 W1 T1 o1 σ1, n' < n → RS Mk S N pre o0 k1 W1 T1 o1 σ1 → mac c v n' none k1 W1 T1 o1 = r → K σ1)
    (hb : ∀ σ1, FB S r.1 (q r.2.1) σ1 → r.1 ≠ 0 → K σ1) : wV (d + 7) 186 [.inr (.inr 153), .inl y] σ Q K := by
  rw [hy]
  exact c186 (b186_0 (b186_1 ⟨fun z => absurd z (by decide), fun _ => w173g h.2.2.1 ⟨fun z => absurd z (by decide), fun _ => l186 hT c0 hN v0 hr n hq hb n may 0 k W T o σ (Nat.le_refl n) (by decide) h hm⟩⟩))
end PN
