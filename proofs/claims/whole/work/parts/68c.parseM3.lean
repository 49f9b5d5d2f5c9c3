/-! THE REFERENCE READS a rule: the whole expression -/
theorem ix_ao {x : Int} : (ix x = 15 ↔ x = 138) ∧ (ix x = 16 ↔ x = 137) := by
  have key : ix x = 15 ∨ ix x = 16 → x = 138 ∨ x = 137 := by
    unfold ix
    intro h
    by_cases h1 : x = 129
    · rw [if_pos h1] at h; omega
    by_cases h2 : x = 130
    · rw [if_neg h1, if_pos h2] at h; omega
    by_cases h3 : 131 ≤ x ∧ x ≤ 133
    · rw [if_neg h1, if_neg h2, if_pos h3] at h; omega
    by_cases h4 : x = 134
    · rw [if_neg h1, if_neg h2, if_neg h3, if_pos h4] at h; omega
    by_cases h5 : x = 135
    · rw [if_neg h1, if_neg h2, if_neg h3, if_neg h4, if_pos h5] at h; omega
    by_cases h6 : x = 136
    · rw [if_neg h1, if_neg h2, if_neg h3, if_neg h4, if_neg h5, if_pos h6] at h; omega
    by_cases h7 : x = 137
    · omega
    by_cases h8 : x = 138
    · omega
    by_cases h9 : x = 139
    · rw [if_neg h1, if_neg h2, if_neg h3, if_neg h4, if_neg h5, if_neg h6, if_neg h7, if_neg h8, if_pos h9] at h; omega
    by_cases h10 : 140 ≤ x ∧ x ≤ 146
    · rw [if_neg h1, if_neg h2, if_neg h3, if_neg h4, if_neg h5, if_neg h6, if_neg h7, if_neg h8, if_neg h9, if_pos h10] at h; omega
    · rw [if_neg h1, if_neg h2, if_neg h3, if_neg h4, if_neg h5, if_neg h6, if_neg h7, if_neg h8, if_neg h9, if_neg h10] at h; omega
  have e1 : ix 138 = 15 := by decide
  have e2 : ix 137 = 16 := by decide
  constructor <;> constructor <;> intro h
  · rcases key (Or.inl h) with z | z
    · exact z
    · rw [z, e2] at h; omega
  · rw [h]; exact e1
  · rcases key (Or.inr h) with z | z
    · rw [z, e1] at h; omega
    · exact z
  · rw [h]; exact e2
theorem gdr_open : ∀ {W : List Int} {o : List Int}, 40 ∈ W → ∃ W', (gdr 0 W o).1 = 40 :: W'
  | [], _, h => absurd h (by simp)
  | x :: W, o, h => by
    by_cases hx : x = 40
    · exact ⟨W, by rw [gdr, if_pos (Or.inl hx), hx]⟩
    · have hW : 40 ∈ W := by
        rcases List.mem_cons.mp h with z | z
        · exact absurd z.symm hx
        · exact z
      obtain ⟨W', e⟩ := gdr_open (W := W) (o := o ++ [-x]) hW
      exact ⟨W', by rw [gdr, if_neg (by omega)]; exact e⟩
theorem gdr_all : ∀ {W : List Int} {o : List Int}, 40 ∉ W → (gdr 0 W o).1 = []
  | [], _, _ => rfl
  | x :: W, o, h => by
    have hx : x ≠ 40 := fun z => h (by rw [z]; exact List.mem_cons_self ..)
    rw [gdr, if_neg (by omega)]
    exact gdr_all (fun z => h (List.mem_cons_of_mem _ z))
section PE
variable {c q v : Nat → Int} {N : Nat} {Mk : Nat → dS → Prop} {S : dS} {pre o0 : List Int} {d : Nat} {Q : dR → dS → Prop} {σ : dS} {k : Nat} {W : List Int} {T : List Bool} {o : List Int} {t : Int}
theorem l187 : ∀ (W : List Int), W.length ≤ 900 → (∀ x ∈ W, wk x) → stk σ 172 (W.map ac) → (40 ∈ W → Q (.inl (some (.inl 1))) σ) → (40 ∉ W → Q (.inl (some (.inl 0))) σ) → B187_1 (d + 1) Q ((W.length : Int) - 1) σ
  | [], _, _, _, _, h0 => b187_1 ⟨fun _ => b187_2 ⟨fun _ => b187_3 (b187_4 ⟨Or.inl rfl, h0 (by simp)⟩), fun z => absurd (by decide) z⟩, fun z => absurd (by decide) z⟩
  | x :: W, hl, hw, hs, h1, h0 => by
    simp only [List.length_cons] at hl
    have e : (((x :: W).length : Nat) : Int) - 1 = (W.length : Int) := by simp only [List.length_cons]; omega
    rw [e]
    have et : σ 172 (W.length : Int) = ac x := by
      have := hs.1
      rw [List.length_map] at this
      exact this
    have hx := ac_wk (hw x (List.mem_cons_self ..))
    refine b187_1 ⟨fun z => absurd z (by omega), fun _ => ⟨by omega, by omega, ?_⟩⟩
    rw [et]
    refine w180 (fun z => ⟨fun _ => b187_2 ⟨fun y => absurd y (by omega), fun _ => b187_4 ⟨Or.inr rfl, h1 ?_⟩⟩, fun y => absurd (by decide) y⟩) (fun z => ⟨fun y => absurd rfl y, fun _ => ?_⟩)
    · rw [hx.1.mp z]; exact List.mem_cons_self ..
    · have n40 : x ≠ 40 := fun y => by have := hx.1.mpr y; omega
      rw [wr_id (by omega) (by omega)]
      refine l187 W (by omega) (fun y hy => hw y (List.mem_cons_of_mem _ hy)) hs.2 (fun z => h1 (List.mem_cons_of_mem _ z)) (fun z => h0 (fun y => ?_))
      rcases List.mem_cons.mp y with u | u
      · exact n40 u.symm
      · exact z u
theorem w187 {K : Int → dS → Prop} (hN : N ≤ 700) (h : RS Mk S N pre o0 k W T o σ) (h1 : 40 ∈ W → K 1 σ) (h0 : 40 ∉ W → K 0 σ) : wI (d + 3) 187 [.inr (.inr 153)] σ Q K := by
  obtain ⟨a1, a2, a3, a4, a5, a6, a7, a8, a9, a10, a11, a12⟩ := h
  refine c187 (b187_0 ?_)
  rw [a4.1, wr_id (by omega) (by omega)]
  exact l187 W (by omega) a12 a4.2 h1 h0
theorem RC_close {x : Int} {b : Bool} {a b' : Int} (hT : TM c q v N Mk) (ha : a = (W.length : Int)) (hb : b' = (T.length : Int)) (h : RCo Mk S pre o0 k (x :: W) (b :: T) o t σ) : RCo Mk S pre o0 k W T o t (up (up σ 153 34 a) 153 35 b') := by
  obtain ⟨a1, a2, a3, a4, a5, a6, a7, a8⟩ := h
  have g : ∀ j, j ≠ 34 → j ≠ 35 → (up (up σ 153 34 a) 153 35 b') 153 j = σ 153 j := fun j h1 h2 => by rw [up_i h2, up_i h1]
  have gk : ∀ y, y ≠ 153 → (up (up σ 153 34 a) 153 35 b') y = σ y := fun y h1 => by rw [up_k h1, up_k h1]
  obtain ⟨cs, b1, b2, b3⟩ := a6
  exact ⟨mfr_j (by omega) (mfr_j (by omega) a1), hT.2.1 k σ _ a2 (gk 161 (by decide)) (fun j hj => g j (by omega) (by omega)), by rw [g 16 (by decide) (by decide)]; exact a3, ⟨by rw [up_i (by decide), up_same]; exact ha, stk_k (gk 172 (by decide)) a4.2.2⟩, ⟨by rw [up_same]; exact hb, tsk_k (gk 173 (by decide)) a5.2.2⟩, ⟨cs, b1, by rw [g 33 (by decide) (by decide)]; exact b2, seg_k (gk 171 (by decide)) b3⟩, by rw [g 33 (by decide) (by decide)]; exact a7, fun y hy => a8 y (List.mem_cons_of_mem _ hy)⟩
theorem w188 {K : dS → Prop} (hT : TM c q v N Mk) (hN : N ≤ 700) (hk : k < N) (h4 : 40 ∈ W) (h : RS Mk S N pre o0 k W T o σ) (hq : ∀ σ', RS Mk S N pre o0 (k + 1) (gdr 0 W o).1.tail T.tail (gdr 0 W o).2 σ' → K σ') : wV (d + 6) 188 [.inr (.inr 153)] σ Q K := by
  refine c188 (b188_0 (w182 (l := 0) hN hT rfl h (fun σ1 g1 σ2 e2 σ3 e3 => ?_)))
  obtain ⟨W', eW⟩ := gdr_open (o := o) h4
  rw [eW] at g1 hq
  obtain ⟨r1, r2, r3, r4, r5, r6, r7⟩ := RCo_of g1
  rw [List.count_cons, if_pos (by decide)] at r6
  simp only [List.length_cons] at r3 r4
  match T, r1, r5, r6, hq with
  | [], _, _, r6, _ => simp only [List.length_nil] at r6; omega
  | b :: T', r1, r5, r6, hq =>
    simp only [List.length_cons] at r5 r6
    have e34 := r1.2.2.2.1.1
    have e35 := r1.2.2.2.2.1.1
    simp only [List.length_cons] at e34 e35
    have ea : wr (σ1 153 34 - 1) = (W'.length : Int) := by rw [wr_id (by omega) (by omega)]; omega
    have e35' : σ2 153 35 = σ1 153 35 := by rw [e2, up_i (by decide)]
    have eb : wr (σ2 153 35 - 1) = (T'.length : Int) := by rw [wr_id (by omega) (by omega)]; omega
    rw [ea] at e2
    rw [eb, e2] at e3
    have p := RC_close hT rfl rfl r1
    rw [← e3] at p
    refine RC_goes hT hk p (fun σ4 p4 => hq σ4 (show RS Mk S N pre o0 (k + 1) W' T' _ σ4 from RS_of p4 (by omega) (by omega) (by omega) (by omega) (by omega)))
theorem w_pg {K : dS → Prop} {x y : Int} (hT : TM c q v N Mk) (hN : N ≤ 700) (hk : k < N) (hx : wk x) (h4 : x ≠ 40) (hy : y = ac x) (h : RS Mk S N pre o0 k W T o σ) (hq : ∀ σ', RS Mk S N pre o0 (k + 1) (x :: W) T o σ' → K σ') : wV (d + 5) 183 [.inr (.inr 153), .inl y] σ Q (fun σ1 => wV (d + 5) 168 [.inr (.inr 153)] σ1 Q K) := by
  obtain ⟨r1, r2, r3, r4, r5, r6, r7⟩ := RCo_of h
  have e34 := r1.2.2.2.1.1
  rw [hy]
  refine w183 (d := d + 3) (by omega) (by omega) ?_
  exact RC_goes hT hk (RC_push hT hx r1) (fun σ2 p2 => hq σ2 (RS_of p2 (by omega) (by simp only [List.length_cons]; omega) (by simp only [List.length_cons]; omega) r5 (by rw [List.count_cons, if_neg (by simpa using h4)]; exact r6)))
theorem w_pt {K : dS → Prop} {x y z : Int} {b b0 : Bool} (hT : TM c q v N Mk) (hN : N ≤ 700) (hk : k < N) (hx : wk x) (h4 : x ≠ 40) (hy : y = ac x) (hz : z = if b = true then 1 else 0) (h : RS Mk S N pre o0 k W (b0 :: T) o σ) (hq : ∀ σ', RS Mk S N pre o0 (k + 1) (x :: W) (b :: T) o σ' → K σ') : wV (d + 5) 183 [.inr (.inr 153), .inl y] σ Q (fun σ1 => (0 ≤ (σ1 153 35)) ∧ ((σ1 153 35) < 9) ∧ (((z : Int) = 0 ∨ (z : Int) = 1) ∧ (∀ σ2 : dS, σ2 = up σ1 173 (σ1 153 35) z → wV (d + 5) 168 [.inr (.inr 153)] σ2 Q K))) := by
  obtain ⟨r1, r2, r3, r4, r5, r6, r7⟩ := RCo_of h
  have e34 := r1.2.2.2.1.1
  rw [hy]
  refine w183 (d := d + 3) (by omega) (by omega) ?_
  have p := RC_push hT hx r1
  have e35 := p.2.2.2.2.1.1
  simp only [List.length_cons] at e35 r5 r6
  refine ⟨by omega, by omega, ?_, fun σ2 e2 => ?_⟩
  · cases b
    · exact Or.inl hz
    · exact Or.inr hz
  · have p2 := RC_test hT hz p
    rw [← e2] at p2
    exact RC_goes hT hk p2 (fun σ3 p3 => hq σ3 (RS_of p3 (by omega) (by simp only [List.length_cons]; omega) (by simp only [List.length_cons]; omega) (by simp only [List.length_cons]; omega) (by rw [List.count_cons, if_neg (by simpa using h4)]; simp only [List.length_cons]; exact r6)))
/-- a fault's way out of an expression -/
theorem b189B {f p x : Int} (hf : f ≠ 0) (h : FB S f p σ) (hm : True) (hq : ∀ σ', mfr S σ' → σ' 153 16 = f → σ' 153 17 = p → Q (.inl none) σ') : B189_2 (d + 6) Q x σ := by
  have last : ∀ σ', FB S f p σ' → B189_24 (d + 6) Q σ' := by
    intro σ' h'
    refine b189_24 (w182B h' (fun σ2 g2 => ?_))
    obtain ⟨a1, a2, a3, a4, a5, a6⟩ := g2
    have g : ∀ j, j ≠ 33 → (up (up σ2 171 (σ2 153 33) 0) 153 33 (σ2 153 33 + 1)) 153 j = σ2 153 j := fun j h1 => by rw [up_i h1, up_k (by decide)]
    exact w179 (by omega) (by omega) (hq _ (mfr_j (by omega) (mfr_c (by omega) a1)) (by rw [g 16 (by decide)]; exact a2) (by rw [g 17 (by decide)]; exact a3))
  have go : B189_23 (d + 6) Q σ := b189_23 (w173b (by rw [h.2.1]; exact hf) ⟨fun _ => last σ h, fun z => absurd rfl z⟩)
  exact b189_2 ⟨fun _ => go, fun _ => w173b (by rw [h.2.1]; exact hf) ⟨fun _ => go, fun z => absurd rfl z⟩⟩
theorem l189 {r : Int × Nat × List Int} (hT : TM c q v N Mk) (c0 : c N = 0) (hN : N ≤ 700) (v0 : ∀ k, 0 ≤ v k) (hr : r.1 ≠ 9)
    (hq : r.1 = 0 → ∀ T σ', RS Mk S N pre o0 r.2.1 [] T r.2.2 σ' → Q (.inl none) (up (up σ' 171 (σ' 153 33) 0) 153 33 (σ' 153 33 + 1)))
    (hb : r.1 ≠ 0 → ∀ σ', mfr S σ' → σ' 153 16 = r.1 → σ' 153 17 = q r.2.1 → Q (.inl none) σ') : ∀ (m n k : Nat) (W : List Int) (T : List Bool) (o : List Int) (σ : dS), n ≤ m → RS Mk S N pre o0 k W T o σ → mac c v n none k W T o = r → B189_2 (d + 6) Q 1 σ := by
  intro m
  induction m with
  | zero =>
    intro n k W T o σ hn h hm
    have e : n = 0 := by omega
    rw [e] at hm
    rw [← hm] at hr
    exact absurd rfl hr
  | succ m ih =>
    intro n k W T o σ hn h hm
    match n, hn, hm with
    | 0, _, hm =>
      rw [← hm] at hr
      exact absurd rfl hr
    | n + 1, hn, hm =>
      obtain ⟨r1, r2, r3, r4, r5, r6, r7⟩ := RCo_of h
      have hg : σ 153 16 = 0 := r1.2.2.1
      have hM := hT.1 k σ r2 r1.2.1
      match T, h, hm, r1, r5, r6, hg, hM with
      | [], _, _, _, _, r6, _, _ => simp only [List.length_nil] at r6; omega
      | b0 :: T, h, hm, r1, r5, r6, hg, hM =>
      -- an operand follows
      have opd : ∀ (may : Bool) (y : Int) (k1 : Nat) (W1 : List Int) (T1 : List Bool) (o1 : List Int) (σ1 : dS), y = (if may = true then 1 else 0) → RS Mk S N pre o0 k1 W1 T1 o1 σ1 → mac c v n (some (may, 0)) k1 W1 T1 o1 = r → wV (d + 7) 186 [.inr (.inr 153), .inl y] σ1 Q (fun σ4 => B189_22 (d + 6) Q 1 σ4) := by
        intro may y k1 W1 T1 o1 σ1 hy h1 hm1
        exact w186 hT c0 hN v0 hr hy h1 hm1 (fun n' k2 W2 T2 o2 σ2 hn' h2 hm2 => b189_22 (ih n' k2 W2 T2 o2 σ2 (by omega) h2 hm2)) (fun σ2 g2 ne => b189_22 (b189B ne g2 trivial (hb ne)))
      refine b189_2 ⟨fun z => absurd z (by decide), fun _ => w173g hg ⟨fun z => absurd z (by decide), fun _ => hT.2.2.2 (d + 2) _ _ σ k r2 r1.2.1 ?_⟩⟩
      by_cases hAO : c k = 137 ∨ c k = 138
      · have hlt := TMne hT c0 r2 (by omega)
        rw [mac, if_pos hAO] at hm
        rcases hAO with e | e
        · have i1 : ix (c k) = 16 := ix_ao.2.mpr e
          rw [i1]
          refine ⟨fun z => absurd z (by decide), fun _ => ⟨fun z => absurd rfl z, fun _ => b189_3 ⟨fun _ => b189_4 (b189_5 (w182 (d := d + 4) (l := 1) hN hT rfl h (fun σ1 g1 => ⟨fun _ => b189_6 ?_, fun z => absurd (by decide) z⟩))), fun z => absurd (by decide) z⟩⟩⟩
          have hs : stg (c k) = 1 := by rw [e]; rfl
          rw [hs] at hm
          exact b189_7 (w_pt (d := d + 2) (b := false) hT hN hlt (by unfold wk; omega) (by omega) (by rw [e]; decide) rfl g1 (fun σ2 g2 => opd true 1 _ _ _ _ σ2 rfl g2 hm))
        · have i1 : ix (c k) = 15 := ix_ao.1.mpr e
          rw [i1]
          refine ⟨fun _ => b189_3 ⟨fun z => absurd rfl z, fun _ => b189_5 (w182 (d := d + 4) (l := 2) hN hT rfl h (fun σ1 g1 => ⟨fun z => absurd rfl z, fun _ => ?_⟩))⟩, fun z => absurd rfl z⟩
          have hs : stg (c k) = 2 := by rw [e]; rfl
          rw [hs] at hm
          exact b189_7 (w_pt (d := d + 2) (b := false) hT hN hlt (by unfold wk; omega) (by omega) (by rw [e]; decide) rfl g1 (fun σ2 g2 => opd true 1 _ _ _ _ σ2 rfl g2 hm))
      have n15 : ix (c k) ≠ 15 := fun z => hAO (Or.inr (ix_ao.1.mp z))
      have n16 : ix (c k) ≠ 16 := fun z => hAO (Or.inl (ix_ao.2.mp z))
      rw [mac, if_neg hAO] at hm
      refine ⟨fun z => absurd z n15, fun _ => ⟨fun _ => b189_8 ?_, fun z => absurd n16 z⟩⟩
      -- behind the tests
      have from20 : ¬ ((c k = 60 ∨ c k = 61) ∧ (b0 :: T).headD false = false) → ¬ (c k = 43 ∨ c k = 45) → ¬ (c k = 42 ∨ c k = 47) → B189_20 (d + 6) Q 1 σ := by
        intro n1 n2 n3
        rw [if_neg n1, if_neg n2, if_neg n3] at hm
        have stop : ¬ (c k = 41 ∧ 40 ∈ W) → B189_21 (d + 6) Q σ := by
          intro n4
          rw [if_neg n4] at hm
          refine b189_21 (b189_22 (b189_2 ⟨fun _ => b189_23 (w173g hg ⟨fun z => absurd z (by decide), fun _ => ⟨fun z => ?_, fun z => w172 hg (b189_24 (w182B (RS_bad (f := 1) hT hN h) (fun σ2 g2 => ?_)))⟩⟩), fun z => absurd rfl z⟩))
          · have e35 := r1.2.2.2.2.1.1
            simp only [List.length_cons] at e35 r6
            have c40 : W.count 40 = 0 := by omega
            have n40 : 40 ∉ W := List.count_eq_zero.mp c40
            have l0 : ¬ 1 < (b0 :: T).length := by simp only [List.length_cons]; omega
            rw [if_neg l0] at hm
            rw [← hm] at hq
            refine b189_24 (w182 (d := d + 4) (l := 0) hN hT rfl h (fun σ1 g1 => ?_))
            rw [gdr_all n40] at g1
            have b33 := (RCo_of g1).2.2.2.1
            have b33' := (RCo_of g1).2.2.2.2.2.2
            simp only [List.length_nil] at b33
            exact w179 (by omega) (by omega) (hq rfl _ σ1 g1)
          · have e35 := r1.2.2.2.2.1.1
            simp only [List.length_cons] at e35
            have l1 : 1 < (b0 :: T).length := by simp only [List.length_cons]; omega
            rw [if_pos l1] at hm
            rw [← hm] at hb
            obtain ⟨a1, a2, a3, a4, a5, a6⟩ := g2
            have g : ∀ j, j ≠ 33 → (up (up σ2 171 (σ2 153 33) 0) 153 33 (σ2 153 33 + 1)) 153 j = σ2 153 j := fun j h1 => by rw [up_i h1, up_k (by decide)]
            exact w179 (by omega) (by omega) (hb ne_1 _ (mfr_j (by omega) (mfr_c (by omega) a1)) (by rw [g 16 (by decide)]; exact a2) (by rw [g 17 (by decide)]; exact a3))
        refine b189_20 (w174 hM (by decide) (by decide) (fun z => ⟨fun y => absurd y (by decide), fun _ => w187 hN h (fun y => ⟨fun u => absurd u (by decide), fun _ => ?_⟩) (fun y => ⟨fun _ => stop (fun u => y u.2), fun u => absurd rfl u⟩)⟩) (fun z => ⟨fun _ => stop (fun u => z u.1), fun y => absurd rfl y⟩))
        have hlt := TMne hT c0 r2 (by omega)
        rw [if_pos ⟨z, y⟩] at hm
        exact w188 hT hN hlt y h (fun σ1 g1 => b189_22 (ih n _ _ _ _ σ1 (by omega) g1 hm))
      have from12 : ¬ ((c k = 60 ∨ c k = 61) ∧ (b0 :: T).headD false = false) → B189_12 (d + 6) Q 1 σ := by
        intro n1
        have plus : (c k = 43 ∨ c k = 45) → B189_13 (d + 6) Q 1 σ := by
          intro e
          have hlt := TMne hT c0 r2 (by omega)
          rw [if_neg n1, if_pos e] at hm
          refine b189_13 (w182 (d := d + 4) (l := 5) hN hT rfl h (fun σ1 g1 => w174 (hT.1 k σ1 r2 g1.2.1) (by decide) (by decide) (fun y => ⟨fun u => absurd u (by decide), fun _ => b189_15 ?_⟩) (fun y => ⟨fun _ => b189_14 (b189_15 ?_), fun u => absurd rfl u⟩)))
          · exact w_pg (d := d + 2) hT hN hlt (by unfold wk; omega) (by omega) (by rw [y]; decide) g1 (fun σ2 g2 => opd false 0 _ _ _ _ σ2 rfl g2 hm)
          · have e45 : c k = 45 := by omega
            exact w_pg (d := d + 2) hT hN hlt (by unfold wk; omega) (by omega) (by rw [e45]; decide) g1 (fun σ2 g2 => opd false 0 _ _ _ _ σ2 rfl g2 hm)
        have times : ¬ (c k = 43 ∨ c k = 45) → (c k = 42 ∨ c k = 47) → B189_17 (d + 6) Q 1 σ := by
          intro n2 e
          have hlt := TMne hT c0 r2 (by omega)
          rw [if_neg n1, if_neg n2, if_pos e] at hm
          refine b189_17 (w182 (d := d + 4) (l := 6) hN hT rfl h (fun σ1 g1 => w174 (hT.1 k σ1 r2 g1.2.1) (by decide) (by decide) (fun y => ⟨fun u => absurd u (by decide), fun _ => b189_19 ?_⟩) (fun y => ⟨fun _ => b189_18 (b189_19 ?_), fun u => absurd rfl u⟩)))
          · exact w_pg (d := d + 2) hT hN hlt (by unfold wk; omega) (by omega) (by rw [y]; decide) g1 (fun σ2 g2 => opd false 0 _ _ _ _ σ2 rfl g2 hm)
          · have e47 : c k = 47 := by omega
            exact w_pg (d := d + 2) hT hN hlt (by unfold wk; omega) (by omega) (by rw [e47]; decide) g1 (fun σ2 g2 => opd false 0 _ _ _ _ σ2 rfl g2 hm)
        refine b189_12 (w174 hM (by decide) (by decide) (fun z => ⟨fun _ => plus (Or.inl z), fun y => absurd (by decide) y⟩) (fun z => ⟨fun y => absurd rfl y, fun _ => w174 hM (by decide) (by decide) (fun z2 => ⟨fun y => absurd y (by decide), fun _ => plus (Or.inr z2)⟩) (fun z2 => ⟨fun _ => b189_16 ?_, fun y => absurd rfl y⟩)⟩))
        refine w174 hM (by decide) (by decide) (fun z3 => ⟨fun _ => times (by omega) (Or.inl z3), fun y => absurd (by decide) y⟩) (fun z3 => ⟨fun y => absurd rfl y, fun _ => w174 hM (by decide) (by decide) (fun z4 => ⟨fun y => absurd y (by decide), fun _ => times (by omega) (Or.inr z4)⟩) (fun z4 => ⟨fun _ => from20 n1 (by omega) (by omega), fun y => absurd rfl y⟩)⟩)
      have test : (c k = 60 ∨ c k = 61) → B189_9 (d + 6) Q 1 σ := by
        intro e
        have e35 := r1.2.2.2.2.1.1
        have et := r1.2.2.2.2.1.2.1
        simp only [List.length_cons] at e35 r5
        have et' : σ 173 (σ 153 35) = if b0 = true then 1 else 0 := by rw [e35]; exact et
        refine b189_9 ⟨by omega, by omega, ?_⟩
        rw [et']
        cases b0 with
        | true => exact ⟨fun _ => from12 (fun u => Bool.noConfusion (show true = false from u.2)), fun z => absurd (by decide) z⟩
        | false =>
          refine ⟨fun z => absurd rfl z, fun _ => ?_⟩
          have hlt := TMne hT c0 r2 (by omega)
          rw [if_pos ⟨e, rfl⟩] at hm
          refine w182 (d := d + 4) (l := 4) hN hT rfl h (fun σ1 g1 => w174 (hT.1 k σ1 r2 g1.2.1) (by decide) (by decide) (fun y => ⟨fun u => absurd u (by decide), fun _ => b189_11 ?_⟩) (fun y => ⟨fun _ => b189_10 (b189_11 ?_), fun u => absurd rfl u⟩))
          · exact w_pt (d := d + 2) (b := true) hT hN hlt (by unfold wk; omega) (by omega) (by rw [y]; decide) rfl g1 (fun σ2 g2 => opd false 0 _ _ _ _ σ2 rfl g2 hm)
          · have e61 : c k = 61 := by omega
            exact w_pt (d := d + 2) (b := true) hT hN hlt (by unfold wk; omega) (by omega) (by rw [e61]; decide) rfl g1 (fun σ2 g2 => opd false 0 _ _ _ _ σ2 rfl g2 hm)
      exact w174 hM (by decide) (by decide) (fun z => ⟨fun _ => test (Or.inl z), fun y => absurd (by decide) y⟩) (fun z => ⟨fun y => absurd rfl y, fun _ => w174 hM (by decide) (by decide) (fun z2 => ⟨fun y => absurd y (by decide), fun _ => test (Or.inr z2)⟩) (fun z2 => ⟨fun _ => from12 (by omega), fun y => absurd rfl y⟩)⟩)
theorem w189 {K : dS → Prop} (hT : TM c q v N Mk) (c0 : c N = 0) (hN : N ≤ 700) (v0 : ∀ k, 0 ≤ v k) (hk : k ≤ N) (hM : Mk k σ) (hg : σ 153 16 = 0) (h33 : σ 153 33 = (pre.length : Int)) (hs : seg σ 171 0 pre) (hl : (pre.length : Int) ≤ 2 * k + 4)
    (hq : (gex c v 6 k o).1 = 0 → ∀ σ' cs, (gex c v 6 k o).2.2 = o ++ cs → mfr σ σ' → Mk (gex c v 6 k o).2.1 σ' → σ' 153 16 = 0 → σ' 153 33 = ((pre ++ flt cs).length : Int) → seg σ' 171 0 (pre ++ flt cs) → K σ')
    (hf : (gex c v 6 k o).1 ≠ 0 → ∀ σ', mfr σ σ' → σ' 153 16 = (gex c v 6 k o).1 → σ' 153 17 = q (gex c v 6 k o).2.1 → K σ') : wV (d + 8) 189 [.inr (.inr 153)] σ Q K := by
  obtain ⟨n, o', e, eo⟩ := read_alike c0 hN v0 (k := k) (o := o) hk
  have k1 := (gex_k c0 hN v0 6 k o hk).1
  refine c189 (b189_0 (w173g hg ⟨fun _ => b189_1 (fun σ1 e1 σ2 e2 => ?_), fun z => absurd (by decide) z⟩))
  have g : ∀ j, j ≠ 34 → j ≠ 35 → σ2 153 j = σ 153 j := fun j h1 h2 => by rw [e2, up_i h2, e1, up_i h1]
  have gk : ∀ y, y ≠ 153 → σ2 y = σ y := fun y h1 => by rw [e2, up_k h1, e1, up_k h1]
  have p0 : RCo Mk σ pre o k [] [] o (pre.length : Int) σ2 := by
    refine ⟨⟨fun x h1 _ _ _ => gk x h1, fun j hj => g j (by omega) (by omega)⟩, hT.2.1 k σ _ hM (gk 161 (by decide)) (fun j hj => g j (by omega) (by omega)), by rw [g 16 (by decide) (by decide)]; exact hg, ⟨by rw [e2, up_i (by decide), e1, up_same]; rfl, trivial⟩, ⟨by rw [e2, up_same]; rfl, trivial⟩, ⟨[], by simp, ?_, ?_⟩, by rw [g 33 (by decide) (by decide)]; exact h33, fun x hx => absurd hx (by simp)⟩
    · rw [g 33 (by decide) (by decide), h33]; simp [ecs]
    · have : pre ++ ecs [] = pre := by simp [ecs]
      rw [this]
      exact seg_k (gk 171 (by decide)) hs
  refine w185 (d := d + 1) hT hN hk (by simp) (by omega) (by simp only [List.length_nil]; omega) (by simp) (by simp) p0 (fun _ σ3 p3 => ?_) (fun z => absurd (by simp) z)
  have fin : ∀ σ4, B189_2 (d + 6) (fun res σ1 => match res with | .inl none => K σ1 | .inl _ => False | .inr e => Q (.inr e) σ1) 1 σ4 → B189_2 (d + 6) (fun res σ1 => match res with | .inl none => K σ1 | .inl _ => False | .inr e => Q (.inr e) σ1) 1 σ4 := fun _ h => h
  have bad : ((gex c v 6 k o).1, (gex c v 6 k o).2.1, o').1 ≠ 0 → ∀ σ', mfr σ σ' → σ' 153 16 = (gex c v 6 k o).1 → σ' 153 17 = q (gex c v 6 k o).2.1 → K σ' := hf
  have ne9 : ((gex c v 6 k o).1, (gex c v 6 k o).2.1, o').1 ≠ 9 := by
    show (gex c v 6 k o).1 ≠ 9
    omega
  refine w186 (d := d) (S := σ) hT c0 hN v0 ne9 rfl p3 e (fun n' k2 W2 T2 o2 σ2 hn' h2 hm2 => ?_) (fun σ2 g2 ne => b189B ne g2 trivial (hf ne))
  refine l189 hT c0 hN v0 ne9 (fun hz T' σ' h' => ?_) bad n' n' k2 W2 T2 o2 σ2 (Nat.le_refl _) h2 hm2
  obtain ⟨a1, a2, a3, a4, a5, a6, a7, a8, a9, a10, a11, a12⟩ := h'
  obtain ⟨cs, b1, b2, b3⟩ := a6
  have g' : ∀ j, j ≠ 33 → (up (up σ' 171 (σ' 153 33) 0) 153 33 (σ' 153 33 + 1)) 153 j = σ' 153 j := fun j h1 => by rw [up_i h1, up_k (by decide)]
  have l1 : pre ++ flt cs = (pre ++ ecs cs) ++ [0] := by rw [flt_ecs, List.append_assoc]
  refine hq hz _ cs (by rw [← eo hz]; exact b1) (mfr_j (by omega) (mfr_c (by omega) a1)) (hT.2.1 _ σ' _ a2 (by rw [up_k (by decide), up_k (by decide)]) (fun j hj => g' j (by omega))) (by rw [g' 16 (by decide)]; exact a3) ?_ ?_
  · rw [up_same, l1, List.length_append, b2]; rfl
  · rw [l1]
    refine seg_k (σ := up σ' 171 (σ' 153 33) 0) (up_k (by decide)) ?_
    rw [seg_app]
    refine ⟨seg_up b3 (by omega), ?_, trivial⟩
    rw [Int.zero_add, b2, up_same]
end PE
