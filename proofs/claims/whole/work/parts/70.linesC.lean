/-! THE CLASS READS lines -/
abbrev dcl (x : Nat) : Prop := x = 33 ∨ x = 35 ∨ x = 37 ∨ x = 39 ∨ x = 41 ∨ x = 43 ∨ x = 45 ∨ x = 47 ∨ x = 49 ∨ x = 51 ∨ x = 53
def CR (S : dS) (k : Nat) (D : dS) (dt : Bool) (rs : List (List Int)) (σ : dS) : Prop :=
  (∀ x, ¬ (33 ≤ x ∧ x ≤ 60) → x ≠ 68 → σ x = S x) ∧ (∀ j, j < 2 ∨ 5 < j → σ 68 j = S 68 j) ∧ σ 68 2 = (k : Int) ∧ σ 68 3 = 0 ∧ σ 68 4 = -1 ∧ σ 68 5 = (if dt = true then 1 else 0) ∧ (∀ x, dcl x → σ x = D x) ∧ σ 54 0 = (rs.length : Int) ∧ σ 54 1 = (rs.flatten.length : Int) ∧ seg σ 56 0 rs.flatten ∧ (∀ i : Nat, i < rs.length → σ 58 i = (((rs.take (i + 1)).flatten.length : Nat) : Int))
def CF (S : dS) (f p : Int) (σ : dS) : Prop := (∀ x, ¬ (33 ≤ x ∧ x ≤ 60) → x ≠ 68 → σ x = S x) ∧ (∀ j, j < 2 ∨ 5 < j → σ 68 j = S 68 j) ∧ σ 68 3 = f ∧ σ 68 4 = p
section CL
variable {c q v : Nat → Int} {N : Nat} {S : dS} {d : Nat} {Q : dR → dS → Prop} {σ : dS} {k : Nat} {D : dS} {dt : Bool} {rs : List (List Int)}
theorem CR_XA (h : CR S k D dt rs σ) : XA σ k rs.flatten σ := ⟨fun _ _ _ _ => rfl, fun _ _ => rfl, h.2.2.1, fun _ _ => rfl, h.2.2.2.2.2.2.2.2.1, h.2.2.2.2.2.2.2.2.2.1⟩
theorem CR_TK (hT : TK c q v N S) (h : CR S k D dt rs σ) : TK c q v N σ := by
  obtain ⟨t1, t2, t3, t4⟩ := hT
  refine ⟨t1, t2, t3, fun j hj => ?_⟩
  rw [h.1 63 (by decide) (by decide), h.1 65 (by decide) (by decide), h.1 67 (by decide) (by decide)]
  exact t4 j hj
theorem XA_CR {k' : Nat} {σ' : dS} (h : CR S k D dt rs σ) (g : XA σ k' rs.flatten σ') : CR S k' D dt rs σ' := by
  obtain ⟨a1, a2, a3, a4, a5, a6, a7, a8, a9, a10, a11⟩ := h
  obtain ⟨b1, b2, b3, b4, b5, b6⟩ := g
  refine ⟨fun x h1 h2 => by rw [b1 x h2 (by omega) (by omega)]; exact a1 x h1 h2, fun j hj => by rw [b2 j (by omega)]; exact a2 j hj, b3, by rw [b2 3 (by decide)]; exact a4, by rw [b2 4 (by decide)]; exact a5, by rw [b2 5 (by decide)]; exact a6, fun x hx => by rw [b1 x (by omega) (by omega) (by omega)]; exact a7 x hx, by rw [b4 0 (by decide)]; exact a8, b5, b6, fun i hi => by rw [b1 58 (by decide) (by decide) (by decide)]; exact a11 i hi⟩
theorem XB_CF {f p : Int} {σ' : dS} (h : CR S k D dt rs σ) (g : XB σ f p σ') : CF S f p σ' := by
  obtain ⟨b1, b2, b3, b4⟩ := g
  exact ⟨fun x h1 h2 => by rw [b1 x h2 (by omega) (by omega)]; exact h.1 x h1 h2, fun j hj => by rw [b2 j (by omega)]; exact h.2.1 j (by omega), b3, b4⟩
theorem CF_w {f p : Int} {σ' : dS} (h : CF S f p σ) (e : ∀ x, ¬ (33 ≤ x ∧ x ≤ 60) → σ' x = σ x) : CF S f p σ' :=
  ⟨fun x h1 h2 => by rw [e x h1]; exact h.1 x h1 h2, fun j hj => by rw [e 68 (by decide)]; exact h.2.1 j hj, by rw [e 68 (by decide)]; exact h.2.2.1, by rw [e 68 (by decide)]; exact h.2.2.2⟩
theorem rput_k {x n y : Nat} {i w : Int} (h : y ≠ x) : rput σ x n i w y = σ y := by
  unfold rput
  split
  · exact up_k h
  · rfl
theorem CR_nx (hk : k ≤ 700) (h : CR S k D dt rs σ) : CR S (k + 1) D dt rs (up σ 68 2 (wr ((σ 68 2) + 1))) := XA_CR h (XA_nx hk (CR_XA h))
theorem CR_up {x : Nat} {i w : Int} (hx : dcl x) (h : CR S k D dt rs σ) : CR S k (up D x i w) dt rs (up σ x i w) := by
  obtain ⟨a1, a2, a3, a4, a5, a6, a7, a8, a9, a10, a11⟩ := h
  have n : ∀ y, (y = 68 ∨ y = 54 ∨ y = 56 ∨ y = 58) → y ≠ x := fun y hy => by omega
  refine ⟨fun y h1 h2 => by rw [up_k (by omega)]; exact a1 y h1 h2, fun j hj => by rw [up_k (n 68 (by omega))]; exact a2 j hj, by rw [up_k (n 68 (by omega))]; exact a3, by rw [up_k (n 68 (by omega))]; exact a4, by rw [up_k (n 68 (by omega))]; exact a5, by rw [up_k (n 68 (by omega))]; exact a6, fun y hy => ?_, by rw [up_k (n 54 (by omega))]; exact a8, by rw [up_k (n 54 (by omega))]; exact a9, seg_k (up_k (n 56 (by omega))) a10, fun j hj => by rw [up_k (n 58 (by omega))]; exact a11 j hj⟩
  by_cases e : y = x
  · subst e
    funext j
    by_cases ej : j = i
    · rw [ej, up_same, up_same]
    · rw [up_i ej, up_i ej, a7 y hy]
  · rw [up_k e, up_k e, a7 y hy]
theorem w48C {K : Int → dS → Prop} {f : Int} (hT : TK c q v N S) (hk : k ≤ N) (h : CR S k D dt rs σ) (hq : ∀ σ', CF S f (q k) σ' → K 0 σ') : wI (d + 2) 48 [.inr (.inr 68), .inl f] σ Q K :=
  w48 (CR_TK hT h) hk (CR_XA h) (fun σ' g => hq σ' (XB_CF h g))
theorem w47C {K : Int → dS → Prop} (hT : TK c q v N S) (hk : k ≤ N) (h : CR S k D dt rs σ) (hq : K (c k) σ) : wI (d + 2) 47 [.inr (.inr 68)] σ Q K := w47 (CR_TK hT h) hk (CR_XA h) hq
theorem w57C {K : Int → dS → Prop} {lo hi : Int} (hT : TK c q v N S) (hk : k ≤ N) (h : CR S k D dt rs σ) (h1 : fN c v k lo hi ≠ 0 → ∀ σ', CF S (fN c v k lo hi) (q k) σ' → K (-1) σ') (h0 : fN c v k lo hi = 0 → lo ≤ v k → v k ≤ hi → c k = 1 → ∀ σ', CR S (k + 1) D dt rs σ' → K (v k) σ') : wI (d + 3) 57 [.inr (.inr 68), .inl lo, .inl hi] σ Q K := by
  refine w57 (CR_TK hT h) hk (CR_XA h) (fun z σ' g => ?_) (fun z y σ' g => ?_) (fun z y1 y2 σ' g => ?_)
  · have e : fN c v k lo hi = 1 := if_pos z
    rw [e] at h1
    exact h1 ne_1 σ' (XB_CF h g)
  · have e : fN c v k lo hi = 2 := by unfold fN; rw [if_neg (fun u => u z), if_pos y]
    rw [e] at h1
    exact h1 ne_2 σ' (XB_CF h g)
  · have e : fN c v k lo hi = 0 := by unfold fN; rw [if_neg (fun u => u z), if_neg (by omega)]
    exact h0 e y1 y2 z σ' (XA_CR h g)
theorem w58C {K : Int → dS → Prop} (hT : TK c q v N S) (hk : k ≤ N) (h : CR S k D dt rs σ) (h1 : fR c v k (D 33 0) ≠ 0 → ∀ σ', CF S (fR c v k (D 33 0)) (q k) σ' → K (-1) σ') (h0 : fR c v k (D 33 0) = 0 → c k = 1 → v k < D 33 0 → K (v k) σ) : wI (d + 3) 58 [.inr (.inr 68)] σ Q K := by
  have hT' := CR_TK hT h
  obtain ⟨t1, t2, t3, t4⟩ := hT'
  have e33 : σ 33 0 = D 33 0 := by rw [h.2.2.2.2.2.2.1 33 (Or.inl rfl)]
  have ev : rat σ 67 701 (σ 68 2) = v k := by
    rw [h.2.2.1, rat_in (by omega) (by omega)]
    exact (t4 k hk).2.2
  refine c58 (b58_0 (w47C hT hk h ⟨fun z => ?_, fun z => w48C hT hk h (fun σ' g => ?_)⟩))
  · rw [ev]
    refine b58_1 ⟨fun y => b58_2 ?_, fun y => w48C hT hk h (fun σ' g => ?_)⟩
    · rw [e33]
      refine ⟨fun x => b58_3 ?_, fun x => w48C hT hk h (fun σ' g => ?_)⟩
      · refine h0 ?_ z x
        unfold fR; rw [if_neg (fun u => u z), if_neg (by omega), if_neg (by omega)]
      · have e : fR c v k (D 33 0) = 3 := by unfold fR; rw [if_neg (fun u => u z), if_neg (by omega), if_pos (by omega)]
        rw [e] at h1
        exact h1 ne_3 σ' g
    · have e : fR c v k (D 33 0) = 2 := by unfold fR; rw [if_neg (fun u => u z), if_pos (by omega)]
      rw [e] at h1
      exact h1 ne_2 σ' g
  · have e : fR c v k (D 33 0) = 1 := by unfold fR; rw [if_pos z]
    rw [e] at h1
    exact h1 ne_1 σ' g
theorem w28C {K : Int → dS → Prop} {a b : Int} (ha : 0 ≤ a) (ha2 : a < 10) (hb : 0 ≤ b) (hb2 : b < 10) (h : CR S k D dt rs σ) (hz : D 37 (10 * a + b) = 0 → K (-1) σ) (hn : D 37 (10 * a + b) ≠ 0 → K (D 37 (10 * a + b)) σ) : wI (d + 2) 28 [.inr (.inr 33), .inl a, .inl b] σ Q K := by
  refine c28_33 (b28_33_0 ?_)
  have e : rat σ 37 100 (wr (wr (a * 10) + b)) = D 37 (10 * a + b) := by
    rw [wr_id (x := a * 10) (by omega) (by omega), wr_id (by omega) (by omega), rat_in (by omega) (by omega), Int.mul_comm, h.2.2.2.2.2.2.1 37 (by omega)]
  rw [e]
  exact ⟨fun z => b28_33_1 (b28_33_2 (hn z)), fun z => b28_33_2 (hz (by omega))⟩
theorem CR_D (h : CR S k D dt rs σ) {x : Nat} (hx : dcl x) : σ x = D x := h.2.2.2.2.2.2.1 x hx
theorem x51 {K : Int → dS → Prop} (hT : TK c q v N S) (hk : k < N) (hV : PV D dt rs) (h : CR S k D dt rs σ) (h0 : (lnRoof c v k D).1 = 0 → ∀ σ', CR S (lnRoof c v k D).2.1 (lnRoof c v k D).2.2 dt rs σ' → K 1 σ') (h1 : (lnRoof c v k D).1 ≠ 0 → ∀ σ', CF S (lnRoof c v k D).1 (q (lnRoof c v k D).2.1) σ' → K 0 σ') : wI (d + 4) 51 [.inr (.inr 68)] σ Q K := by
  have hN := hT.2.1
  have e33 := CR_D h (x := 33) (Or.inl rfl)
  obtain ⟨⟨a1, _⟩, _⟩ := hV
  unfold lnRoof at h0 h1
  refine c51 (b51_0 ?_)
  rw [e33]
  refine ⟨fun z => b51_1 (fun σ1 e1 => ?_), fun z => w48C hT (by omega) h (fun σ' g => ⟨Or.inl rfl, ?_⟩)⟩
  · have g1 : CR S (k + 1) D dt rs σ1 := by rw [e1]; exact CR_nx (by omega) h
    rw [if_neg (by omega)] at h0 h1
    refine w57C (k := k + 1) hT hk g1 (fun y σ2 g2 σ3 e3 σ4 e4 => ⟨fun _ => b51_2 (b51_3 ⟨Or.inl rfl, ?_⟩), fun x => absurd rfl x⟩) (fun y y1 y2 y3 σ2 g2 σ3 e3 σ4 e4 => ⟨fun x => absurd x (by omega), fun _ => b51_3 ⟨Or.inr rfl, ?_⟩⟩)
    · rw [if_pos y] at h1
      refine h1 y σ4 (CF_w g2 (fun x hx => ?_))
      rw [e4, up_k (by omega), e3, rput_k (by omega)]
    · rw [if_neg (fun u => u y)] at h0
      have e33' := CR_D g2 (x := 33) (Or.inl rfl)
      rw [e33', rput_in (by omega) (by omega)] at e3
      rw [e3, up_k (k' := 33) (by decide), e33', wr_id (by omega) (by omega)] at e4
      refine h0 rfl σ4 ?_
      rw [e4]
      exact CR_up (Or.inl rfl) (CR_up (by omega) g2)
  · rw [if_pos (by omega)] at h1
    exact h1 ne_2 σ' g
theorem x52 {K : Int → dS → Prop} (hT : TK c q v N S) (hk : k < N) (hV : PV D dt rs) (h : CR S k D dt rs σ) (h0 : (lnFlight c v k D).1 = 0 → ∀ σ', CR S (lnFlight c v k D).2.1 (lnFlight c v k D).2.2 dt rs σ' → K 1 σ') (h1 : (lnFlight c v k D).1 ≠ 0 → ∀ σ', CF S (lnFlight c v k D).1 (q (lnFlight c v k D).2.1) σ' → K 0 σ') : wI (d + 4) 52 [.inr (.inr 68)] σ Q K := by
  have hN := hT.2.1
  have hT' := hT
  obtain ⟨t1, t2, t3, t4⟩ := hT'
  have e33 := CR_D h (x := 33) (Or.inl rfl)
  obtain ⟨⟨a1, a2, _⟩, _, hfl, _⟩ := hV
  unfold lnFlight at h0 h1
  refine c52 (b52_0 ?_)
  rw [e33]
  refine ⟨fun z => b52_1 (fun σ1 e1 => ?_), fun z => w48C hT (by omega) h (fun σ' g => ⟨Or.inl rfl, ?_⟩)⟩
  · have g1 : CR S (k + 1) D dt rs σ1 := by rw [e1]; exact CR_nx (by omega) h
    rw [if_neg (by omega)] at h0 h1
    have v1 := (t3 (k + 1)).1
    refine w58C (k := k + 1) hT hk g1 (fun y σ2 g2 => ⟨fun x => absurd rfl x, fun _ => ⟨Or.inl rfl, ?_⟩⟩) (fun y y1 y2 => ⟨fun _ => b52_2 (fun σ2 e2 => ?_), fun x => absurd (by omega) x⟩)
    · rw [if_pos y] at h1
      exact h1 y σ2 g2
    · rw [if_neg (fun u => u y)] at h0 h1
      have hk2 := TK_ne hT (k := k + 1) hk (by omega)
      have g2 : CR S (k + 2) D dt rs σ2 := by rw [e2]; exact CR_nx (by omega) g1
      have v2 := (t3 (k + 2)).1
      refine w58C (k := k + 2) hT hk2 g2 (fun x σ3 g3 => ⟨fun w => absurd rfl w, fun _ => ⟨Or.inl rfl, ?_⟩⟩) (fun x x1 x2 => ⟨fun _ => b52_3 ?_, fun w => absurd (by omega) w⟩)
      · rw [if_pos x] at h1
        exact h1 x σ3 g3
      · rw [if_neg (fun u => u x)] at h0 h1
        have bad : (v (k + 1) = v (k + 2) ∨ D 37 (10 * v (k + 1) + v (k + 2)) ≠ 0) → ∀ Q', (∀ σ', K 0 σ' → Q' (.inl (some (.inl 0))) σ') → B52_4 (d + 2) Q' σ2 := by
          intro hb Q' hq'
          refine b52_4 (w48C hT hk2 g2 (fun σ' g => ⟨Or.inl rfl, hq' σ' ?_⟩))
          rw [if_pos hb] at h1
          exact h1 (by show ¬ (4 : Int) = 0; decide) σ' g
        refine ⟨fun w => bad (Or.inl w.symm) _ (fun _ u => u), fun w => w28C (by omega) (by omega) (by omega) (by omega) g2 (fun u => ⟨fun _ => b52_5 (fun σ3 e3 => ?_), fun w2 => absurd rfl w2⟩) (fun u => ⟨fun w2 => absurd w2 (by have := (hfl (v (k + 1)) (v (k + 2)) (by omega) (by omega) (by omega) (by omega)).1.1; omega), fun _ => bad (Or.inr u) _ (fun _ u => u)⟩)⟩
        have hk3 := TK_ne hT (k := k + 2) hk2 (by omega)
        have g3 : CR S (k + 3) D dt rs σ3 := by rw [e3]; exact CR_nx (by omega) g2
        have nb : ¬ (v (k + 1) = v (k + 2) ∨ D 37 (10 * v (k + 1) + v (k + 2)) ≠ 0) := by
          rintro (w1 | w1)
          · exact w w1.symm
          · exact w1 u
        rw [if_neg nb] at h0 h1
        refine w57C (k := k + 3) hT hk3 g3 (fun y3 σ4 g4 => ⟨fun x => absurd rfl x, fun _ => ⟨Or.inl rfl, ?_⟩⟩) (fun y3 y4 y5 y6 σ4 g4 => ⟨fun _ => b52_6 (c27 (b27_0 (fun σ5 e5 σ6 e6 σ7 e7 => ⟨Or.inr rfl, ?_⟩))), fun x => absurd (by omega) x⟩)
        · rw [if_pos y3] at h1
          exact h1 y3 σ4 g4
        · rw [if_neg (fun u => u y3)] at h0
          rw [wr_id (x := v (k + 1) * 10) (by omega) (by omega), wr_id (by omega) (by omega), rput_in (by omega) (by omega), Int.mul_comm] at e5
          rw [wr_id (x := v (k + 2) * 10) (by omega) (by omega), wr_id (by omega) (by omega), rput_in (by omega) (by omega), Int.mul_comm] at e6
          have e33' : σ6 33 1 = D 33 1 := by rw [e6, up_k (by decide), e5, up_k (by decide), CR_D g4 (x := 33) (Or.inl rfl)]
          rw [e33', wr_id (by omega) (by omega), e6, e5] at e7
          refine h0 rfl σ7 ?_
          rw [e7]
          exact CR_up (Or.inl rfl) (CR_up (by omega) (CR_up (by omega) g4))
  · rw [if_pos (by omega)] at h1
    exact h1 ne_2 σ' g
theorem x55 {K : Int → dS → Prop} (hT : TK c q v N S) (hk : k < N) (hV : PV D dt rs) (h : CR S k D dt rs σ) (h0 : (lnRider c v k D).1 = 0 → ∀ σ', CR S (lnRider c v k D).2.1 (lnRider c v k D).2.2 dt rs σ' → K 1 σ') (h1 : (lnRider c v k D).1 ≠ 0 → ∀ σ', CF S (lnRider c v k D).1 (q (lnRider c v k D).2.1) σ' → K 0 σ') : wI (d + 4) 55 [.inr (.inr 68)] σ Q K := by
  have hN := hT.2.1
  have hT' := hT
  obtain ⟨t1, t2, t3, t4⟩ := hT'
  have e33 := CR_D h (x := 33) (Or.inl rfl)
  obtain ⟨⟨a1, a2, a3, a4, _⟩, _⟩ := hV
  unfold lnRider at h0 h1
  refine c55 (b55_0 ?_)
  rw [e33]
  refine ⟨fun z => b55_1 (fun σ1 e1 => ?_), fun z => w48C hT (by omega) h (fun σ' g => ⟨Or.inl rfl, ?_⟩)⟩
  · have g1 : CR S (k + 1) D dt rs σ1 := by rw [e1]; exact CR_nx (by omega) h
    rw [if_neg (by omega)] at h0 h1
    have v1 := (t3 (k + 1)).1
    refine w58C (k := k + 1) hT hk g1 (fun y σ2 g2 => ⟨fun x => absurd rfl x, fun _ => ⟨Or.inl rfl, ?_⟩⟩) (fun y y1 y2 => ⟨fun _ => b55_2 (fun σ2 e2 => ?_), fun x => absurd (by omega) x⟩)
    · rw [if_pos y] at h1
      exact h1 y σ2 g2
    · rw [if_neg (fun u => u y)] at h0 h1
      have hk2 := TK_ne hT (k := k + 1) hk (by omega)
      have g2 : CR S (k + 2) D dt rs σ2 := by rw [e2]; exact CR_nx (by omega) g1
      have v2 := (t3 (k + 2)).1
      refine w58C (k := k + 2) hT hk2 g2 (fun x σ3 g3 => ⟨fun w => absurd rfl w, fun _ => ⟨Or.inl rfl, ?_⟩⟩) (fun x x1 x2 => ⟨fun _ => b55_3 (fun σ3 e3 => ?_), fun w => absurd (by omega) w⟩)
      · rw [if_pos x] at h1
        exact h1 x σ3 g3
      · rw [if_neg (fun u => u x)] at h0 h1
        have hk3 := TK_ne hT (k := k + 2) hk2 (by omega)
        have g3 : CR S (k + 3) D dt rs σ3 := by rw [e3]; exact CR_nx (by omega) g2
        refine w57C (k := k + 3) hT hk3 g3 (fun y3 σ4 g4 => ⟨fun x => absurd rfl x, fun _ => b55_5 ⟨fun x => absurd rfl x, fun _ => ⟨Or.inl rfl, ?_⟩⟩⟩) (fun y3 y4 y5 y6 σ4 g4 => ⟨fun _ => b55_4 ?_, fun x => absurd (by omega) x⟩)
        · rw [if_pos y3] at h1
          exact h1 y3 σ4 g4
        · rw [if_neg (fun u => u y3)] at h0 h1
          have hk4 := TK_ne hT (k := k + 3) hk3 (by omega)
          refine w57C (k := k + 4) hT hk4 g4 (fun z3 σ5 g5 => b55_5 ⟨fun x => absurd rfl x, fun _ => ⟨Or.inl rfl, ?_⟩⟩) (fun z3 z4 z5 z6 σ5 g5 => b55_5 ⟨fun _ => b55_6 (fun s1 f1 s2 f2 s3 f3 s4 f4 s5 f5 => ⟨Or.inr rfl, ?_⟩), fun x => absurd (by omega) x⟩)
          · rw [if_pos z3] at h1
            exact h1 z3 σ5 g5
          · rw [if_neg (fun u => u z3)] at h0
            have e0 := CR_D g5 (x := 33) (Or.inl rfl)
            rw [e0, rput_in (by omega) (by omega)] at f1
            have e1' : s1 33 3 = D 33 3 := by rw [f1, up_k (by decide), e0]
            rw [e1', rput_in (by omega) (by omega)] at f2
            have e2' : s2 33 3 = D 33 3 := by rw [f2, up_k (by decide), e1']
            rw [e2', rput_in (by omega) (by omega)] at f3
            have e3' : s3 33 3 = D 33 3 := by rw [f3, up_k (by decide), e2']
            rw [e3', rput_in (by omega) (by omega)] at f4
            have e4' : s4 33 3 = D 33 3 := by rw [f4, up_k (by decide), e3']
            rw [e4', wr_id (by omega) (by omega), f4, f3, f2, f1] at f5
            refine h0 rfl s5 ?_
            rw [f5]
            exact CR_up (Or.inl rfl) (CR_up (by omega) (CR_up (by omega) (CR_up (by omega) (CR_up (by omega) g5))))
  · rw [if_pos (by omega)] at h1
    exact h1 ne_2 σ' g
end CL
