/-! THE REFERENCE READS lines: owls -/
section MO
variable {c q v : Nat → Int} {N : Nat} {Mk : Nat → dS → Prop} {S : dS} {d : Nat} {Q : dR → dS → Prop} {σ : dS} {k : Nat} {D : dS} {dt : Bool} {rs : List (List Int)}
/-- what is not yet counted may change -/
theorem MR_Dup {y : Nat} {i x : Int} (hlen : ∀ o, 0 ≤ o → o < D 33 2 → D 43 o ≤ 8) (h : MR Mk S k D dt rs σ) (hy : (y = 43 ∧ D 33 2 ≤ i) ∨ (y = 45 ∧ 8 * D 33 2 ≤ i)) : MR Mk S k (up D y i x) dt rs σ := by
  obtain ⟨a1, a2, a3, a4, b1, b2, b3, b4, b5, b6, b7⟩ := h
  have g33 : (up D y i x) 33 = D 33 := up_k (by omega)
  have gk : ∀ z, z ≠ 43 → z ≠ 45 → (up D y i x) z = D z := fun z q1 q2 => up_k (by omega)
  refine ⟨a1, a2, a3, ?_, ?_, ?_, fun o o0 o1 => ?_, ?_, b5, b6, b7⟩
  · rw [g33]; exact a4
  · rw [g33, gk 35 (by decide) (by decide)]; exact b1
  · rw [gk 37 (by decide) (by decide)]; exact b2
  · rw [g33] at o1
    obtain ⟨x1, x2, x3, x4⟩ := b3 o o0 o1
    have hl := hlen o o0 o1
    have e43 : (up D y i x) 43 o = D 43 o := up_z (fun e => by omega)
    rw [e43, gk 39 (by decide) (by decide), gk 41 (by decide) (by decide)]
    refine ⟨x1, x2, x3, fun i' i0 i1 => ?_⟩
    rw [up_z (fun e => by omega)]
    exact x4 i' i0 i1
  · rw [g33, gk 47 (by decide) (by decide), gk 49 (by decide) (by decide), gk 51 (by decide) (by decide), gk 53 (by decide) (by decide)]; exact b4
def OSt (o kind m : Int) (L : Int) (E : dS) (σ : dS) : Prop := σ 165 o = kind ∧ σ 166 o = m ∧ σ 167 o = L ∧ ∀ i, 0 ≤ i → i < L → σ 168 (8 * o + i) = E 45 (8 * o + i)
theorem MR_owl {kind m : Int} (hT : TM c q v N Mk) (h : MR Mk S k D dt rs σ) (ho : OSt (D 33 2) kind m (D 43 (D 33 2)) D σ) : MR Mk S k (up (up (up D 39 (D 33 2) kind) 41 (D 33 2) m) 33 2 (D 33 2 + 1)) dt rs (up σ 153 29 (D 33 2 + 1)) := by
  obtain ⟨a1, a2, a3, ⟨n1, n2, n3, n4, n5, n6⟩, b1, b2, b3, b4, b5, b6, b7⟩ := h
  have gD : ∀ y, y ≠ 33 → y ≠ 39 → y ≠ 41 → (up (up (up D 39 (D 33 2) kind) 41 (D 33 2) m) 33 2 (D 33 2 + 1)) y = D y := fun y q1 q2 q3 => by rw [up_k q1, up_k q3, up_k q2]
  have g33 : ∀ j, j ≠ 2 → (up (up (up D 39 (D 33 2) kind) 41 (D 33 2) m) 33 2 (D 33 2 + 1)) 33 j = D 33 j := fun j hj => by rw [up_i hj, up_k (by decide), up_k (by decide)]
  have gs : ∀ j, j ≠ 29 → (up σ 153 29 (D 33 2 + 1)) 153 j = σ 153 j := fun j hj => up_i hj
  have gk : ∀ y, y ≠ 153 → (up σ 153 29 (D 33 2 + 1)) y = σ y := fun y hy => up_k hy
  refine ⟨mfl_j (by omega) a1, MR_Mk hT (by decide) a2 rfl, by rw [gs 16 (by decide), gs 17 (by decide)]; exact a3, ?_, ?_, ?_, fun o o0 o1 => ?_, ?_, ?_, ?_, ?_⟩
  · rw [up_same, up_same, gs 27 (by decide), gs 28 (by decide), gs 30 (by decide), gs 31 (by decide), gs 32 (by decide), g33 0 (by decide), g33 1 (by decide), g33 3 (by decide), g33 4 (by decide)]
    exact ⟨n1, n2, rfl, n4, n5, n6⟩
  · rw [g33 0 (by decide), gk 163 (by decide), gD 35 (by decide) (by decide) (by decide)]; exact b1
  · rw [gk 164 (by decide), gD 37 (by decide) (by decide) (by decide)]; exact b2
  · rw [up_same] at o1
    rw [gk 165 (by decide), gk 166 (by decide), gk 167 (by decide), gk 168 (by decide), gD 43 (by decide) (by decide) (by decide), gD 45 (by decide) (by decide) (by decide), up_k (k' := 39) (by decide), up_k (k' := 39) (by decide), up_k (k' := 41) (by decide)]
    by_cases e : o = D 33 2
    · rw [e, up_same, up_same]
      exact ho
    · rw [up_i e, up_i e, up_k (k' := 41) (by decide)]
      exact b3 o o0 (by omega)
  · rw [g33 3 (by decide), gk 169 (by decide), gD 47 (by decide) (by decide) (by decide), gD 49 (by decide) (by decide) (by decide), gD 51 (by decide) (by decide) (by decide), gD 53 (by decide) (by decide) (by decide)]; exact b4
  · rw [gk 170 (by decide)]; exact b5
  · rw [gs 33 (by decide)]; exact b6
  · exact seg_k (gk 171 (by decide)) b7
theorem MR_owl' {o kind m : Int} (e : D 33 2 = o) (hT : TM c q v N Mk) (h : MR Mk S k D dt rs σ) (ho : OSt o kind m (D 43 o) D σ) : MR Mk S k (up (up (up D 39 o kind) 41 o m) 33 2 (o + 1)) dt rs (up σ 153 29 (o + 1)) := by
  subst e
  exact MR_owl hT h ho
theorem l191 {o kind m : Int} (o0 : 0 ≤ o) (o1 : o < 5) (hT : TM c q v N Mk) (c0 : c N = 0) (v0 : ∀ k, 0 ≤ v k) : ∀ (n k : Nat) (D : dS) (x3 : Int) (σ : dS), n ≤ 8 → k ≤ N → D 33 2 = o → D 33 0 ≤ 10 → (∀ o', 0 ≤ o' → o' < D 33 2 → D 43 o' ≤ 8) → (∀ i, 0 ≤ i → i < 8 - (n : Int) → 0 ≤ D 45 (8 * o + i) ∧ D 45 (8 * o + i) < 10) → ((x3 = 1 ∧ (n = 8 ∨ c k = 1)) ∨ (x3 = 0 ∧ n < 8 ∧ c k ≠ 1)) → MR Mk S k D dt rs σ → OSt o kind m (8 - (n : Int)) D σ →
    ((lnWay c v o n k D).1 = 0 → ∀ σ', MR Mk S (lnWay c v o n k D).2.1 (lnWay c v o n k D).2.2 dt rs σ' → OSt o kind m ((lnWay c v o n k D).2.2 43 o) (lnWay c v o n k D).2.2 σ' → Q (.inl none) (up σ' 153 29 (o + 1))) → ((lnWay c v o n k D).1 ≠ 0 → ∀ σ', MF S (lnWay c v o n k D).1 (q (lnWay c v o n k D).2.1) σ' → Q (.inl none) σ') → B191_3 (d + 5) Q o x3 σ := by
  have done : ∀ (k : Nat) (D : dS) (σ : dS), D 33 2 = o → MR Mk S k D dt rs σ → Q (.inl none) (up σ 153 29 (o + 1)) → B191_9 (d + 5) Q σ := by
    intro k D σ hD h hq
    refine b191_9 (w173g h.2.2.1.1 ⟨fun u => absurd u (by decide), fun _ s f => b191_10 ?_⟩)
    rw [h.2.2.2.1.2.2.1, hD, wr_id (by omega) (by omega)] at f
    rw [f]; exact hq
  have bad5 : ∀ (f p x : Int) (σ : dS), f ≠ 0 → MF S f p σ → Q (.inl none) σ → B191_5 (d + 5) Q o x σ := by
    intro f p x σ hf g hq
    exact b191_5 (w173b (by rw [g.2.1]; exact hf) ⟨fun u => absurd rfl u, fun _ => hq⟩)
  intro n
  induction n with
  | zero =>
    intro k D x3 σ hn hk hD hR hlen hw hx h hS h0 h1
    unfold lnWay at h0 h1
    obtain ⟨S1, S2, S3, S4⟩ := hS
    rcases hx with ⟨e, hx⟩ | ⟨e, hx1, hx2⟩
    · have hc : c k = 1 := by omega
      have ck : ¬ c k ≠ 1 := fun u => u hc
      rw [if_neg ck] at h1
      rw [e]
      refine b191_3 ⟨fun u => absurd u (by decide), fun _ => w173g h.2.2.1.1 ⟨fun u => absurd u (by decide), fun _ => ⟨o0, o1, ?_⟩⟩⟩
      rw [S3]
      refine ⟨fun u => absurd (by rfl) u, fun _ => w172M hT hk h (fun σ' g => b191_4 (w177B (by rw [g.2.1]; exact ne_2) (w173b (by rw [g.2.1]; exact ne_2) ⟨fun _ => bad5 2 _ 0 σ' ne_2 g (h1 ne_2 σ' g), fun u => absurd rfl u⟩)))⟩
    · rw [if_pos hx2] at h0
      dsimp only at h0
      rw [e]
      refine b191_3 ⟨fun _ => done k D σ hD h (h0 rfl σ (MR_Dup hlen h (Or.inl ⟨rfl, by omega⟩)) ⟨S1, S2, ?_, fun i i0 i1 => ?_⟩), fun u => absurd rfl u⟩
      · rw [S3, up_same]; rfl
      · rw [up_same] at i1
        rw [up_k (by decide)]
        exact S4 i i0 i1
  | succ n ih =>
    intro k D x3 σ hn hk hD hR hlen hw hx h hS h0 h1
    have ei : (8 : Int) - ((n + 1 : Nat) : Int) = 7 - (n : Int) := by omega
    rw [ei] at hw hS
    unfold lnWay at h0 h1
    obtain ⟨S1, S2, S3, S4⟩ := hS
    rcases hx with ⟨e, hx⟩ | ⟨e, hx1, hx2⟩
    · have hc : ¬ (n < 7 ∧ c k ≠ 1) := by omega
      rw [if_neg hc] at h0 h1
      rw [e]
      refine b191_3 ⟨fun u => absurd u (by decide), fun _ => w173g h.2.2.1.1 ⟨fun u => absurd u (by decide), fun _ => ⟨o0, o1, ?_⟩⟩⟩
      rw [S3]
      refine ⟨fun _ => b191_4 ?_, fun u => absurd (by omega) u⟩
      refine w177M (d := d + 2) hT hk h hR (fun y σ2 g2 => ?_) (fun y y1 y2 => ?_)
      · rw [if_pos y] at h1
        exact w173b (by rw [g2.2.1]; exact y) ⟨fun _ => bad5 _ _ 0 σ2 y g2 (h1 y σ2 g2), fun u => absurd rfl u⟩
      · rw [if_neg (fun u => u y)] at h0 h1
        have vk := v0 k
        have hlt := one_lt c0 hk (by omega)
        have step : ¬ (n < 7 ∧ D 37 (10 * D 45 (8 * o + (7 - n) - 1) + v k) = 0) → B191_5 (d + 5) Q o (v k) σ := by
          intro hw2
          rw [if_neg hw2] at h0 h1
          refine b191_5 (w173g h.2.2.1.1 ⟨fun _ => b191_6 ⟨o0, o1, ?_⟩, fun u => absurd (by decide) u⟩)
          rw [S3, wr_id (x := 8 * o) (by omega) (by omega), wr_id (x := 8 * o + (7 - (n : Int))) (by omega) (by omega)]
          refine ⟨by omega, by omega, fun s1 f1 => ⟨o0, o1, o0, o1, fun s2 f2 => ?_⟩⟩
          have e167 : s1 167 o = 7 - n := by rw [f1, up_k (by decide)]; exact S3
          rw [e167, wr_id (by omega) (by omega)] at f2
          have r1 : MR Mk S k D dt rs s1 := by
            rw [f1]
            exact MR_w hT (by decide) hlen h (fun e => by omega) (fun e => by omega) (fun _ => by omega) (fun e => by omega) (fun e => by omega)
          have r2 : MR Mk S k D dt rs s2 := by
            rw [f2]
            exact MR_w hT (by decide) hlen r1 (fun e => by omega) (fun _ => by omega) (fun e => by omega) (fun e => by omega) (fun e => by omega)
          have r3 : MR Mk S k (up D 45 (8 * o + (7 - n)) (v k)) dt rs s2 := MR_Dup hlen r2 (Or.inr ⟨rfl, by omega⟩)
          refine MR_goes hT hlt r3 (fun s3 k3 r4 => ?_)
          have hM3 := hT.1 (k + 1) s3 hlt r4.2.1
          have es : ∀ i, i < 8 - (n : Int) → i ≠ 7 - n → s3 168 (8 * o + i) = σ 168 (8 * o + i) := fun i i1 i2 => by rw [k3 168 (by decide), f2, up_k (by decide), f1, up_i (by omega)]
          have OS3 : OSt o kind m (8 - (n : Int)) (up D 45 (8 * o + (7 - n)) (v k)) s3 := by
            refine ⟨by rw [k3 165 (by decide), f2, up_k (by decide), f1, up_k (by decide)]; exact S1, by rw [k3 166 (by decide), f2, up_k (by decide), f1, up_k (by decide)]; exact S2, by rw [k3 167 (by decide), f2, up_same]; omega, fun i i0 i1 => ?_⟩
            by_cases e' : i = 7 - n
            · rw [e', up_same, k3 168 (by decide), f2, up_k (by decide), f1, up_same]
            · rw [es i i1 e', up_i (by omega)]
              exact S4 i i0 (by omega)
          have next : ∀ x3, ((x3 = 1 ∧ (n = 8 ∨ c (k + 1) = 1)) ∨ (x3 = 0 ∧ n < 8 ∧ c (k + 1) ≠ 1)) → B191_3 (d + 5) Q o x3 s3 := by
            intro x3 hx3
            refine ih (k + 1) _ x3 s3 (by omega) hlt (by rw [up_k (by decide)]; exact hD) (by rw [up_k (by decide)]; exact hR) (by rw [up_k (k' := 33) (by decide), up_k (k' := 43) (by decide)]; exact hlen) (fun i i0 i1 => ?_) hx3 r4 OS3 h0 h1
            by_cases e' : i = 7 - n
            · rw [e', up_same]; omega
            · rw [up_i (by omega)]; exact hw i i0 (by omega)
          refine ⟨fun u => b191_7 (b191_8 (next 0 (Or.inr ⟨rfl, by omega, fun w => u (hM3.2.2.1.mpr w)⟩))), fun u => b191_8 (next 1 (Or.inl ⟨rfl, Or.inr (hM3.2.2.1.mp (by omega))⟩))⟩
        refine w173g h.2.2.1.1 ⟨fun u => absurd u (by decide), fun _ => ⟨o0, o1, ?_⟩⟩
        rw [S3]
        refine ⟨fun u => step (by omega), fun u => ⟨o0, o1, ?_⟩⟩
        have ew1 : wr (wr (wr (8 * o) + (7 - (n : Int))) - 1) = 8 * o + (7 - n) - 1 := by
          rw [wr_id (x := 8 * o) (by omega) (by omega), wr_id (x := 8 * o + (7 - (n : Int))) (by omega) (by omega), wr_id (by omega) (by omega)]
        rw [ew1]
        have e168 : σ 168 (8 * o + (7 - n) - 1) = D 45 (8 * o + (7 - n) - 1) := by
          have := S4 (7 - n - 1) (by omega) (by omega)
          rw [show 8 * o + (7 - (n : Int) - 1) = 8 * o + (7 - n) - 1 by omega] at this
          exact this
        have pw := hw (7 - n - 1) (by omega) (by omega)
        rw [show 8 * o + (7 - (n : Int) - 1) = 8 * o + (7 - n) - 1 by omega] at pw
        rw [e168]
        have ew2 : wr (wr (10 * D 45 (8 * o + (7 - n) - 1)) + v k) = 10 * D 45 (8 * o + (7 - n) - 1) + v k := by
          rw [wr_id (x := 10 * D 45 (8 * o + (7 - n) - 1)) (by omega) (by omega), wr_id (by omega) (by omega)]
        rw [ew2]
        refine ⟨by omega, by omega, by omega, by omega, ?_⟩
        rw [h.2.2.2.2.2.1 _ (by omega) (by omega)]
        refine ⟨fun w => step (fun z => w z.2), fun w => w172M hT hk h (fun σ' g => bad5 6 _ _ σ' (by decide) g ?_)⟩
        rw [if_pos ⟨by omega, by omega⟩] at h1
        exact h1 (by show ¬ (6 : Int) = 0; decide) σ' g
    · rw [if_pos ⟨by omega, hx2⟩] at h0
      dsimp only at h0
      rw [e]
      refine b191_3 ⟨fun _ => done k D σ hD h (h0 rfl σ (MR_Dup hlen h (Or.inl ⟨rfl, by omega⟩)) ⟨S1, S2, ?_, fun i i0 i1 => ?_⟩), fun u => absurd rfl u⟩
      · rw [S3, up_same]
      · rw [up_same] at i1
        rw [up_k (by decide)]
        exact S4 i i0 i1
theorem w191 {K : dS → Prop} {kind : Int} (hT : TM c q v N Mk) (c0 : c N = 0) (v0 : ∀ k, 0 ≤ v k) (hk : k < N) (hV : PV D dt rs) (h : MR Mk S k D dt rs σ) (h0 : (lnOwl c v kind k D).1 = 0 → ∀ σ', MR Mk S (lnOwl c v kind k D).2.1 (lnOwl c v kind k D).2.2 dt rs σ' → K σ') (h1 : (lnOwl c v kind k D).1 ≠ 0 → ∀ σ', MF S (lnOwl c v kind k D).1 (q (lnOwl c v kind k D).2.1) σ' → K σ') : wV (d + 7) 191 [.inr (.inr 153), .inl kind] σ Q K := by
  obtain ⟨⟨p1, p2, p3, p4, _⟩, _, hfl, how, _⟩ := hV
  have hlen : ∀ o, 0 ≤ o → o < D 33 2 → D 43 o ≤ 8 := fun o o0 o1 => (how o o0 o1).2.2.1.2
  unfold lnOwl at h0 h1
  have n29 := h.2.2.2.1.2.2.1
  have hg := h.2.2.1.1
  refine c191 (b191_0 ?_)
  rw [n29]
  refine ⟨fun z => b191_1 (w173g hg ⟨fun _ => b191_2 ?_, fun y => absurd (by decide) y⟩), fun z => w172M hT (by omega) h (fun σ' g => b191_1 (w173b (by rw [g.2.1]; exact ne_2) ⟨fun y => absurd rfl y, fun _ => ?_⟩))⟩
  · rw [if_neg (by omega)] at h0 h1
    refine MR_goes hT hk h (fun σ1 _ g1 => ?_)
    have m29 := g1.2.2.2.1.2.2.1
    rw [m29]
    refine ⟨by omega, by omega, fun s1 f1 => ?_⟩
    have r1 : MR Mk S (k + 1) D dt rs s1 := by
      rw [f1]
      exact MR_w hT (by decide) hlen g1 (fun e => by omega) (fun _ => by omega) (fun e => by omega) (fun e => by omega) (fun e => by omega)
    refine w176M (k := k + 1) (by decide) hT c0 hk r1 (fun y yv σ2 g2 => ⟨by omega, by omega, fun s2 f2 => ⟨by omega, by omega, fun s3 f3 => ?_⟩⟩) (fun y y1 y2 y3 σ2 k2 g2 => ⟨by omega, by omega, fun s2 f2 => ⟨by omega, by omega, fun s3 f3 => ?_⟩⟩)
    · rw [if_pos y] at h1
      have b3 : MF S (fN c v (k + 1) 0 300) (q (k + 1)) s3 := by
        rw [f3, f2]
        exact MF_c (by decide) (MF_c (by decide) g2)
      have nb : s3 153 16 ≠ 0 := by rw [b3.2.1]; exact y
      exact b191_3 ⟨fun u => absurd u (by decide), fun _ => w173b nb ⟨fun _ => b191_9 (w173b nb ⟨fun _ => b191_10 (h1 y s3 b3), fun u => absurd rfl u⟩), fun u => absurd rfl u⟩⟩
    · rw [if_neg (fun u => u y)] at h0 h1
      have hk2 := one_lt c0 (k := k + 1) hk (by omega)
      have r2 : MR Mk S (k + 2) D dt rs s2 := by
        rw [f2]
        exact MR_w hT (by decide) hlen g2 (fun e => by omega) (fun _ => by omega) (fun e => by omega) (fun e => by omega) (fun e => by omega)
      have r3 : MR Mk S (k + 2) D dt rs s3 := by
        rw [f3]
        exact MR_w hT (by decide) hlen r2 (fun e => by omega) (fun _ => by omega) (fun e => by omega) (fun e => by omega) (fun e => by omega)
      have OS3 : OSt (D 33 2) kind (v (k + 1)) (8 - ((8 : Nat) : Int)) D s3 := by
        refine ⟨by rw [f3, up_k (by decide), f2, up_k (by decide), k2 165 (by decide), f1, up_same], by rw [f3, up_k (by decide), f2, up_same], by rw [f3, up_same]; rfl, fun i i0 i1 => by omega⟩
      have wk' := way_k (N := N) c0 v0 (o := D 33 2) (D0 := D) 8 (k + 2) D (Nat.le_refl 8) hk2 ⟨fun _ _ _ => rfl, fun _ _ => rfl, fun _ _ => rfl⟩ (fun i i0 i1 => by omega) (fun i i0 i1 => by omega)
      refine l191 p3.1 (by omega) hT c0 v0 8 (k + 2) D 1 s3 (Nat.le_refl 8) hk2 rfl p1.2 hlen (fun i i0 i1 => by omega) (Or.inl ⟨rfl, Or.inl rfl⟩) r3 OS3 (fun z3 σ' g' os => ?_) (fun z3 σ' g' => ?_)
      · rw [if_neg (fun u => u z3)] at h0
        have w33 : (lnWay c v (D 33 2) 8 (k + 2) D).2.2 33 = D 33 := (wk'.2.2 z3).1.1 33 (by decide) (by decide)
        exact h0 rfl _ (MR_owl' (by rw [w33]) hT g' os)
      · rw [if_pos z3] at h1
        exact h1 z3 σ' g'
  · rw [if_pos (by omega)] at h1
    exact h1 ne_2 σ' g
end MO
