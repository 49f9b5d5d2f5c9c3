/-! THE CLASS READS lines: ways, owls, rules, the city -/
section CM
variable {c q v : Nat → Int} {N : Nat} {S : dS} {d : Nat} {Q : dR → dS → Prop} {σ : dS} {k : Nat} {D : dS} {dt : Bool} {rs : List (List Int)}
theorem l54 {o : Int} (o0 : 0 ≤ o) (o1 : o < 5) (hT : TK c q v N S) : ∀ (n k : Nat) (D : dS) (ah : Int) (σ : dS), n ≤ 8 → k ≤ N → D 33 0 ≤ 10 → (∀ a b, 0 ≤ a → a < 10 → 0 ≤ b → b < 10 → 0 ≤ D 37 (10 * a + b)) → (n < 8 → ah = D 45 (8 * o + (8 - n) - 1) ∧ 0 ≤ ah ∧ ah < 10) → CR S k D dt rs σ →
    ((lnWay c v o n k D).1 = 0 → ∀ σ', CR S (lnWay c v o n k D).2.1 (lnWay c v o n k D).2.2 dt rs σ' → Q (.inl (some (.inl 1))) σ') → ((lnWay c v o n k D).1 ≠ 0 → ∀ σ', CF S (lnWay c v o n k D).1 (q (lnWay c v o n k D).2.1) σ' → Q (.inl (some (.inl 0))) σ') → B54_1 (d + 2) Q o ah (8 - (n : Int)) σ
  | 0, k, D, ah, σ, hn, hk, hR, hfl, hah, h, h0, h1 => by
    have hN := hT.2.1
    unfold lnWay at h0 h1
    refine b54_1 ⟨fun z => absurd z (by omega), fun _ => ⟨fun z => absurd z (by omega), fun _ => w47C hT hk h ⟨fun z => b54_2 ⟨fun y => absurd (by omega) y, fun _ => w48C hT hk h (fun σ' g => ⟨Or.inl rfl, ?_⟩)⟩, fun z σ2 e2 => ⟨Or.inr rfl, ?_⟩⟩⟩⟩
    · rw [if_neg (fun u => u z)] at h1
      exact h1 ne_2 σ' g
    · rw [if_pos z] at h0
      rw [rput_in (by omega) (by omega), show (8 : Int) - ((0 : Nat) : Int) = 8 by rfl] at e2
      refine h0 rfl σ2 ?_
      rw [e2]
      exact CR_up (by omega) h
  | n + 1, k, D, ah, σ, hn, hk, hR, hfl, hah, h, h0, h1 => by
    have hN := hT.2.1
    have ei : (8 : Int) - ((n + 1 : Nat) : Int) = 7 - (n : Int) := by omega
    rw [ei]
    unfold lnWay at h0 h1
    have go : ¬ (n < 7 ∧ c k ≠ 1) → B54_2 (d + 2) Q o ah (7 - (n : Int)) σ := by
      intro hc
      rw [if_neg hc] at h0 h1
      refine b54_2 ⟨fun _ => b54_3 (w58C hT hk h (fun y σ2 g2 => ⟨fun x => absurd rfl x, fun _ => ⟨Or.inl rfl, ?_⟩⟩) (fun y y1 y2 => ⟨fun _ => b54_4 ?_, fun x => absurd (by have := (hT.2.2.1 k).1; omega) x⟩)), fun z => absurd (by omega) z⟩
      · rw [if_pos y] at h1
        exact h1 y σ2 g2
      · rw [if_neg (fun u => u y)] at h0 h1
        have vk := (hT.2.2.1 k).1
        have hlt := TK_ne hT hk (by omega)
        have step : ¬ (n < 7 ∧ D 37 (10 * D 45 (8 * o + (7 - n) - 1) + v k) = 0) → B54_5 (d + 2) Q o (7 - (n : Int)) (v k) σ := by
          intro hw
          rw [if_neg hw] at h0 h1
          refine b54_5 (fun σ1 e1 σ2 e2 => ?_)
          rw [wr_id (x := o * 8) (by omega) (by omega), wr_id (by omega) (by omega), rput_in (by omega) (by omega), Int.mul_comm] at e1
          rw [wr_id (x := 7 - (n : Int) + 1) (by omega) (by omega), show 7 - (n : Int) + 1 = 8 - (n : Int) by omega]
          have g1 : CR S k (up D 45 (8 * o + (7 - n)) (v k)) dt rs σ1 := by rw [e1]; exact CR_up (by omega) h
          have g2 : CR S (k + 1) (up D 45 (8 * o + (7 - n)) (v k)) dt rs σ2 := by rw [e2]; exact CR_nx (by omega) g1
          refine l54 o0 o1 hT n (k + 1) _ (v k) σ2 (by omega) hlt (by rw [up_k (by decide)]; exact hR) (by rw [up_k (by decide)]; exact hfl) (fun _ => ⟨?_, vk, by omega⟩) g2 h0 h1
          rw [show 8 * o + (8 - (n : Int)) - 1 = 8 * o + (7 - n) by omega, up_same]
        refine ⟨fun z => step (by omega), fun z => ?_⟩
        obtain ⟨ea, ea0, ea1⟩ := hah (by omega)
        have e45 : 8 * o + (8 - ((n + 1 : Nat) : Int)) - 1 = 8 * o + (7 - n) - 1 := by omega
        rw [e45] at ea
        have nn := hfl ah (v k) ea0 ea1 vk (by omega)
        refine w28C ea0 ea1 vk (by omega) h (fun u => ⟨fun w => absurd rfl w, fun _ => w48C hT hk h (fun σ' g => ⟨Or.inl rfl, ?_⟩)⟩) (fun u => ⟨fun _ => step (fun w => u (by rw [ea]; exact w.2)), fun w => absurd (by omega) w⟩)
        rw [if_pos ⟨by omega, by rw [← ea]; exact u⟩] at h1
        exact h1 (by show ¬ (6 : Int) = 0; decide) σ' g
    refine b54_1 ⟨fun z => absurd z (by omega), fun _ => ⟨fun z => go (by omega), fun z => w47C hT hk h ⟨fun y => go (fun u => u.2 y), fun y σ2 e2 => ⟨Or.inr rfl, ?_⟩⟩⟩⟩
    rw [if_pos ⟨by omega, y⟩] at h0
    rw [rput_in (by omega) (by omega)] at e2
    refine h0 rfl σ2 ?_
    rw [e2]
    exact CR_up (by omega) h
theorem x53 {K : Int → dS → Prop} {kind : Int} (hT : TK c q v N S) (hk : k < N) (hV : PV D dt rs) (h : CR S k D dt rs σ) (h0 : (lnOwl c v kind k D).1 = 0 → ∀ σ', CR S (lnOwl c v kind k D).2.1 (lnOwl c v kind k D).2.2 dt rs σ' → K 1 σ') (h1 : (lnOwl c v kind k D).1 ≠ 0 → ∀ σ', CF S (lnOwl c v kind k D).1 (q (lnOwl c v kind k D).2.1) σ' → K 0 σ') : wI (d + 5) 53 [.inr (.inr 68), .inl kind] σ Q K := by
  have hN := hT.2.1
  have e33 := CR_D h (x := 33) (Or.inl rfl)
  have v0 : ∀ k, 0 ≤ v k := fun k => (hT.2.2.1 k).1
  obtain ⟨⟨a1, a2, a3, _⟩, _, hfl, _⟩ := hV
  unfold lnOwl at h0 h1
  refine c53 (b53_0 ?_)
  rw [e33]
  refine ⟨fun z => b53_1 (fun σ1 e1 => ?_), fun z => w48C hT (by omega) h (fun σ' g => ⟨Or.inl rfl, ?_⟩)⟩
  · have g1 : CR S (k + 1) D dt rs σ1 := by rw [e1]; exact CR_nx (by omega) h
    rw [if_neg (by omega)] at h0 h1
    refine w57C (k := k + 1) hT hk g1 (fun y σ2 g2 => ⟨fun _ => b53_2 ⟨Or.inl rfl, ?_⟩, fun x => absurd rfl x⟩) (fun y y1 y2 y3 σ2 g2 => ⟨fun x => absurd x (by omega), fun _ => ?_⟩)
    · rw [if_pos y] at h1
      exact h1 y σ2 g2
    · rw [if_neg (fun u => u y)] at h0 h1
      have hk2 := TK_ne hT (k := k + 1) hk (by omega)
      have e33' := CR_D g2 (x := 33) (Or.inl rfl)
      rw [e33']
      have wk' := way_k (N := N) hT.1 v0 (o := D 33 2) (D0 := D) 8 (k + 2) D (Nat.le_refl 8) hk2 ⟨fun _ _ _ => rfl, fun _ _ => rfl, fun _ _ => rfl⟩ (fun i i0 i1 => by omega) (fun i i0 i1 => by omega)
      refine c54 (b54_0 (l54 (dt := dt) (rs := rs) a3.1 (by omega) hT 8 (k + 2) D (-1) σ2 (Nat.le_refl 8) hk2 a1.2 (fun a b q1 q2 q3 q4 => (hfl a b q1 q2 q3 q4).1.1) (fun z => by omega) g2 (fun z3 σ3 g3 => ⟨fun _ => b53_3 (fun s1 f1 s2 f2 s3 f3 => ⟨Or.inr rfl, ?_⟩), fun x => absurd (by decide) x⟩) (fun z3 σ3 g3 => ⟨fun x => absurd rfl x, fun _ => b53_2 ⟨Or.inl rfl, ?_⟩⟩)))
      · rw [if_neg (fun u => u z3)] at h0
        have w33 : (lnWay c v (D 33 2) 8 (k + 2) D).2.2 33 = D 33 := (wk'.2.2 z3).1.1 33 (by decide) (by decide)
        have e3 : σ3 33 2 = D 33 2 := by rw [CR_D g3 (x := 33) (Or.inl rfl), w33]
        rw [e3, rput_in (by omega) (by omega)] at f1
        have e4 : s1 33 2 = D 33 2 := by rw [f1, up_k (by decide), e3]
        rw [e4, rput_in (by omega) (by omega)] at f2
        have e5 : s2 33 2 = D 33 2 := by rw [f2, up_k (by decide), e4]
        rw [e5, wr_id (by omega) (by omega), f2, f1] at f3
        refine h0 rfl s3 ?_
        rw [f3]
        exact CR_up (Or.inl rfl) (CR_up (by omega) (CR_up (by omega) g3))
      · rw [if_pos z3] at h1
        exact h1 z3 σ3 g3
  · rw [if_pos (by omega)] at h1
    exact h1 ne_2 σ' g
theorem CR_dt (h : CR S k D dt rs σ) : CR S k D true rs (up σ 68 5 1) := by
  obtain ⟨a1, a2, a3, a4, a5, a6, a7, a8, a9, a10, a11⟩ := h
  exact ⟨fun y h1 h2 => by rw [up_k h2]; exact a1 y h1 h2, fun j hj => by rw [up_i (by omega)]; exact a2 j hj, by rw [up_i (by decide)]; exact a3, by rw [up_i (by decide)]; exact a4, by rw [up_i (by decide)]; exact a5, by rw [up_same]; rfl, fun x hx => by rw [up_k (by omega)]; exact a7 x hx, by rw [up_k (by decide)]; exact a8, by rw [up_k (by decide)]; exact a9, seg_k (up_k (by decide)) a10, fun i hi => by rw [up_k (by decide)]; exact a11 i hi⟩
/-- one line -/
def LQ (c q v : Nat → Int) (S : dS) (k : Nat) (D : dS) (dt : Bool) (rs : List (List Int)) (K : Int → dS → Prop) : Prop :=
  ((lnOne c v k D dt rs).1 = 0 → ∀ σ', CR S (lnOne c v k D dt rs).2.1 (lnOne c v k D dt rs).2.2.1 (lnOne c v k D dt rs).2.2.2.1 (lnOne c v k D dt rs).2.2.2.2 σ' → K 1 σ') ∧ ((lnOne c v k D dt rs).1 ≠ 0 → ∀ σ', CF S (lnOne c v k D dt rs).1 (q (lnOne c v k D dt rs).2.1) σ' → K 0 σ')
theorem x56 {K : Int → dS → Prop} (hT : TK c q v N S) (hk : k < N) (hV : PV D dt rs) (h : CR S k D dt rs σ) (hc : c k = 135) (hq : LQ c q v S k D dt rs K) : wI (d + 4) 56 [.inr (.inr 68)] σ Q K := by
  have hN := hT.2.1
  have e0 : lnOne c v k D dt rs = (if dt = true then (5, k, D, dt, rs) else if fN c v (k + 1) 60 600 ≠ 0 then (fN c v (k + 1) 60 600, k + 1, D, dt, rs) else (0, k + 2, up D 33 4 (v (k + 1)), true, rs)) := by
    unfold lnOne
    rw [if_neg (by omega), if_neg (by omega), if_neg (by omega), if_neg (by omega), if_pos hc]
  unfold LQ at hq
  rw [e0] at hq
  obtain ⟨h0, h1⟩ := hq
  have e5 := h.2.2.2.2.2.1
  refine c56 (b56_0 ?_)
  rw [e5]
  refine ⟨fun z => b56_1 (fun σ1 e1 => ⟨Or.inr rfl, fun σ2 e2 => ?_⟩), fun z => w48C hT (by omega) h (fun σ' g => ⟨Or.inl rfl, ?_⟩)⟩
  · have nd : ¬ dt = true := by
      intro u
      rw [if_pos u] at z
      exact absurd z (by decide)
    rw [if_neg nd] at h0 h1
    have g1 : CR S (k + 1) D dt rs σ1 := by rw [e1]; exact CR_nx (by omega) h
    have g2 : CR S (k + 1) D true rs σ2 := by rw [e2]; exact CR_dt g1
    refine w57C (k := k + 1) hT hk g2 (fun y σ3 g3 σ4 e4 => ⟨fun _ => b56_2 (b56_3 ⟨Or.inl rfl, ?_⟩), fun x => absurd (by rw [e4, up_same]) x⟩) (fun y y1 y2 y3 σ3 g3 σ4 e4 => ⟨fun x => absurd x (by rw [e4, up_same]; omega), fun _ => b56_3 ⟨Or.inr rfl, ?_⟩⟩)
    · rw [if_pos y] at h1
      refine h1 y σ4 (CF_w g3 (fun x hx => ?_))
      rw [e4, up_k (by omega)]
    · rw [if_neg (fun u => u y)] at h0
      refine h0 rfl σ4 ?_
      rw [e4]
      exact CR_up (Or.inl rfl) g3
  · have nd : dt = true := by
      cases dt with
      | true => rfl
      | false => exact absurd rfl z
    rw [if_pos nd] at h1
    exact h1 (by show ¬ (5 : Int) = 0; decide) σ' g
theorem CR_rule {k' : Nat} {σ' σ2 σ3 : dS} {P : List Int} (hr : rs.length < 4) (h : CR S k D dt rs σ) (g : XA σ k' (rs.flatten ++ P) σ') (e2 : σ2 = rput σ' 58 4 (σ' 54 0) (σ' 54 1)) (e3 : σ3 = up σ2 54 0 (wr ((σ2 54 0) + 1))) : CR S k' D dt (rs ++ [P]) σ3 := by
  obtain ⟨a1, a2, a3, a4, a5, a6, a7, a8, a9, a10, a11⟩ := h
  obtain ⟨b1, b2, b3, b4, b5, b6⟩ := g
  have e54 : σ' 54 0 = (rs.length : Int) := by rw [b4 0 (by decide)]; exact a8
  rw [e54, b5, rput_in (by omega) (by omega)] at e2
  have e54' : σ2 54 0 = (rs.length : Int) := by rw [e2, up_k (by decide)]; exact e54
  rw [e54', wr_id (by omega) (by omega)] at e3
  have gk : ∀ y, y ≠ 54 → y ≠ 58 → σ3 y = σ' y := fun y h1 h2 => by rw [e3, up_k h1, e2, up_k h2]
  have fl : (rs ++ [P]).flatten = rs.flatten ++ P := by simp
  refine ⟨fun x h1 h2 => by rw [gk x (by omega) (by omega), b1 x h2 (by omega) (by omega)]; exact a1 x h1 h2, fun j hj => by rw [gk 68 (by decide) (by decide), b2 j (by omega)]; exact a2 j hj, by rw [gk 68 (by decide) (by decide)]; exact b3, by rw [gk 68 (by decide) (by decide), b2 3 (by decide)]; exact a4, by rw [gk 68 (by decide) (by decide), b2 4 (by decide)]; exact a5, by rw [gk 68 (by decide) (by decide), b2 5 (by decide)]; exact a6, fun x hx => by rw [gk x (by omega) (by omega), b1 x (by omega) (by omega) (by omega)]; exact a7 x hx, ?_, ?_, ?_, fun i hi => ?_⟩
  · rw [e3, up_same, List.length_append]; rfl
  · rw [e3, up_i (by decide), e2, up_k (by decide), b5, fl]
  · rw [fl]
    exact seg_k (gk 56 (by decide) (by decide)) b6
  · rw [e3, up_k (by decide), e2]
    rw [List.length_append] at hi
    simp only [List.length_cons, List.length_nil] at hi
    by_cases e : i = rs.length
    · subst e
      rw [up_same, List.take_of_length_le (by rw [List.length_append]; simp only [List.length_cons, List.length_nil]; omega), fl]
    · rw [up_i (by omega), b1 58 (by decide) (by decide) (by decide), a11 i (by omega), List.take_append_of_le_length (by omega)]
theorem x59 {K : Int → dS → Prop} (hT : TK c q v N S) (hk : k < N) (hV : PV D dt rs) (hl : rs.flatten.length ≤ k) (h : CR S k D dt rs σ) (hc : c k = 136) (hq : LQ c q v S k D dt rs K) : wI (d + 46) 59 [.inr (.inr 68)] σ Q K := by
  have hN := hT.2.1
  have v0 : ∀ k, 0 ≤ v k := fun k => (hT.2.2.1 k).1
  have e0 : lnOne c v k D dt rs = (if 4 ≤ rs.length then (2, k, D, dt, rs) else ((gex c v 6 (k + 1) rs.flatten).1, (gex c v 6 (k + 1) rs.flatten).2.1, D, dt, if (gex c v 6 (k + 1) rs.flatten).1 = 0 then rs ++ [(gex c v 6 (k + 1) rs.flatten).2.2.drop rs.flatten.length] else rs)) := by
    unfold lnOne
    rw [if_neg (by omega), if_neg (by omega), if_neg (by omega), if_neg (by omega), if_neg (by omega), if_pos hc]
  unfold LQ at hq
  rw [e0] at hq
  obtain ⟨h0, h1⟩ := hq
  have e54 := h.2.2.2.2.2.2.2.1
  refine c59 (b59_0 ?_)
  rw [e54]
  refine ⟨fun z => b59_1 (fun σ1 e1 => ?_), fun z => w48C hT (by omega) h (fun σ' g => ⟨Or.inl rfl, ?_⟩)⟩
  · rw [if_neg (by omega)] at h0 h1
    have g1 : CR S (k + 1) D dt rs σ1 := by rw [e1]; exact CR_nx (by omega) h
    have hx := xEx (d := d) (CR_TK hT g1) 6 0 (by decide) (by decide)
    refine hx _ _ σ1 (k + 1) rs.flatten hk (by omega) (CR_XA g1) (fun b σ2 p => ⟨fun hb => b59_2 (c17 (b17_0 (fun σ3 e3 σ4 e4 => ⟨Or.inr rfl, ?_⟩))), fun hb => ⟨Or.inl rfl, ?_⟩⟩)
    · obtain ⟨p1, p2⟩ := PO_1 p hb
      rw [if_pos p1] at h0
      obtain ⟨s1, s2, s3, s4⟩ := gex_k hT.1 hN v0 6 (k + 1) rs.flatten hk
      obtain ⟨t1, P, t2, t3, t4⟩ := s4 p1
      rw [t2, drop_app] at h0
      rw [t2] at p2
      exact h0 p1 σ4 (CR_rule (by omega) g1 p2 e3 e4)
    · have hb0 : b = 0 := by
        rcases PO_b p with y | y
        · exact y
        · exact absurd (by omega) hb
      obtain ⟨p1, p2⟩ := PO_0 p hb0
      exact h1 p1 σ2 (XB_CF g1 p2)
  · rw [if_pos (by omega)] at h1
    exact h1 ne_2 σ' g
theorem x50 {K : Int → dS → Prop} (hT : TK c q v N S) (hk : k < N) (hV : PV D dt rs) (hl : rs.flatten.length ≤ k) (h : CR S k D dt rs σ) (hq : LQ c q v S k D dt rs K) : wI (d + 47) 50 [.inr (.inr 68)] σ Q K := by
  have hq' := hq
  unfold LQ lnOne at hq'
  refine c50 (b50_0 (w47C hT (by omega) h ⟨fun z => b50_1 ?_, fun z1 => ⟨fun z => b50_2 ?_, fun z2 => ⟨fun z => b50_3 ?_, fun z3 => ⟨fun z => b50_3 ?_, fun z4 => ⟨fun z => b50_3 ?_, fun z5 => ⟨fun z => b50_4 ?_, fun z6 => ⟨fun z => b50_5 ?_, fun z7 => ⟨fun z => b50_6 ?_, fun z8 => b50_7 ?_⟩⟩⟩⟩⟩⟩⟩⟩))
  · rw [if_pos z] at hq'
    exact x51 (d := d + 42) hT hk hV h (fun u σ' g => ⟨Or.inr rfl, hq'.1 u σ' g⟩) (fun u σ' g => ⟨Or.inl rfl, hq'.2 u σ' g⟩)
  · rw [if_neg z1, if_pos z] at hq'
    exact x52 (d := d + 42) hT hk hV h (fun u σ' g => ⟨Or.inr rfl, hq'.1 u σ' g⟩) (fun u σ' g => ⟨Or.inl rfl, hq'.2 u σ' g⟩)
  · rw [if_neg z1, if_neg z2, if_pos (by omega)] at hq'
    rw [wr_id (by omega) (by omega)]
    exact x53 (d := d + 41) hT hk hV h (fun u σ' g => ⟨Or.inr rfl, hq'.1 u σ' g⟩) (fun u σ' g => ⟨Or.inl rfl, hq'.2 u σ' g⟩)
  · rw [if_neg z1, if_neg z2, if_pos (by omega)] at hq'
    rw [wr_id (by omega) (by omega)]
    exact x53 (d := d + 41) hT hk hV h (fun u σ' g => ⟨Or.inr rfl, hq'.1 u σ' g⟩) (fun u σ' g => ⟨Or.inl rfl, hq'.2 u σ' g⟩)
  · rw [if_neg z1, if_neg z2, if_pos (by omega)] at hq'
    rw [wr_id (by omega) (by omega)]
    exact x53 (d := d + 41) hT hk hV h (fun u σ' g => ⟨Or.inr rfl, hq'.1 u σ' g⟩) (fun u σ' g => ⟨Or.inl rfl, hq'.2 u σ' g⟩)
  · rw [if_neg z1, if_neg z2, if_neg (by omega), if_pos z] at hq'
    exact x55 (d := d + 42) hT hk hV h (fun u σ' g => ⟨Or.inr rfl, hq'.1 u σ' g⟩) (fun u σ' g => ⟨Or.inl rfl, hq'.2 u σ' g⟩)
  · exact x56 (d := d + 42) hT hk hV h z ⟨fun u σ' g => ⟨Or.inr rfl, hq.1 u σ' g⟩, fun u σ' g => ⟨Or.inl rfl, hq.2 u σ' g⟩⟩
  · exact x59 hT hk hV hl h z ⟨fun u σ' g => ⟨Or.inr rfl, hq.1 u σ' g⟩, fun u σ' g => ⟨Or.inl rfl, hq.2 u σ' g⟩⟩
  · rw [if_neg z1, if_neg z2, if_neg (by omega), if_neg z6, if_neg z7, if_neg z8] at hq'
    exact w48C hT (by omega) h (fun σ' g => ⟨Or.inl rfl, hq'.2 ne_1 σ' g⟩)
/-- all lines -/
theorem l46 (hT : TK c q v N S) : ∀ (n : Nat) (x1 : Int) (k : Nat) (D : dS) (dt : Bool) (rs : List (List Int)) (σ : dS), 0 ≤ x1 → x1 + n = 700 → k ≤ N → PV D dt rs → rs.flatten.length ≤ k → CR S k D dt rs σ →
    ((lnAll c v n k D dt rs).1 = 0 → ∀ σ', CR S (lnAll c v n k D dt rs).2.1 (lnAll c v n k D dt rs).2.2.1 (lnAll c v n k D dt rs).2.2.2.1 (lnAll c v n k D dt rs).2.2.2.2 σ' → Q (.inl (some (.inl 0))) σ') → ((lnAll c v n k D dt rs).1 ≠ 0 → ∀ σ', CF S (lnAll c v n k D dt rs).1 (q (lnAll c v n k D dt rs).2.1) σ' → Q (.inl (some (.inl (lnAll c v n k D dt rs).1))) σ') → B46_1 (d + 46) Q x1 σ
  | 0, x1, k, D, dt, rs, σ, x0, hn, hk, hV, hl, h, h0, h1 => by
    have e3 := h.2.2.2.1
    refine b46_1 ⟨fun _ => b46_4 ?_, fun z => absurd (by omega) z⟩
    rw [e3]
    exact h0 rfl σ h
  | n + 1, x1, k, D, dt, rs, σ, x0, hn, hk, hV, hl, h, h0, h1 => by
    have hN := hT.2.1
    have v0 : ∀ k, 0 ≤ v k := fun k => (hT.2.2.1 k).1
    have e3 := h.2.2.2.1
    unfold lnAll at h0 h1
    refine b46_1 ⟨fun z => absurd z (by omega), fun _ => w47C hT hk h ⟨fun z => b46_4 ?_, fun z => ?_⟩⟩
    · rw [if_pos z] at h0
      rw [e3]
      exact h0 rfl σ h
    · rw [if_neg z] at h0 h1
      have hlt := TK_ne hT hk z
      refine x50 (d := d) hT hlt hV hl h ⟨fun u σ2 g2 => ⟨fun w => absurd w (by decide), fun _ => ?_⟩, fun u σ2 g2 => ⟨fun _ => b46_2 ?_, fun w => absurd rfl w⟩⟩
      · rw [if_neg (fun w => w u)] at h0 h1
        obtain ⟨p1, p2, p3, p4⟩ := PV_one hT.1 hN v0 hlt hV u
        refine w49 (d := d + 44) (CR_TK hT g2) p1 (CR_XA g2) (fun w σ3 g3 => ⟨fun _ => b46_3 ?_, fun y => absurd (by decide) y⟩) (fun w σ3 g3 => ⟨fun y => absurd rfl y, fun _ => b46_2 ?_⟩)
        · rw [if_neg (fun y => y w)] at h0 h1
          have hlt2 := TK_ne hT p1 (by omega)
          rw [wr_id (by omega) (by omega)]
          exact l46 hT n (x1 + 1) _ _ _ _ σ3 (by omega) (by omega) hlt2 p3 (by omega) (XA_CR g2 g3) h0 h1
        · rw [if_pos w] at h1
          have g4 := XB_CF g2 g3
          have := h1 ne_1 σ3 g4
          rw [g4.2.2.1]
          exact this
      · rw [if_pos u] at h1
        rw [g2.2.2.1]
        exact h1 u σ2 g2
end CM
