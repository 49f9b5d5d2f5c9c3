/-! THE REFERENCE READS lines: rules, a line, all -/
theorem ix_spec (x : Int) : (x = 129 ∧ ix x = 10) ∨ (x = 130 ∧ ix x = 11) ∨ ((131 ≤ x ∧ x ≤ 133) ∧ ix x = x - 124) ∨ (x = 134 ∧ ix x = 12) ∨ (x = 135 ∧ ix x = 13) ∨ (x = 136 ∧ ix x = 14) ∨ ((x < 129 ∨ 136 < x) ∧ (ix x < 7 ∨ 14 < ix x)) := by
  unfold ix
  by_cases h1 : x = 129
  · rw [if_pos h1]; omega
  by_cases h2 : x = 130
  · rw [if_neg h1, if_pos h2]; omega
  by_cases h3 : 131 ≤ x ∧ x ≤ 133
  · rw [if_neg h1, if_neg h2, if_pos h3]; omega
  by_cases h4 : x = 134
  · rw [if_neg h1, if_neg h2, if_neg h3, if_pos h4]; omega
  by_cases h5 : x = 135
  · rw [if_neg h1, if_neg h2, if_neg h3, if_neg h4, if_pos h5]; omega
  by_cases h6 : x = 136
  · rw [if_neg h1, if_neg h2, if_neg h3, if_neg h4, if_neg h5, if_pos h6]; omega
  by_cases h7 : x = 137
  · rw [if_neg h1, if_neg h2, if_neg h3, if_neg h4, if_neg h5, if_neg h6, if_pos h7]; omega
  by_cases h8 : x = 138
  · rw [if_neg h1, if_neg h2, if_neg h3, if_neg h4, if_neg h5, if_neg h6, if_neg h7, if_pos h8]; omega
  by_cases h9 : x = 139
  · rw [if_neg h1, if_neg h2, if_neg h3, if_neg h4, if_neg h5, if_neg h6, if_neg h7, if_neg h8, if_pos h9]; omega
  by_cases h10 : 140 ≤ x ∧ x ≤ 146
  · rw [if_neg h1, if_neg h2, if_neg h3, if_neg h4, if_neg h5, if_neg h6, if_neg h7, if_neg h8, if_neg h9, if_pos h10]; omega
  · rw [if_neg h1, if_neg h2, if_neg h3, if_neg h4, if_neg h5, if_neg h6, if_neg h7, if_neg h8, if_neg h9, if_neg h10]; omega
theorem enc_len (s : Int) : (enc s).length ≤ 2 := by
  unfold enc
  split
  · simp
  · split
    · simp
    · split <;> simp
theorem flt_len : ∀ l : List Int, (flt l).length ≤ 2 * l.length + 1
  | [] => by simp [flt]
  | s :: l => by
    have h1 := enc_len s
    have h2 := flt_len l
    simp only [flt, List.length_append, List.length_cons]
    omega
theorem fls_len : ∀ rs : List (List Int), (fls rs).length ≤ 2 * rs.flatten.length + rs.length
  | [] => by simp [fls]
  | l :: rs => by
    have h1 := flt_len l
    have h2 := fls_len rs
    unfold fls at h2 ⊢
    simp only [List.map_cons, List.flatten_cons, List.length_append, List.length_cons]
    omega
theorem fls_app (rs : List (List Int)) (P : List Int) : fls (rs ++ [P]) = fls rs ++ flt P := by
  unfold fls
  rw [List.map_append, List.flatten_append]
  simp
section MQ
variable {c q v : Nat → Int} {N : Nat} {Mk : Nat → dS → Prop} {S : dS} {d : Nat} {Q : dR → dS → Prop} {σ : dS} {k : Nat} {D : dS} {dt : Bool} {rs : List (List Int)}
theorem MR_dawn {x : Int} (hT : TM c q v N Mk) (h : MR Mk S k D dt rs σ) : MR Mk S k (up D 33 4 x) true rs (up σ 153 32 x) := by
  obtain ⟨a1, a2, a3, ⟨n1, n2, n3, n4, n5, n6⟩, b1, b2, b3, b4, b5, b6, b7⟩ := h
  have gD : ∀ y, y ≠ 33 → (up D 33 4 x) y = D y := fun y q1 => up_k q1
  have g33 : ∀ j, j ≠ 4 → (up D 33 4 x) 33 j = D 33 j := fun j hj => up_i hj
  have gs : ∀ j, j ≠ 32 → (up σ 153 32 x) 153 j = σ 153 j := fun j hj => up_i hj
  have gk : ∀ y, y ≠ 153 → (up σ 153 32 x) y = σ y := fun y hy => up_k hy
  refine ⟨mfl_j (by omega) a1, MR_Mk hT (by decide) a2 rfl, by rw [gs 16 (by decide), gs 17 (by decide)]; exact a3, ?_, ?_, ?_, ?_, ?_, ?_, ?_, ?_⟩
  · rw [up_same, up_same, gs 27 (by decide), gs 28 (by decide), gs 29 (by decide), gs 30 (by decide), gs 31 (by decide), g33 0 (by decide), g33 1 (by decide), g33 2 (by decide), g33 3 (by decide)]
    exact ⟨n1, n2, n3, n4, n5, rfl⟩
  · rw [g33 0 (by decide), gk 163 (by decide), gD 35 (by decide)]; exact b1
  · rw [gk 164 (by decide), gD 37 (by decide)]; exact b2
  · rw [g33 2 (by decide), gk 165 (by decide), gk 166 (by decide), gk 167 (by decide), gk 168 (by decide), gD 39 (by decide), gD 41 (by decide), gD 43 (by decide), gD 45 (by decide)]; exact b3
  · rw [g33 3 (by decide), gk 169 (by decide), gD 47 (by decide), gD 49 (by decide), gD 51 (by decide), gD 53 (by decide)]; exact b4
  · rw [gk 170 (by decide)]; exact b5
  · rw [gs 33 (by decide)]; exact b6
  · exact seg_k (gk 171 (by decide)) b7
theorem MR_rule {k' : Nat} {s2 s3 σ' : dS} {P : List Int} (h17 : ∀ k σ, Mk k σ → σ 153 17 = -1) (h : MR Mk S k D dt rs σ) (f2 : s2 = up σ 170 (rs.length : Int) (σ 153 33)) (f3 : s3 = up s2 153 31 ((rs.length : Int) + 1)) (m1 : mfr s3 σ') (m2 : Mk k' σ') (m3 : σ' 153 16 = 0) (m4 : σ' 153 33 = ((fls rs ++ flt P).length : Int)) (m5 : seg σ' 171 0 (fls rs ++ flt P)) : MR Mk S k' D dt (rs ++ [P]) σ' := by
  obtain ⟨a1, a2, a3, ⟨n1, n2, n3, n4, n5, n6⟩, b1, b2, b3, b4, b5, b6, b7⟩ := h
  obtain ⟨e1, e2⟩ := m1
  have gk : ∀ x, x ≠ 153 → x ≠ 170 → x ≠ 171 → x ≠ 172 → x ≠ 173 → σ' x = σ x := fun x h1 h2 h3 h4 h5 => by rw [e1 x h1 h3 h4 h5, f3, up_k h1, f2, up_k h2]
  have gs : ∀ j, j ≠ 31 → (j < 16 ∨ (18 ≤ j ∧ j ≤ 19) ∨ (27 ≤ j ∧ j ≤ 32) ∨ (36 ≤ j ∧ j ≠ 1026)) → σ' 153 j = σ 153 j := fun j h1 h2 => by rw [e2 j h2, f3, up_i h1, f2, up_k (by decide)]
  refine ⟨⟨fun x h1 h2 => by rw [gk x h1 (by omega) (by omega) (by omega) (by omega)]; exact a1.1 x h1 h2, fun j hj => by rw [gs j (by omega) (by omega)]; exact a1.2 j hj⟩, m2, ⟨m3, h17 k' σ' m2⟩, ?_, ?_, ?_, ?_, ?_, fun i hi => ?_, ?_, ?_⟩
  · rw [gs 27 (by decide) (by decide), gs 28 (by decide) (by decide), gs 29 (by decide) (by decide), gs 30 (by decide) (by decide), gs 32 (by decide) (by decide), e2 31 (by decide), f3, up_same, List.length_append]
    exact ⟨n1, n2, n3, n4, rfl, n6⟩
  · rw [gk 163 (by decide) (by decide) (by decide) (by decide) (by decide)]; exact b1
  · rw [gk 164 (by decide) (by decide) (by decide) (by decide) (by decide)]; exact b2
  · rw [gk 165 (by decide) (by decide) (by decide) (by decide) (by decide), gk 166 (by decide) (by decide) (by decide) (by decide) (by decide), gk 167 (by decide) (by decide) (by decide) (by decide) (by decide), gk 168 (by decide) (by decide) (by decide) (by decide) (by decide)]; exact b3
  · rw [gk 169 (by decide) (by decide) (by decide) (by decide) (by decide)]; exact b4
  · rw [e1 170 (by decide) (by decide) (by decide) (by decide), f3, up_k (by decide), f2]
    rw [List.length_append] at hi
    simp only [List.length_cons, List.length_nil] at hi
    rw [List.take_append_of_le_length (by omega)]
    by_cases e : i = rs.length
    · subst e
      rw [up_same, List.take_of_length_le (Nat.le_refl _), b6]
    · rw [up_i (by omega)]
      exact b5 i (by omega)
  · rw [fls_app]; exact m4
  · rw [fls_app]; exact m5
theorem w193 {K : dS → Prop} (hT : TM c q v N Mk) (h17 : ∀ k σ, Mk k σ → σ 153 17 = -1) (c0 : c N = 0) (hN : N ≤ 700) (v0 : ∀ k, 0 ≤ v k) (hk : k < N) (hV : PV D dt rs) (hl : rs.flatten.length ≤ k) (h : MR Mk S k D dt rs σ)
    (h0 : (lnOne c v k D dt rs).1 = 0 → c (lnOne c v k D dt rs).2.1 = 59 → ∀ σ', MR Mk S ((lnOne c v k D dt rs).2.1 + 1) (lnOne c v k D dt rs).2.2.1 (lnOne c v k D dt rs).2.2.2.1 (lnOne c v k D dt rs).2.2.2.2 σ' → K σ')
    (hs : (lnOne c v k D dt rs).1 = 0 → c (lnOne c v k D dt rs).2.1 ≠ 59 → ∀ σ', MF S 1 (q (lnOne c v k D dt rs).2.1) σ' → K σ')
    (hb : (lnOne c v k D dt rs).1 ≠ 0 → ∀ σ', MF S (lnOne c v k D dt rs).1 (q (lnOne c v k D dt rs).2.1) σ' → K σ') : wV (d + 9) 193 [.inr (.inr 153)] σ Q K := by
  have hg := h.2.2.1.1
  obtain ⟨n1, n2, n3, n4, n5, n6⟩ := h.2.2.2.1
  have hV' := hV
  obtain ⟨⟨p1, p2, p3, p4, p5⟩, q1, hfl, how, q4, q5, q6, q7⟩ := hV'
  have hlen : ∀ o, 0 ≤ o → o < D 33 2 → D 43 o ≤ 8 := fun o o0 o1 => (how o o0 o1).2.2.1.2
  have end13 : ∀ (Q' : dR → dS → Prop) (σ' : dS), (∀ s, K s → Q' (.inl none) s) → (lnOne c v k D dt rs).1 = 0 → MR Mk S (lnOne c v k D dt rs).2.1 (lnOne c v k D dt rs).2.2.1 (lnOne c v k D dt rs).2.2.2.1 (lnOne c v k D dt rs).2.2.2.2 σ' → B193_13 (d + 7) Q' σ' := by
    intro Q' σ' hq' hz g
    have := PV_one c0 hN v0 hk hV hz
    exact b193_end (d := d + 1) hT c0 this.1 g (fun u s gs => hq' s (h0 hz u s gs)) (fun u s gs => hq' s (hs hz u s gs))
  have bad13 : ∀ (Q' : dR → dS → Prop) (σ' : dS), (∀ s, K s → Q' (.inl none) s) → (lnOne c v k D dt rs).1 ≠ 0 → MF S (lnOne c v k D dt rs).1 (q (lnOne c v k D dt rs).2.1) σ' → B193_13 (d + 7) Q' σ' := by
    intro Q' σ' hq' hz g
    exact b193_bad (d := d + 5) hz g (hq' σ' (hb hz σ' g))
  have one : ∀ {x : Int × Nat × dS}, lnOne c v k D dt rs = (x.1, x.2.1, x.2.2, dt, rs) → ∀ (Q' : dR → dS → Prop), (∀ s, K s → Q' (.inl none) s) → (x.1 = 0 → ∀ σ', MR Mk S x.2.1 x.2.2 dt rs σ' → B193_13 (d + 7) Q' σ') ∧ (x.1 ≠ 0 → ∀ σ', MF S x.1 (q x.2.1) σ' → B193_13 (d + 7) Q' σ') := by
    intro x e Q' hq'
    have e13 := fun σ' => end13 Q' σ' hq'
    have d13 := fun σ' => bad13 Q' σ' hq'
    rw [e] at e13 d13
    exact ⟨fun z σ' g => e13 σ' z g, fun z σ' g => d13 σ' z g⟩
  refine c193 (b193_0 (hT.2.2.2 (d + 3) _ _ σ k (by omega) h.2.1 ?_))
  rcases ix_spec (c k) with ⟨e, ei⟩ | ⟨e, ei⟩ | ⟨e, ei⟩ | ⟨e, ei⟩ | ⟨e, ei⟩ | ⟨e, ei⟩ | ⟨e, ei⟩
  · -- roof
    have el : lnOne c v k D dt rs = ((lnRoof c v k D).1, (lnRoof c v k D).2.1, (lnRoof c v k D).2.2, dt, rs) := by unfold lnOne; rw [if_pos e]
    rw [ei, n1]
    refine ⟨fun u => absurd rfl u, fun _ => ?_⟩
    obtain ⟨o1, o2⟩ := one el (fun res σ1 => match res with | .inl none => K σ1 | .inl (some _) => False | .inr e => Q (.inr e) σ1) (fun _ w => w)
    rw [el] at hb
    unfold lnRoof at o1 o2 hb
    refine ⟨fun z => b193_1 (w173g hg ⟨fun _ => b193_2 ?_, fun u => absurd (by decide) u⟩), fun z => w172M hT (by omega) h (fun σ' g => b193_1 (w173b (by rw [g.2.1]; exact ne_2) ⟨fun u => absurd rfl u, fun _ => ?_⟩))⟩
    · rw [if_neg (by omega)] at o1 o2
      refine MR_goes (d := d + 3) hT hk h (fun σ1 _ g1 => ?_)
      rw [g1.2.2.2.1.1]
      refine w176M (d := d + 2) (k := k + 1) (by decide) hT c0 hk g1 (fun y yv σ2 g2 => ⟨by omega, by omega, fun s1 f1 => ?_⟩) (fun y y1 y2 y3 σ2 k2 g2 => ⟨by omega, by omega, fun s1 f1 => ?_⟩)
      · rw [if_pos y] at o2
        have b1 : MF S (fN c v (k + 1) 0 9) (q (k + 1)) s1 := by rw [f1]; exact MF_c (by decide) g2
        exact w173b (by rw [b1.2.1]; exact y) ⟨fun _ => o2 y s1 b1, fun u => absurd rfl u⟩
      · rw [if_neg (fun u => u y)] at o1
        have r1 : MR Mk S (k + 2) D dt rs s1 := by
          rw [f1]
          exact MR_w hT (by decide) hlen g2 (fun _ => by omega) (fun e => by omega) (fun e => by omega) (fun e => by omega) (fun e => by omega)
        refine w173g r1.2.2.1.1 ⟨fun u => absurd u (by decide), fun _ s2 f2 => o1 rfl s2 ?_⟩
        rw [r1.2.2.2.1.1, wr_id (by omega) (by omega)] at f2
        rw [f2]
        exact MR_roof hT r1 (by rw [f1, up_same])
    · rw [if_pos (by omega)] at hb
      exact hb ne_2 σ' g
  · -- flight
    have el : lnOne c v k D dt rs = ((lnFlight c v k D).1, (lnFlight c v k D).2.1, (lnFlight c v k D).2.2, dt, rs) := by unfold lnOne; rw [if_neg (by omega), if_pos e]
    rw [ei]
    obtain ⟨o1, o2⟩ := one el (fun res σ1 => match res with | .inl none => K σ1 | .inl (some _) => False | .inr e => Q (.inr e) σ1) (fun _ w => w)
    exact ⟨fun _ => b193_3 ⟨fun u => absurd rfl u, fun _ => w190 (d := d + 1) hT c0 v0 hk hV h o1 o2⟩, fun u => absurd (by decide) u⟩
  · -- owl
    have el : lnOne c v k D dt rs = ((lnOwl c v (c k - 131) k D).1, (lnOwl c v (c k - 131) k D).2.1, (lnOwl c v (c k - 131) k D).2.2, dt, rs) := by unfold lnOne; rw [if_neg (by omega), if_neg (by omega), if_pos e]
    rw [ei]
    obtain ⟨o1, o2⟩ := one el (fun res σ1 => match res with | .inl none => K σ1 | .inl (some _) => False | .inr e => Q (.inr e) σ1) (fun _ w => w)
    refine ⟨fun _ => b193_3 ⟨fun _ => b193_4 ⟨fun u => absurd u (by omega), fun _ => ⟨fun u => absurd u (by omega), fun _ => ?_⟩⟩, fun u => absurd (by omega) u⟩, fun u => absurd (by omega) u⟩
    rw [show c k - 124 - 7 = c k - 131 by omega, wr_id (by omega) (by omega)]
    exact w191 (d := d + 1) hT c0 v0 hk hV h o1 o2
  · -- rider
    have el : lnOne c v k D dt rs = ((lnRider c v k D).1, (lnRider c v k D).2.1, (lnRider c v k D).2.2, dt, rs) := by unfold lnOne; rw [if_neg (by omega), if_neg (by omega), if_neg (by omega), if_pos e]
    rw [ei]
    obtain ⟨o1, o2⟩ := one el (fun res σ1 => match res with | .inl none => K σ1 | .inl (some _) => False | .inr e => Q (.inr e) σ1) (fun _ w => w)
    exact ⟨fun _ => b193_3 ⟨fun _ => b193_4 ⟨fun u => absurd u (by decide), fun _ => ⟨fun _ => b193_5 ⟨fun u => absurd rfl u, fun _ => w192 (d := d + 1) hT c0 v0 hk hV h o1 o2⟩, fun u => absurd (by decide) u⟩⟩, fun u => absurd (by decide) u⟩, fun u => absurd (by decide) u⟩
  · -- dawn
    have el : lnOne c v k D dt rs = (if dt = true then (5, k, D, dt, rs) else if fN c v (k + 1) 60 600 ≠ 0 then (fN c v (k + 1) 60 600, k + 1, D, dt, rs) else (0, k + 2, up D 33 4 (v (k + 1)), true, rs)) := by
      unfold lnOne; rw [if_neg (by omega), if_neg (by omega), if_neg (by omega), if_neg (by omega), if_pos e]
    rw [ei]
    have e13 := fun σ' => end13 (fun res σ1 => match res with | .inl none => K σ1 | .inl (some _) => False | .inr e => Q (.inr e) σ1) σ' (fun _ w => w)
    have d13 := fun σ' => bad13 (fun res σ1 => match res with | .inl none => K σ1 | .inl (some _) => False | .inr e => Q (.inr e) σ1) σ' (fun _ w => w)
    rw [el] at e13 d13 hb
    refine ⟨fun _ => b193_3 ⟨fun _ => b193_4 ⟨fun u => absurd u (by decide), fun _ => ⟨fun _ => b193_5 ⟨fun _ => b193_6 ⟨fun u => absurd rfl u, fun _ => ?_⟩, fun u => absurd (by decide) u⟩, fun u => absurd (by decide) u⟩⟩, fun u => absurd (by decide) u⟩, fun u => absurd (by decide) u⟩
    rw [n6]
    by_cases hd : dt = true
    · rw [if_pos hd] at hb ⊢
      refine ⟨fun u => absurd u (by omega), fun _ => w172M hT (by omega) h (fun σ' g => b193_7 (w173b (by rw [g.2.1]; show ¬ (5 : Int) = 0; decide) ⟨fun u => absurd rfl u, fun _ => hb (by show ¬ (5 : Int) = 0; decide) σ' g⟩))⟩
    · rw [if_neg hd] at e13 d13 ⊢
      refine ⟨fun _ => b193_7 (w173g hg ⟨fun _ => b193_8 (MR_goes (d := d + 3) hT hk h (fun σ1 _ g1 => ?_)), fun u => absurd (by decide) u⟩), fun u => absurd rfl u⟩
      refine w176M (d := d + 2) (k := k + 1) (by decide) hT c0 hk g1 (fun y yv σ2 g2 s1 f1 => ?_) (fun y y1 y2 y3 σ2 k2 g2 s1 f1 => ?_)
      · rw [if_pos y] at d13
        exact d13 s1 y (by rw [f1]; exact MF_j (by decide) g2)
      · rw [if_neg (fun u => u y)] at e13
        exact e13 s1 rfl (by rw [f1]; exact MR_dawn hT g2)
  · -- hunts
    have el : lnOne c v k D dt rs = (if 4 ≤ rs.length then (2, k, D, dt, rs) else ((gex c v 6 (k + 1) rs.flatten).1, (gex c v 6 (k + 1) rs.flatten).2.1, D, dt, if (gex c v 6 (k + 1) rs.flatten).1 = 0 then rs ++ [(gex c v 6 (k + 1) rs.flatten).2.2.drop rs.flatten.length] else rs)) := by
      unfold lnOne; rw [if_neg (by omega), if_neg (by omega), if_neg (by omega), if_neg (by omega), if_neg (by omega), if_pos e]
    rw [ei]
    have e13 := fun σ' => end13 (fun res σ1 => match res with | .inl none => K σ1 | .inl (some _) => False | .inr e => Q (.inr e) σ1) σ' (fun _ w => w)
    have d13 := fun σ' => bad13 (fun res σ1 => match res with | .inl none => K σ1 | .inl (some _) => False | .inr e => Q (.inr e) σ1) σ' (fun _ w => w)
    rw [el] at e13 d13 hb
    refine ⟨fun _ => b193_3 ⟨fun _ => b193_4 ⟨fun u => absurd u (by decide), fun _ => ⟨fun _ => b193_5 ⟨fun _ => b193_6 ⟨fun _ => b193_9 ⟨fun u => absurd rfl u, fun _ => ?_⟩, fun u => absurd (by decide) u⟩, fun u => absurd (by decide) u⟩, fun u => absurd (by decide) u⟩⟩, fun u => absurd (by decide) u⟩, fun u => absurd (by decide) u⟩
    rw [n5]
    by_cases h4 : 4 ≤ rs.length
    · rw [if_pos h4] at hb
      exact ⟨fun u => absurd (by omega) u, fun _ => w172M hT (by omega) h (fun σ' g => b193_10 (w173b (by rw [g.2.1]; exact ne_2) ⟨fun u => absurd rfl u, fun _ => hb ne_2 σ' g⟩))⟩
    · rw [if_neg h4] at e13 d13
      refine ⟨fun _ => b193_10 (w173g hg ⟨fun _ => b193_11 (MR_goes (d := d + 3) hT hk h (fun σ1 _ g1 => ?_)), fun u => absurd (by decide) u⟩), fun u => absurd (by omega) u⟩
      rw [g1.2.2.2.1.2.2.2.2.1]
      refine ⟨by omega, by omega, fun s2 f2 s3 f3 => ?_⟩
      have e31 : s2 153 31 = (rs.length : Int) := by rw [f2, up_k (by decide)]; exact g1.2.2.2.1.2.2.2.2.1
      rw [e31, wr_id (by omega) (by omega)] at f3
      have fl := fls_len rs
      have g33 : s3 153 33 = ((fls rs).length : Int) := by rw [f3, up_i (by decide), f2, up_k (by decide)]; exact g1.2.2.2.2.2.2.2.2.2.1
      have sg : seg s3 171 0 (fls rs) := seg_k (by rw [f3, up_k (by decide), f2, up_k (by decide)]) g1.2.2.2.2.2.2.2.2.2.2
      have mk3 : Mk (k + 1) s3 := hT.2.1 _ σ1 _ g1.2.1 (by rw [f3, up_k (by decide), f2, up_k (by decide)]) (fun j hj => by rw [f3, up_i (by omega), f2, up_k (by decide)])
      have g16 : s3 153 16 = 0 := by rw [f3, up_i (by decide), f2, up_k (by decide)]; exact g1.2.2.1.1
      refine w189 (d := d) (o := rs.flatten) (pre := fls rs) hT c0 hN v0 hk mk3 g16 g33 sg (by omega) (fun z σ' cs ecs m1 m2 m3 m4 m5 => e13 σ' z ?_) (fun z σ' m1 m2 m3 => d13 σ' z ⟨?_, m2, m3⟩)
      · dsimp only
        rw [if_pos z, ecs, drop_app]
        exact MR_rule h17 g1 f2 f3 m1 m2 m3 m4 m5
      · refine ⟨fun x x1 x2 => ?_, fun j hj => ?_⟩
        · rw [m1.1 x x1 (by omega) (by omega) (by omega), f3, up_k x1, f2, up_k (by omega)]; exact g1.1.1 x x1 x2
        · rw [m1.2 j (by omega), f3, up_i (by omega), f2, up_k (by decide)]; exact g1.1.2 j hj
  · -- something else
    have el : lnOne c v k D dt rs = (1, k, D, dt, rs) := by unfold lnOne; rw [if_neg (by omega), if_neg (by omega), if_neg (by omega), if_neg (by omega), if_neg (by omega), if_neg (by omega)]
    have d13 := fun σ' => bad13 (fun res σ1 => match res with | .inl none => K σ1 | .inl (some _) => False | .inr e => Q (.inr e) σ1) σ' (fun _ w => w)
    rw [el] at d13
    have go : B193_12 (d + 7) (fun res σ1 => match res with | .inl none => K σ1 | .inl (some _) => False | .inr e => Q (.inr e) σ1) σ := b193_12 (w172M hT (by omega) h (fun σ' g => d13 σ' ne_1 g))
    have go5 : B193_5 (d + 7) (fun res σ1 => match res with | .inl none => K σ1 | .inl (some _) => False | .inr e => Q (.inr e) σ1) (ix (c k)) σ := b193_5 ⟨fun _ => b193_6 ⟨fun _ => b193_9 ⟨fun _ => go, fun u => absurd (by omega) u⟩, fun u => absurd (by omega) u⟩, fun u => absurd (by omega) u⟩
    exact ⟨fun _ => b193_3 ⟨fun _ => b193_4 ⟨fun _ => go5, fun u => ⟨fun _ => go5, fun w => absurd ei (by omega)⟩⟩, fun u => absurd (by omega) u⟩, fun u => absurd (by omega) u⟩
end MQ
