/-! THE CLASS READS a rule: chains, tests, nots -/
section RL
variable {c q v : Nat → Int} {N B : Nat} {S : dS} {d : Nat} {sub : Nat → List Int → Int × Nat × List Int}
theorem GK_len (hs : GK B N sub) {k : Nat} {o : List Int} (hk : k ≤ N) (ho : o.length ≤ k) (hz : (sub k o).1 = 0) : (sub k o).2.2.length ≤ (sub k o).2.1 := by
  obtain ⟨_, _, _, s4⟩ := hs k o hk
  obtain ⟨_, P, p1, p2, _⟩ := s4 hz
  rw [p1, List.length_append]; omega
theorem TK_ne (hT : TK c q v N S) {k : Nat} (hk : k ≤ N) (h : c k ≠ 0) : k < N := by
  rcases Nat.lt_or_ge k N with h' | h'
  · exact h'
  · have : k = N := by omega
    rw [this, hT.1] at h; omega
theorem l65 {Q : dR → dS → Prop} {a : Int} (hT : TK c q v N S) (hs : GK B N sub) (hx : XSb q N S (d + 2) 66 a sub) : ∀ (n : Nat) (x2 : Int) (σ : dS) (k : Nat) (o : List Int), 0 ≤ x2 → x2 + n = 700 → k ≤ N → o.length ≤ k → XA S k o σ → (∀ b σ', PO q S (glp c opP sub n k o) b σ' → Q (.inl (some (.inl b))) σ') → B65_2 (d + 1) Q a x2 σ
  | 0, x2, σ, k, o, x0, hn, hk, ho, h, hq => b65_2 ⟨fun _ => b65_5 ⟨Or.inr rfl, hq 1 σ (Or.inl ⟨rfl, rfl, h⟩)⟩, fun z => absurd (by omega) z⟩
  | n + 1, x2, σ, k, o, x0, hn, hk, ho, h, hq => by
    have go : c k = 42 ∨ c k = 47 → B65_3 (d + 1) Q a x2 σ := by
      intro hc
      have hlt := TK_ne hT hk (by omega)
      have hN := hT.2.1
      have ew : wr (-(c k)) = -(c k) := wr_id (by omega) (by omega)
      have e : glp c opP sub (n + 1) k o = gbd (sub (k + 1) o) (fun k' o' => glp c opP sub n k' (o' ++ [-(c k)])) := by
        show (if opP (c k) = true then _ else _) = _
        have hop : opP (c k) = true := decide_eq_true hc
        rw [if_pos hop]
      rw [e] at hq
      refine b65_3 (w47 hT hk h (fun σ1 e1 => ?_))
      have g1 : XA S (k + 1) o σ1 := by rw [e1]; exact XA_nx (by omega) h
      obtain ⟨s1, s2, s3, s4⟩ := hs (k + 1) o (by omega)
      refine hx _ _ σ1 (k + 1) o (by omega) (by omega) g1 (fun b σ2 p => ⟨fun hb => ?_, fun hb => ⟨Or.inl rfl, hq 0 σ2 (Or.inr ?_)⟩⟩)
      · obtain ⟨p1, p2⟩ := PO_1 p hb
        rw [gbd_0 p1] at hq
        obtain ⟨t1, P, t2, t3, t4⟩ := s4 p1
        have hl : (sub (k + 1) o).2.2.length + 1 ≤ (sub (k + 1) o).2.1 := by rw [t2, List.length_append]; omega
        refine b65_4 ?_
        rw [ew]
        refine w16 (by omega) p2 (fun σ3 g3 => ?_)
        rw [wr_id (x := x2 + 1) (by omega) (by omega)]
        exact l65 hT hs hx n (x2 + 1) σ3 _ _ (by omega) (by omega) s2 (by rw [List.length_append]; exact hl) g3 hq
      · have hb0 : b = 0 := by
          rcases PO_b p with z | z
          · exact z
          · exact absurd (by omega) hb
        obtain ⟨p1, p2⟩ := PO_0 p hb0
        rw [gbd_f p1]
        exact ⟨p1, rfl, p2⟩
    have no : ¬ (c k = 42 ∨ c k = 47) → B65_5 (d + 1) Q σ := by
      intro hc
      have e : glp c opP sub (n + 1) k o = (0, k, o) := by
        show (if opP (c k) = true then _ else _) = _
        have hop : ¬ opP (c k) = true := fun z => hc (of_decide_eq_true z)
        rw [if_neg hop]
      rw [e] at hq
      exact b65_5 ⟨Or.inr rfl, hq 1 σ (Or.inl ⟨rfl, rfl, h⟩)⟩
    exact b65_2 ⟨fun z => absurd z (by omega), fun _ => w47 hT hk h ⟨fun z => go (Or.inl z), fun z => w47 hT hk h ⟨fun y => no (by omega), fun y => go (Or.inr (by omega))⟩⟩⟩
theorem x65 {a : Int} (hT : TK c q v N S) (hs : GK B N sub) (hx : XSb q N S (d + 2) 66 a sub) : XSb q N S (d + 3) 65 a (gch c opP sub) := by
  intro Q K σ k o hk ho h hq
  obtain ⟨s1, s2, s3, s4⟩ := hs k o hk
  refine c65 (b65_0 (hx _ _ σ k o hk ho h (fun b σ2 p => ⟨fun hb => b65_1 ?_, fun hb => ⟨Or.inl rfl, hq 0 σ2 (Or.inr ?_)⟩⟩)))
  · obtain ⟨p1, p2⟩ := PO_1 p hb
    unfold gch at hq
    rw [gbd_0 p1] at hq
    exact l65 hT hs hx 700 0 σ2 _ _ (by decide) (by decide) s2 (GK_len hs hk ho p1) p2 hq
  · have hb0 : b = 0 := by
      rcases PO_b p with z | z
      · exact z
      · exact absurd (by omega) hb
    obtain ⟨p1, p2⟩ := PO_0 p hb0
    unfold gch
    rw [gbd_f p1]
    exact ⟨p1, rfl, p2⟩
theorem l64 {Q : dR → dS → Prop} {a : Int} (hT : TK c q v N S) (hs : GK B N sub) (hx : XSb q N S (d + 2) 65 a sub) : ∀ (n : Nat) (x2 : Int) (σ : dS) (k : Nat) (o : List Int), 0 ≤ x2 → x2 + n = 700 → k ≤ N → o.length ≤ k → XA S k o σ → (∀ b σ', PO q S (glp c opS sub n k o) b σ' → Q (.inl (some (.inl b))) σ') → B64_2 (d + 1) Q a x2 σ
  | 0, x2, σ, k, o, x0, hn, hk, ho, h, hq => b64_2 ⟨fun _ => b64_5 ⟨Or.inr rfl, hq 1 σ (Or.inl ⟨rfl, rfl, h⟩)⟩, fun z => absurd (by omega) z⟩
  | n + 1, x2, σ, k, o, x0, hn, hk, ho, h, hq => by
    have go : c k = 43 ∨ c k = 45 → B64_3 (d + 1) Q a x2 σ := by
      intro hc
      have hlt := TK_ne hT hk (by omega)
      have hN := hT.2.1
      have ew : wr (-(c k)) = -(c k) := wr_id (by omega) (by omega)
      have e : glp c opS sub (n + 1) k o = gbd (sub (k + 1) o) (fun k' o' => glp c opS sub n k' (o' ++ [-(c k)])) := by
        show (if opS (c k) = true then _ else _) = _
        have hop : opS (c k) = true := decide_eq_true hc
        rw [if_pos hop]
      rw [e] at hq
      refine b64_3 (w47 hT hk h (fun σ1 e1 => ?_))
      have g1 : XA S (k + 1) o σ1 := by rw [e1]; exact XA_nx (by omega) h
      obtain ⟨s1, s2, s3, s4⟩ := hs (k + 1) o (by omega)
      refine hx _ _ σ1 (k + 1) o (by omega) (by omega) g1 (fun b σ2 p => ⟨fun hb => ?_, fun hb => ⟨Or.inl rfl, hq 0 σ2 (Or.inr ?_)⟩⟩)
      · obtain ⟨p1, p2⟩ := PO_1 p hb
        rw [gbd_0 p1] at hq
        obtain ⟨t1, P, t2, t3, t4⟩ := s4 p1
        have hl : (sub (k + 1) o).2.2.length + 1 ≤ (sub (k + 1) o).2.1 := by rw [t2, List.length_append]; omega
        refine b64_4 ?_
        rw [ew]
        refine w16 (by omega) p2 (fun σ3 g3 => ?_)
        rw [wr_id (x := x2 + 1) (by omega) (by omega)]
        exact l64 hT hs hx n (x2 + 1) σ3 _ _ (by omega) (by omega) s2 (by rw [List.length_append]; exact hl) g3 hq
      · have hb0 : b = 0 := by
          rcases PO_b p with z | z
          · exact z
          · exact absurd (by omega) hb
        obtain ⟨p1, p2⟩ := PO_0 p hb0
        rw [gbd_f p1]
        exact ⟨p1, rfl, p2⟩
    have no : ¬ (c k = 43 ∨ c k = 45) → B64_5 (d + 1) Q σ := by
      intro hc
      have e : glp c opS sub (n + 1) k o = (0, k, o) := by
        show (if opS (c k) = true then _ else _) = _
        have hop : ¬ opS (c k) = true := fun z => hc (of_decide_eq_true z)
        rw [if_neg hop]
      rw [e] at hq
      exact b64_5 ⟨Or.inr rfl, hq 1 σ (Or.inl ⟨rfl, rfl, h⟩)⟩
    exact b64_2 ⟨fun z => absurd z (by omega), fun _ => w47 hT hk h ⟨fun z => go (Or.inl z), fun z => w47 hT hk h ⟨fun y => no (by omega), fun y => go (Or.inr (by omega))⟩⟩⟩
theorem x64 {a : Int} (hT : TK c q v N S) (hs : GK B N sub) (hx : XSb q N S (d + 2) 65 a sub) : XSb q N S (d + 3) 64 a (gch c opS sub) := by
  intro Q K σ k o hk ho h hq
  obtain ⟨s1, s2, s3, s4⟩ := hs k o hk
  refine c64 (b64_0 (hx _ _ σ k o hk ho h (fun b σ2 p => ⟨fun hb => b64_1 ?_, fun hb => ⟨Or.inl rfl, hq 0 σ2 (Or.inr ?_)⟩⟩)))
  · obtain ⟨p1, p2⟩ := PO_1 p hb
    unfold gch at hq
    rw [gbd_0 p1] at hq
    exact l64 hT hs hx 700 0 σ2 _ _ (by decide) (by decide) s2 (GK_len hs hk ho p1) p2 hq
  · have hb0 : b = 0 := by
      rcases PO_b p with z | z
      · exact z
      · exact absurd (by omega) hb
    obtain ⟨p1, p2⟩ := PO_0 p hb0
    unfold gch
    rw [gbd_f p1]
    exact ⟨p1, rfl, p2⟩
theorem l61 {Q : dR → dS → Prop} {a : Int} (hT : TK c q v N S) (hs : GK B N sub) (hx : XSb q N S (d + 2) 62 a sub) : ∀ (n : Nat) (x2 : Int) (σ : dS) (k : Nat) (o : List Int), 0 ≤ x2 → x2 + n = 700 → k ≤ N → o.length ≤ k → XA S k o σ → (∀ b σ', PO q S (glp c opA sub n k o) b σ' → Q (.inl (some (.inl b))) σ') → B61_2 (d + 1) Q a x2 σ
  | 0, x2, σ, k, o, x0, hn, hk, ho, h, hq => b61_2 ⟨fun _ => b61_4 ⟨Or.inr rfl, hq 1 σ (Or.inl ⟨rfl, rfl, h⟩)⟩, fun z => absurd (by omega) z⟩
  | n + 1, x2, σ, k, o, x0, hn, hk, ho, h, hq => by
    refine b61_2 ⟨fun z => absurd z (by omega), fun _ => w47 hT hk h ⟨fun hc => ?_, fun hc2 σ1 e1 => ?_⟩⟩
    · have e : glp c opA sub (n + 1) k o = (0, k, o) := by
        show (if opA (c k) = true then _ else _) = _
        have hop : ¬ opA (c k) = true := fun z => hc (of_decide_eq_true z)
        rw [if_neg hop]
      rw [e] at hq
      exact b61_4 ⟨Or.inr rfl, hq 1 σ (Or.inl ⟨rfl, rfl, h⟩)⟩
    · have hc : c k = 138 := by omega
      have hlt := TK_ne hT hk (by omega)
      have hN := hT.2.1
      have e : glp c opA sub (n + 1) k o = gbd (sub (k + 1) o) (fun k' o' => glp c opA sub n k' (o' ++ [-(c k)])) := by
        show (if opA (c k) = true then _ else _) = _
        have hop : opA (c k) = true := decide_eq_true hc
        rw [if_pos hop]
      rw [e] at hq
      have g1 : XA S (k + 1) o σ1 := by rw [e1]; exact XA_nx (by omega) h
      obtain ⟨s1, s2, s3, s4⟩ := hs (k + 1) o (by omega)
      refine hx _ _ σ1 (k + 1) o (by omega) (by omega) g1 (fun b σ2 p => ⟨fun hb => ?_, fun hb => ⟨Or.inl rfl, hq 0 σ2 (Or.inr ?_)⟩⟩)
      · obtain ⟨p1, p2⟩ := PO_1 p hb
        rw [gbd_0 p1] at hq
        obtain ⟨t1, P, t2, t3, t4⟩ := s4 p1
        have hl : (sub (k + 1) o).2.2.length + 1 ≤ (sub (k + 1) o).2.1 := by rw [t2, List.length_append]; omega
        refine b61_3 ?_
        rw [hc] at hq
        refine w16 (by omega) p2 (fun σ3 g3 => ?_)
        rw [wr_id (x := x2 + 1) (by omega) (by omega)]
        exact l61 hT hs hx n (x2 + 1) σ3 _ _ (by omega) (by omega) s2 (by rw [List.length_append]; exact hl) g3 hq
      · have hb0 : b = 0 := by
          rcases PO_b p with z | z
          · exact z
          · exact absurd (by omega) hb
        obtain ⟨p1, p2⟩ := PO_0 p hb0
        rw [gbd_f p1]
        exact ⟨p1, rfl, p2⟩
theorem l60 {Q : dR → dS → Prop} {a : Int} (hT : TK c q v N S) (hs : GK B N sub) (hx : XSb q N S (d + 2) 61 a sub) : ∀ (n : Nat) (x2 : Int) (σ : dS) (k : Nat) (o : List Int), 0 ≤ x2 → x2 + n = 700 → k ≤ N → o.length ≤ k → XA S k o σ → (∀ b σ', PO q S (glp c opO sub n k o) b σ' → Q (.inl (some (.inl b))) σ') → B60_8 (d + 1) Q a x2 σ
  | 0, x2, σ, k, o, x0, hn, hk, ho, h, hq => b60_8 ⟨fun _ => b60_10 ⟨Or.inr rfl, hq 1 σ (Or.inl ⟨rfl, rfl, h⟩)⟩, fun z => absurd (by omega) z⟩
  | n + 1, x2, σ, k, o, x0, hn, hk, ho, h, hq => by
    refine b60_8 ⟨fun z => absurd z (by omega), fun _ => w47 hT hk h ⟨fun hc => ?_, fun hc2 σ1 e1 => ?_⟩⟩
    · have e : glp c opO sub (n + 1) k o = (0, k, o) := by
        show (if opO (c k) = true then _ else _) = _
        have hop : ¬ opO (c k) = true := fun z => hc (of_decide_eq_true z)
        rw [if_neg hop]
      rw [e] at hq
      exact b60_10 ⟨Or.inr rfl, hq 1 σ (Or.inl ⟨rfl, rfl, h⟩)⟩
    · have hc : c k = 137 := by omega
      have hlt := TK_ne hT hk (by omega)
      have hN := hT.2.1
      have e : glp c opO sub (n + 1) k o = gbd (sub (k + 1) o) (fun k' o' => glp c opO sub n k' (o' ++ [-(c k)])) := by
        show (if opO (c k) = true then _ else _) = _
        have hop : opO (c k) = true := decide_eq_true hc
        rw [if_pos hop]
      rw [e] at hq
      have g1 : XA S (k + 1) o σ1 := by rw [e1]; exact XA_nx (by omega) h
      obtain ⟨s1, s2, s3, s4⟩ := hs (k + 1) o (by omega)
      refine hx _ _ σ1 (k + 1) o (by omega) (by omega) g1 (fun b σ2 p => ⟨fun hb => ?_, fun hb => ⟨Or.inl rfl, hq 0 σ2 (Or.inr ?_)⟩⟩)
      · obtain ⟨p1, p2⟩ := PO_1 p hb
        rw [gbd_0 p1] at hq
        obtain ⟨t1, P, t2, t3, t4⟩ := s4 p1
        have hl : (sub (k + 1) o).2.2.length + 1 ≤ (sub (k + 1) o).2.1 := by rw [t2, List.length_append]; omega
        refine b60_9 ?_
        rw [hc] at hq
        refine w16 (by omega) p2 (fun σ3 g3 => ?_)
        rw [wr_id (x := x2 + 1) (by omega) (by omega)]
        exact l60 hT hs hx n (x2 + 1) σ3 _ _ (by omega) (by omega) s2 (by rw [List.length_append]; exact hl) g3 hq
      · have hb0 : b = 0 := by
          rcases PO_b p with z | z
          · exact z
          · exact absurd (by omega) hb
        obtain ⟨p1, p2⟩ := PO_0 p hb0
        rw [gbd_f p1]
        exact ⟨p1, rfl, p2⟩
theorem x61 {a : Int} (hT : TK c q v N S) (hs : GK B N sub) (hx : XSb q N S (d + 2) 62 a sub) : XSb q N S (d + 3) 61 a (gch c opA sub) := by
  intro Q K σ k o hk ho h hq
  obtain ⟨s1, s2, s3, s4⟩ := hs k o hk
  refine c61 (b61_0 (hx _ _ σ k o hk ho h (fun b σ2 p => ⟨fun hb => b61_1 ?_, fun hb => ⟨Or.inl rfl, hq 0 σ2 (Or.inr ?_)⟩⟩)))
  · obtain ⟨p1, p2⟩ := PO_1 p hb
    unfold gch at hq
    rw [gbd_0 p1] at hq
    exact l61 hT hs hx 700 0 σ2 _ _ (by decide) (by decide) s2 (GK_len hs hk ho p1) p2 hq
  · have hb0 : b = 0 := by
      rcases PO_b p with z | z
      · exact z
      · exact absurd (by omega) hb
    obtain ⟨p1, p2⟩ := PO_0 p hb0
    unfold gch
    rw [gbd_f p1]
    exact ⟨p1, rfl, p2⟩
theorem x60 {a : Int} (a6 : a < 6) (hT : TK c q v N S) (hs : GK B N sub) (hx : XSb q N S (d + 2) 61 a sub) : XSb q N S (d + 3) 60 a (gch c opO sub) := by
  intro Q K σ k o hk ho h hq
  obtain ⟨s1, s2, s3, s4⟩ := hs k o hk
  refine c60 (b60_0 ⟨fun _ => b60_6 (hx _ _ σ k o hk ho h (fun b σ2 p => ⟨fun hb => b60_7 ?_, fun hb => ⟨Or.inl rfl, hq 0 σ2 (Or.inr ?_)⟩⟩)), fun z => absurd a6 z⟩)
  · obtain ⟨p1, p2⟩ := PO_1 p hb
    unfold gch at hq
    rw [gbd_0 p1] at hq
    exact l60 hT hs hx 700 0 σ2 _ _ (by decide) (by decide) s2 (GK_len hs hk ho p1) p2 hq
  · have hb0 : b = 0 := by
      rcases PO_b p with z | z
      · exact z
      · exact absurd (by omega) hb
    obtain ⟨p1, p2⟩ := PO_0 p hb0
    unfold gch
    rw [gbd_f p1]
    exact ⟨p1, rfl, p2⟩
theorem x60_6 (hT : TK c q v N S) : XSb q N S (d + 3) 60 6 (gex c v 0) := by
  intro Q K σ k o hk ho h hq
  have two : (c k = 1 ∨ c k = 40 ∨ 128 ≤ c k) → ∀ Q', (∀ b σ', PO q S (gex c v 0 k o) b σ' → Q' (.inl (some (.inl b))) σ') → B60_1 (d + 1) Q' σ := by
    intro hc Q' hq'
    refine b60_1 (b60_3 ⟨fun z => absurd z (by decide), fun _ => b60_5 (w48 hT hk h (fun σ' g => ⟨Or.inl rfl, hq' 0 σ' (Or.inr ?_)⟩))⟩)
    unfold gex
    rw [if_pos hc]
    exact ⟨ne_2, rfl, g⟩
  have one : ¬ (c k = 1 ∨ c k = 40 ∨ 128 ≤ c k) → ∀ Q', (∀ b σ', PO q S (gex c v 0 k o) b σ' → Q' (.inl (some (.inl b))) σ') → B60_2 (d + 1) Q' σ := by
    intro hc Q' hq'
    refine b60_2 (b60_3 ⟨fun _ => b60_4 (b60_5 (w48 hT hk h (fun σ' g => ⟨Or.inl rfl, hq' 0 σ' (Or.inr ?_)⟩))), fun z => absurd rfl z⟩)
    unfold gex
    rw [if_neg hc]
    exact ⟨ne_1, rfl, g⟩
  exact c60 (b60_0 ⟨fun z => absurd z (by decide), fun _ => w47 hT hk h ⟨fun z => two (Or.inl z) _ hq, fun z => w47 hT hk h ⟨fun z2 => two (Or.inr (Or.inl z2)) _ hq, fun z2 => w47 hT hk h ⟨fun z3 => one (by omega) _ hq, fun z3 => two (Or.inr (Or.inr (by omega))) _ hq⟩⟩⟩⟩)
theorem x63 {a : Int} (hT : TK c q v N S) (hs : GK B N sub) (hx : XSb q N S (d + 2) 64 a sub) : XSb q N S (d + 3) 63 a (gts c sub) := by
  intro Q K σ k o hk ho h hq
  obtain ⟨s1, s2, s3, s4⟩ := hs k o hk
  unfold gts at hq
  refine c63 (b63_0 (hx _ _ σ k o hk ho h (fun b σ2 p => ⟨fun hb => b63_1 ?_, fun hb => ⟨Or.inl rfl, hq 0 σ2 (Or.inr ?_)⟩⟩)))
  · obtain ⟨p1, p2⟩ := PO_1 p hb
    rw [gbd_0 p1] at hq
    have hl := GK_len hs hk ho p1
    have hN := hT.2.1
    have no : ¬ (c (sub k o).2.1 = 60 ∨ c (sub k o).2.1 = 61) → ∀ Q', (∀ b σ', PO q S (0, (sub k o).2.1, (sub k o).2.2) b σ' → Q' (.inl (some (.inl b))) σ') → B63_4 (d + 1) Q' σ2 := fun _ Q' hq' => b63_4 ⟨Or.inr rfl, hq' 1 σ2 (Or.inl ⟨rfl, rfl, p2⟩)⟩
    have go : (c (sub k o).2.1 = 60 ∨ c (sub k o).2.1 = 61) → ∀ Q', (∀ b σ', PO q S (gbd (sub ((sub k o).2.1 + 1) (sub k o).2.2) (fun k2 o2 => (0, k2, o2 ++ [-(c (sub k o).2.1)]))) b σ' → Q' (.inl (some (.inl b))) σ') → B63_2 (d + 1) Q' a (c (sub k o).2.1) σ2 := by
      intro hc Q' hq'
      have hlt := TK_ne hT s2 (by omega)
      have ew : wr (-(c (sub k o).2.1)) = -(c (sub k o).2.1) := wr_id (by omega) (by omega)
      refine b63_2 (fun σ3 e3 => ?_)
      have g3 : XA S ((sub k o).2.1 + 1) (sub k o).2.2 σ3 := by rw [e3]; exact XA_nx (by omega) p2
      obtain ⟨u1, u2, u3, u4⟩ := hs ((sub k o).2.1 + 1) (sub k o).2.2 (by omega)
      refine hx _ _ σ3 _ _ (by omega) (by omega) g3 (fun b σ4 r => ⟨fun hb => b63_3 ?_, fun hb => ⟨Or.inl rfl, hq' 0 σ4 (Or.inr ?_)⟩⟩)
      · obtain ⟨r1, r2⟩ := PO_1 r hb
        rw [gbd_0 r1] at hq'
        obtain ⟨t1, P, t2, t3, t4⟩ := u4 r1
        have hl2 : (sub ((sub k o).2.1 + 1) (sub k o).2.2).2.2.length + 1 ≤ (sub ((sub k o).2.1 + 1) (sub k o).2.2).2.1 := by rw [t2, List.length_append]; omega
        rw [ew]
        exact w16 (by omega) r2 (fun σ5 g5 => b63_4 ⟨Or.inr rfl, hq' 1 σ5 (Or.inl ⟨rfl, rfl, g5⟩)⟩)
      · have hb0 : b = 0 := by
          rcases PO_b r with z | z
          · exact z
          · exact absurd (by omega) hb
        obtain ⟨r1, r2⟩ := PO_0 r hb0
        rw [gbd_f r1]
        exact ⟨r1, rfl, r2⟩
    refine w47 hT s2 p2 ⟨fun z => go (Or.inl z) _ ?_, fun z => ⟨fun y => no (by omega) _ ?_, fun y => go (Or.inr (by omega)) _ ?_⟩⟩
    · rw [if_pos (Or.inl z)] at hq; exact hq
    · rw [if_neg (by omega)] at hq; exact hq
    · rw [if_pos (Or.inr (by omega))] at hq; exact hq
  · have hb0 : b = 0 := by
      rcases PO_b p with z | z
      · exact z
      · exact absurd (by omega) hb
    obtain ⟨p1, p2⟩ := PO_0 p hb0
    rw [gbd_f p1]
    exact ⟨p1, rfl, p2⟩
theorem l62b {Q : dR → dS → Prop} {j k N' : Nat} : ∀ (n : Nat) (x3 : Int) (σ : dS) (o : List Int), 0 ≤ x3 → j ≤ 6 → x3 + n = j → o.length + n ≤ 700 → XA S k o σ → (∀ σ', XA S k (o ++ List.replicate n (-139)) σ' → Q (.inl (some (.inl 1))) σ') → B62_5 (d + 1) Q (j : Int) x3 σ
  | 0, x3, σ, o, x0, hj, hn, ho, h, hq => b62_5 ⟨fun _ => b62_6 ⟨Or.inr rfl, hq σ (by simpa using h)⟩, fun z => absurd (by omega) z⟩
  | n + 1, x3, σ, o, x0, hj, hn, ho, h, hq => by
    refine b62_5 ⟨fun z => absurd z (by omega), fun _ => w16 (by omega) h (fun σ1 g1 => ?_)⟩
    rw [wr_id (x := x3 + 1) (by omega) (by omega)]
    refine l62b (N' := N') n (x3 + 1) σ1 _ (by omega) hj (by omega) (by simp only [List.length_append, List.length_cons, List.length_nil]; omega) g1 (fun σ' g => hq σ' ?_)
    rw [List.append_assoc] at g
    exact g
theorem l62 {Q : dR → dS → Prop} {a : Int} (hT : TK c q v N S) (hs : GK B N sub) (hx : XSb q N S (d + 2) 63 a sub) {o : List Int} : ∀ (n j : Nat) (σ : dS) (k : Nat), j + n = 6 → k ≤ N → o.length + j ≤ k → XA S k o σ → (∀ b σ', PO q S (gnt c sub n j k o) b σ' → Q (.inl (some (.inl b))) σ') → B62_1 (d + 1) Q a (j : Int) (j : Int) σ := by
  have fin : ∀ (j : Nat) (σ : dS) (k : Nat), j ≤ 6 → k ≤ N → o.length + j ≤ k → XA S k o σ → (∀ b σ', PO q S (gno sub j k o) b σ' → Q (.inl (some (.inl b))) σ') → B62_3 (d + 1) Q a (j : Int) σ := by
    intro j σ k hj hk ho h hq
    obtain ⟨s1, s2, s3, s4⟩ := hs k o hk
    have hN := hT.2.1
    unfold gno at hq
    refine b62_3 (hx _ _ σ k o hk (by omega) h (fun b σ2 p => ⟨fun hb => b62_4 ?_, fun hb => ⟨Or.inl rfl, hq 0 σ2 (Or.inr ?_)⟩⟩))
    · obtain ⟨p1, p2⟩ := PO_1 p hb
      rw [gbd_0 p1] at hq
      obtain ⟨t1, P, t2, t3, t4⟩ := s4 p1
      have hl2 : (sub k o).2.2.length + j ≤ (sub k o).2.1 := by rw [t2, List.length_append]; omega
      exact l62b (N' := N) j 0 σ2 _ (by decide) hj (by omega) (by omega) p2 (fun σ' g => hq 1 σ' (Or.inl ⟨rfl, rfl, g⟩))
    · have hb0 : b = 0 := by
        rcases PO_b p with z | z
        · exact z
        · exact absurd (by omega) hb
      obtain ⟨p1, p2⟩ := PO_0 p hb0
      rw [gbd_f p1]
      exact ⟨p1, rfl, p2⟩
  intro n
  induction n with
  | zero =>
    intro j σ k hj hk ho h hq
    refine b62_1 ⟨fun z => absurd z (by omega), fun _ => w47 hT hk h ⟨fun z => ?_, fun z => ⟨fun y => absurd (by omega) y, fun _ => w48 hT hk h (fun σ' g => ⟨Or.inl rfl, hq 0 σ' (Or.inr ?_)⟩)⟩⟩⟩
    · unfold gnt at hq
      rw [if_neg z] at hq
      exact fin j σ k (by omega) hk ho h hq
    · unfold gnt
      rw [if_pos (by omega)]
      exact ⟨ne_2, rfl, g⟩
  | succ n ih =>
    intro j σ k hj hk ho h hq
    have hN := hT.2.1
    refine b62_1 ⟨fun z => absurd z (by omega), fun _ => w47 hT hk h ⟨fun z => ?_, fun z => ⟨fun _ => b62_2 (fun σ1 e1 => ?_), fun y => absurd (by omega) y⟩⟩⟩
    · unfold gnt at hq
      rw [if_neg z] at hq
      exact fin j σ k (by omega) hk ho h hq
    · have hc : c k = 139 := by omega
      have hlt := TK_ne hT hk (by omega)
      unfold gnt at hq
      rw [if_pos hc] at hq
      have e : wr ((j : Int) + 1) = ((j + 1 : Nat) : Int) := by rw [wr_id (by omega) (by omega)]; omega
      rw [e]
      exact ih (j + 1) σ1 (k + 1) (by omega) (by omega) (by omega) (by rw [e1]; exact XA_nx (by omega) h) hq
theorem x62 {a : Int} (hT : TK c q v N S) (hs : GK B N sub) (hx : XSb q N S (d + 2) 63 a sub) : XSb q N S (d + 3) 62 a (gnt c sub 6 0) := by
  intro Q K σ k o hk ho h hq
  exact c62 (b62_0 (l62 hT hs hx 6 0 σ k (by decide) hk ho h hq))
end RL
/-- a whole expression, nested as deep as may be -/
theorem xEx {c q v : Nat → Int} {N : Nat} {S : dS} {d : Nat} (hT : TK c q v N S) : ∀ (r : Nat) (a : Int), a + r = 6 → 0 ≤ a → XSb q N S (d + 7 * r + 3) 60 a (gex c v r)
  | 0, a, ha, h0 => by
    have : a = 6 := by omega
    rw [this]
    exact x60_6 hT
  | r + 1, a, ha, h0 => by
    have ih := xEx (d := d) hT r (a + 1) (by omega) (by omega)
    have v0 : ∀ k, 0 ≤ v k := fun k => (hT.2.2.1 k).1
    have k0 := gex_k hT.1 hT.2.1 v0 r
    have x1 := x66 (d := d + 7 * r) h0 (by omega) hT k0 ih
    have k1 := gpt_k hT.1 v0 k0 (by omega)
    have x2 := x65 (d := d + 7 * r + 2) hT k1 x1
    have k2 := gpr_k hT.1 hT.2.1 v0 k0 (by omega)
    have x3 := x64 (d := d + 7 * r + 3) hT k2 x2
    have k3 := gsm_k hT.1 hT.2.1 v0 k0 (by omega)
    have x4 := x63 (d := d + 7 * r + 4) hT k3 x3
    have k4 := gts_k hT.1 k3
    have x5 := x62 (d := d + 7 * r + 5) hT k4 x4
    have k5 := gnn_k hT.1 hT.2.1 v0 k0 (by omega)
    have x6 := x61 (d := d + 7 * r + 6) hT k5 x5
    have k6 := gan_k hT.1 hT.2.1 v0 k0 (by omega)
    exact x60 (d := d + 7 * r + 7) (by omega) hT k6 x6
