/-! CITY, IN PAIR -/
section PC
variable {d : Nat} {Q : dR → dS → Prop} {K : Int → dS → Prop} {σ S : dS}
theorem CR_u0 {k : Nat} {D : dS} {dt : Bool} {rs : List (List Int)} {j x : Int} (h : CR S k D dt rs σ) : CR (up S 0 j x) k D dt rs (up σ 0 j x) := by
  obtain ⟨a1, a2, a3, a4, a5, a6, a7, a8, a9, a10, a11⟩ := h
  refine ⟨fun y h1 h2 => ?_, by rw [up_k (by decide), up_k (by decide)]; exact a2, by rw [up_k (by decide)]; exact a3, by rw [up_k (by decide)]; exact a4, by rw [up_k (by decide)]; exact a5, by rw [up_k (by decide)]; exact a6, fun y hy => by rw [up_k (by omega)]; exact a7 y hy, by rw [up_k (by decide)]; exact a8, by rw [up_k (by decide)]; exact a9, seg_k (up_k (by decide)) a10, by rw [up_k (by decide)]; exact a11⟩
  have e := a1 y h1 h2
  funext i
  by_cases z : y = 0 ∧ i = j
  · rw [z.1, z.2, up_same, up_same]
  · rw [up_ne _ z, up_ne _ z, e]
theorem TK_k {c q v : Nat → Int} {N : Nat} {σ' : dS} (h63 : σ' 63 = σ 63) (h65 : σ' 65 = σ 65) (h67 : σ' 67 = σ 67) (h : TK c q v N σ) : TK c q v N σ' := by
  unfold TK
  rw [h63, h65, h67]; exact h
/-- the cells that a city's reading leaves -/
abbrev cyl (x : Nat) : Prop := x ≠ 0 ∧ ¬ (33 ≤ x ∧ x ≤ 60) ∧ x ≠ 61 ∧ x ≠ 63 ∧ x ≠ 65 ∧ x ≠ 67 ∧ x ≠ 68
theorem p_city {w : Int} (hw : w ≤ 2147483647) (hI : INV σ) (h0 : ∀ v σ1, PRN (d + 60) 194 [.inr (.inr 153), .inl w] v σ1 → K v σ1) (h1 : ∀ σ1, PRE (d + 60) 194 [.inr (.inr 153), .inl w] 1 σ1 → Q (.inr 1) σ1) : wI (d + 60) 100 [.inr (.inr 0), .inl w] σ Q K := by
  obtain ⟨i1, i2, i3, i4, i5, i6, i7, i8, i9, i10, i11, i12, i13, i14, i15⟩ := id hI
  obtain ⟨t1, t2, t3, t4⟩ := i7
  have bad : ¬ (0 ≤ w ∧ w ≤ σ 0 1) → Q (.inr 1) σ := by
    intro hb
    refine h1 σ (fun S hS Qm Km hk => ?_)
    have e15 : S 153 15 = σ 0 1 := by rw [hS 153 (by decide)]; exact t1
    have go : ∀ s1 : dS, s1 = up S 153 0 0 → B194_1 (d + 58) (fun res σ1 => match res with | .inl (some (.inl v)) => Km v σ1 | .inl _ => False | .inr e => Qm (.inr e) σ1) w s1 := by
      intro s1 f1
      refine b194_1 (b194_2 (w158 (d := d + 57) (by rw [f1, up_same]) (by decide) (fun z => absurd rfl z) (fun _ => ⟨fun z => absurd rfl z, fun _ => hk 0 _ (up_same _ _ _ _) (INV_F ?_ hI)⟩)))
      rw [f1]
      refine ⟨fun k q1 q2 q3 => ?_, fun j hj => ?_, fun j j0 j1 => ?_⟩
      · rw [up_k q2, up_k q2, hS k (fun e => q1 (by rw [e]; decide))]
      · rw [up_i hj, up_i hj, hS 153 (by decide)]
      · rw [up_k (by decide), up_k (by decide), hS 174 (by decide)]
    refine c194 (b194_0 (fun s1 f1 => ⟨fun _ => go s1 f1, fun z => ⟨fun _ => go s1 f1, fun y => absurd ?_ hb⟩⟩))
    rw [f1, up_i (by decide), e15] at y
    omega
  refine c100 (b100_0 ⟨fun z => b100_1 (bad (by omega)), fun z => ⟨fun y => ?_, fun y => b100_1 (bad (by omega))⟩⟩)
  obtain ⟨n, rfl⟩ : ∃ n : Nat, w = (n : Int) := ⟨w.toNat, by omega⟩
  have hn : n ≤ 700 := by omega
  obtain ⟨N, hN, hN1, hN2⟩ := lxN_is (T := σ 2) (n := n)
  refine b100_2 (w37 (d := d + 55) (T := σ 2) hN hN1 hN2 hn (fun j hj => ⟨rfl, (t4 j (by omega) (by omega)).2⟩) (fun s1 a1 a2 hTK s2 f2 => ?_))
  have hTK2 : TK (fun k => lxC (σ 2) n (lxQ (σ 2) n k)) (fun k => ((lxQ (σ 2) n k : Nat) : Int)) (fun k => lxV (σ 2) n (lxQ (σ 2) n k)) N s2 := TK_k (by rw [f2, up_k (by decide)]) (by rw [f2, up_k (by decide)]) (by rw [f2, up_k (by decide)]) hTK
  have F2 : ∀ x, x ≠ 0 → x ≠ 61 → x ≠ 63 → x ≠ 65 → x ≠ 67 → s2 x = σ x := fun x x0 x1 x2 x3 x4 => by rw [f2, up_k x0]; exact a1 x x1 x2 x3 x4
  have F20 : ∀ j, j ≠ 1 → s2 0 j = σ 0 j := fun j hj => by rw [f2, up_i hj, a1 0 (by decide) (by decide) (by decide) (by decide)]
  have F201 : s2 0 1 = 0 := by rw [f2, up_same]
  refine x46 (d := d + 11) hTK2 (fun hz s3 hR s4 f4 => ⟨fun _ => ?_, fun q => absurd rfl q⟩) (fun hz s3 hF s4 f4 => ⟨fun q => absurd q hz, fun _ => w112 (by decide) (by decide) ?_⟩)
  · -- the text has no fault
    have c0 : tkc (σ 2) n N = 0 := by show lxC (σ 2) n (lxQ (σ 2) n N) = 0; unfold lxC; rw [if_pos hN1]
    have v0 : ∀ k, 0 ≤ tkv (σ 2) n k := fun k => (lxV_r _).1
    obtain ⟨p1, p2, p3⟩ := PV_all c0 (by omega) v0 700 0 (D00 s2) false [] (Nat.zero_le N) PV_00 (Nat.le_refl 0) hz
    have e4 : s4 = up s3 0 2 (-1) := by rw [f4, hR.2.2.2.2.1]
    have hR4 := CR_u0 (j := 2) (x := -1) hR
    rw [← e4] at hR4
    refine b100_3 (w26 (d := d + 56) p2.2.2.2.2.2.2.1 (by omega) hR4 (fun s5 g5 hCC => w33 (d := d + 56) (fun s6 k1 k2 k3 k4 k5 k6 k7 => ⟨Or.inl rfl, fun s7 f7 => ⟨Or.inl rfl, fun s8 f8 => h0 0 s8 (fun S hS Qm Km hk => ?_)⟩⟩)))
    -- what the class left
    have F4 : ∀ x, cyl x → s4 x = σ x := fun x hx => by rw [f4, up_k hx.1, hR.1 x hx.2.1 hx.2.2.2.2.2.2]; exact F2 x hx.1 hx.2.2.1 hx.2.2.2.1 hx.2.2.2.2.1 hx.2.2.2.2.2.1
    have F8 : ∀ x, cyl x → ¬ cnw x → x ≠ 70 → x ≠ 72 → x ≠ 74 → x ≠ 75 → x ≠ 82 → s8 x = σ x := fun x hx hc x1 x2 x3 x4 x5 => by rw [f8, up_k hx.1, f7, up_k hx.1, k1 x x1 x2 x3 x4 x5, g5 x hc]; exact F4 x hx
    have G8 : ∀ x, x ≠ 0 → x ≠ 70 → x ≠ 72 → x ≠ 74 → x ≠ 75 → x ≠ 82 → s8 x = s5 x := fun x x0 x1 x2 x3 x4 x5 => by rw [f8, up_k x0, f7, up_k x0]; exact k1 x x1 x2 x3 x4 x5
    have G80 : ∀ x, x ≠ 0 → s8 x = s6 x := fun x x0 => by rw [f8, up_k x0, f7, up_k x0]
    have z0 : ∀ j, j ≠ 10 → j ≠ 17 → s8 0 j = s4 0 j := fun j j0 j1 => by rw [f8, up_i j1, f7, up_i j0, k1 0 (by decide) (by decide) (by decide) (by decide) (by decide), g5 0 (by decide)]
    have z4 : s4 0 1 = 0 ∧ s4 0 2 = -1 := by
      rw [f4, up_i (by decide), up_same, hR.1 0 (by decide) (by decide), hR.2.2.2.2.1]
      exact ⟨F201, rfl⟩
    -- the reference
    have e161 : S 161 = σ 161 := by rw [hS 161 (by decide)]; exact F8 161 (by decide) (by decide) (by decide) (by decide) (by decide) (by decide) (by decide)
    have e153 : S 153 = σ 153 := by rw [hS 153 (by decide)]; exact F8 153 (by decide) (by decide) (by decide) (by decide) (by decide) (by decide) (by decide)
    refine m_city (d := d + 40) (T := σ 2) (S0 := s2) (N := N) hn hN hN1 (fun j hj => by rw [e161]; exact (t4 j (by omega) (by omega)).1) (by rw [e153, t1]; exact y) (fun _ t sE hC hM => ?_) (fun q => absurd hz q)
    obtain ⟨c1, c2, ⟨c3, c15, -⟩, -, -⟩ := hC
    have FE : ∀ x, x ≠ 153 → ¬ (154 ≤ x ∧ x ≤ 160) → ¬ (163 ≤ x ∧ x ≤ 174) → x ≠ 177 → x ≠ 197 → sE x = s8 x := fun x x1 x2 x3 x4 x5 => by rw [hM.1 x x1 x2 x3 x4, c1 x x1 (by omega), hS x x5]
    have lo : ∀ x, x < 153 → sE x = s8 x := fun x hx => FE x (by omega) (by omega) (by omega) (by omega) (by omega)
    refine hk sE (by rw [hM.2.1 0 (by omega)]; exact c3) (INV_city p2 (by omega) ?_ hM ?_ ?_ ?_ ?_ ?_ ?_ ?_ (by rw [hM.2.1 15 (by omega)]; exact c15) ?_)
    · obtain ⟨x1, x2, x3, x4, x5, x6, x7, x8, x9, x10, x11, x12, x13, x14⟩ := hCC
      have e : ∀ x, x < 31 → x ≠ 0 → sE x = s5 x := fun x hx h0 => by rw [lo x (by omega)]; exact G8 x h0 (by omega) (by omega) (by omega) (by omega) (by omega)
      unfold CC
      rw [e 5 (by decide) (by decide), e 7 (by decide) (by decide), e 9 (by decide) (by decide), e 11 (by decide) (by decide), e 13 (by decide) (by decide), e 15 (by decide) (by decide), e 17 (by decide) (by decide), e 19 (by decide) (by decide), e 21 (by decide) (by decide), e 23 (by decide) (by decide), e 25 (by decide) (by decide), e 26 (by decide) (by decide), e 30 (by decide) (by decide)]
      exact ⟨x1, x2, x3, x4, x5, x6, x7, x8, x9, x10, x11, x12, seg_k (e 28 (by decide) (by decide)) x13, x14⟩
    · rw [lo 70 (by decide), lo 26 (by decide), G80 70 (by decide), G8 26 (by decide) (by decide) (by decide) (by decide) (by decide) (by decide)]; exact k2
    · rw [lo 70 (by decide), G80 70 (by decide)]; exact k3
    · rw [lo 72 (by decide), lo 7 (by decide), G80 72 (by decide), G8 7 (by decide) (by decide) (by decide) (by decide) (by decide) (by decide)]; exact k4
    · rw [lo 74 (by decide), lo 13 (by decide), G80 74 (by decide), G8 13 (by decide) (by decide) (by decide) (by decide) (by decide) (by decide)]; exact k5
    · rw [lo 75 (by decide), G80 75 (by decide), k6.2 1 (by decide), g5 75 (by decide), F4 75 (by decide)]
      exact ⟨k6.1, i10.1⟩
    · rw [lo 82 (by decide), G80 82 (by decide), k7.2 1 (by decide), g5 82 (by decide), F4 82 (by decide)]
      exact ⟨k7.1, i10.2⟩
    · rw [lo 0 (by decide)]
      refine ⟨by rw [z0 1 (by decide) (by decide)]; exact z4.1, by rw [z0 2 (by decide) (by decide)]; exact z4.2, ?_, ?_⟩
      · rw [f8, up_i (by decide), f7, up_same]
      · rw [f8, up_same]
    · rw [lo 4 (by decide), FE 162 (by decide) (by decide) (by decide) (by decide) (by decide), F8 162 (by decide) (by decide) (by decide) (by decide) (by decide) (by decide) (by decide), F8 4 (by decide) (by decide) (by decide) (by decide) (by decide) (by decide) (by decide)]
      exact i8
  · -- the text has a fault
    have F4 : ∀ x, cyl x → s4 x = σ x := fun x hx => by rw [f4, up_k hx.1, hF.1 x hx.2.1 hx.2.2.2.2.2.2]; exact F2 x hx.1 hx.2.2.1 hx.2.2.2.1 hx.2.2.2.2.1 hx.2.2.2.2.2.1
    have z4 : ∀ j, j ≠ 1 → j ≠ 2 → s4 0 j = σ 0 j := fun j j1 j2 => by rw [f4, up_i j2, hF.1 0 (by decide) (by decide)]; exact F20 j j1
    have z41 : s4 0 1 = 0 := by rw [f4, up_i (by decide), hF.1 0 (by decide) (by decide)]; exact F201
    have z42 : s4 0 2 = tkq (σ 2) n (lnAll (tkc (σ 2) n) (tkv (σ 2) n) 700 0 (D00 s2) false []).2.1 := by rw [f4, up_same]; exact hF.2.2.2
    refine h0 _ _ (fun S hS Qm Km hk => ?_)
    have e161 : S 161 = σ 161 := by rw [hS 161 (by decide), up_k (by decide)]; exact F4 161 (by decide)
    have e153 : S 153 = σ 153 := by rw [hS 153 (by decide), up_k (by decide)]; exact F4 153 (by decide)
    refine m_city (d := d + 40) (T := σ 2) (S0 := s2) (N := N) hn hN hN1 (fun j hj => by rw [e161]; exact (t4 j (by omega) (by omega)).1) (by rw [e153, t1]; exact y) (fun q => absurd q hz) (fun _ t s5 hC hM => ?_)
    obtain ⟨c1, c2, ⟨c3, c15, -⟩, -, -⟩ := hC
    generalize hE : up s5 162 0 (wr (s5 162 0 + 1)) = sE
    have FE : ∀ x, x ≠ 153 → ¬ (163 ≤ x ∧ x ≤ 173) → x ≠ 162 → x ≠ 197 → x ≠ 4 → cyl x → sE x = σ x := fun x x1 x2 x3 x4 x5 x6 => by rw [← hE, up_k x3, hM.1.1 x x1 x2, c1 x x1 (by omega), hS x x4, up_k x5]; exact F4 x x6
    have Fj : ∀ j, (1 ≤ j ∧ j < 15) ∨ j = 18 ∨ (36 ≤ j ∧ j ≠ 1026) → sE 153 j = σ 153 j := fun j hj => by rw [← hE, up_k (by decide), hM.1.2 j (by omega), c2 j (by omega) (by omega) (by omega) (by omega) (by omega) (by omega) (by omega) (by omega) (by omega) (by omega) (by omega) (by omega) (by omega), e153]
    have FE0 : sE 0 = s4 0 := by rw [← hE, up_k (by decide), hM.1.1 0 (by decide) (by decide), c1 0 (by decide) (by decide), hS 0 (by decide), up_k (by decide)]
    have FE4 : sE 4 = up s4 4 0 (wr (s4 4 0 + 1)) 4 := by rw [← hE, up_k (by decide), hM.1.1 4 (by decide) (by decide), c1 4 (by decide) (by decide), hS 4 (by decide)]
    have E162 : s5 162 = σ 162 := by rw [hM.1.1 162 (by decide) (by decide), c1 162 (by decide) (by decide), hS 162 (by decide), up_k (by decide)]; exact F4 162 (by decide)
    have gc : ∀ k, cty k → sE k = σ k := fun k hk => FE k (by omega) (by omega) (by omega) (by omega) (by omega) ⟨by omega, by omega, by omega, by omega, by omega, by omega, by omega⟩
    have g5 := gc 5 (by decide)
    have g26 := gc 26 (by decide)
    have hR := i1.1
    have hO := i1.2.1
    refine hk sE (by rw [← hE, up_k (by decide), hM.1.2 0 (by omega)]; exact c3) (INV_of hI gc (fun k k1 k2 => FE k (by omega) (by omega) (by omega) (by omega) (by omega) ⟨by omega, by omega, by omega, by omega, by omega, by omega, by omega⟩) (FE 177 (by decide) (by decide) (by decide) (by decide) (by decide) (by decide)) (fun j j1 j2 => Fj j (by omega)) (skS_k g5 g26 (FE 70 (by decide) (by decide) (by decide) (by decide) (by decide) (by decide)) (FE 72 (by decide) (by decide) (by decide) (by decide) (by decide) (by decide)) (FE 74 (by decide) (by decide) (by decide) (by decide) (by decide) (by decide)) i5)
      (skR_k g5 (fun j _ _ => by rw [FE 174 (by decide) (by decide) (by decide) (by decide) (by decide) (by decide)]) (FE 70 (by decide) (by decide) (by decide) (by decide) (by decide) (by decide)) (FE 72 (by decide) (by decide) (by decide) (by decide) (by decide) (by decide)) (FE 74 (by decide) (by decide) (by decide) (by decide) (by decide) (by decide)) hR.2 hO.2 i6) ?_ ?_ ?_ ?_ ?_ ?_ ?_ ?_)
    · refine ⟨?_, by rw [FE0, z41]; omega, by rw [FE0, z41]; omega, fun k k0 k1 => by rw [FE0, z41] at k1; omega⟩
      rw [FE0, z41, ← hE, up_k (by decide), hM.1.2 15 (by omega)]; exact c15
    · intro k k0 k3
      rw [FE4, ← hE, E162]
      have a8 := i8 k k0 k3
      have a80 := i8 0 (by decide) (by decide)
      rw [F4 4 (by decide)]
      by_cases e : k = 0
      · rw [e, up_same, up_same, a80]
      · rw [up_i e, up_i e, E162, F4 4 (by decide)]; exact a8
    · rw [FE0, z42, ← hE, up_k (by decide)]; exact hM.2.2
    · rw [FE 75 (by decide) (by decide) (by decide) (by decide) (by decide) (by decide), FE 82 (by decide) (by decide) (by decide) (by decide) (by decide) (by decide)]; exact i10
    · rw [Fj 50 (by omega)]
      exact actR_k g5 g26 (FE 75 (by decide) (by decide) (by decide) (by decide) (by decide) (by decide)) (FE 77 (by decide) (by decide) (by decide) (by decide) (by decide) (by decide)) (FE 79 (by decide) (by decide) (by decide) (by decide) (by decide) (by decide)) (FE 81 (by decide) (by decide) (by decide) (by decide) (by decide) (by decide)) (FE 176 (by decide) (by decide) (by decide) (by decide) (by decide) (by decide)) i11
    · rw [Fj 67 (by omega)]
      exact seenR_k g5 (FE 82 (by decide) (by decide) (by decide) (by decide) (by decide) (by decide)) (FE 84 (by decide) (by decide) (by decide) (by decide) (by decide) (by decide)) (FE 86 (by decide) (by decide) (by decide) (by decide) (by decide) (by decide)) (FE 88 (by decide) (by decide) (by decide) (by decide) (by decide) (by decide)) (FE 192 (by decide) (by decide) (by decide) (by decide) (by decide) (by decide)) i12
    · exact lurR_k g5 (by rw [FE0]; exact z4 17 (by decide) (by decide)) (Fj 65 (by omega)) (FE 189 (by decide) (by decide) (by decide) (by decide) (by decide) (by decide)) (FE 148 (by decide) (by decide) (by decide) (by decide) (by decide) (by decide)) i13
    · exact picR_k g5 g26 (by rw [FE0]; exact z4 10 (by decide) (by decide)) (Fj 70 (by omega)) (Fj 71 (by omega)) (Fj 72 (by omega)) (fun k hk => FE k (by omega) (by omega) (by omega) (by omega) (by omega) ⟨by omega, by omega, by omega, by omega, by omega, by omega, by omega⟩) hR.2 hO.2 i14
end PC
