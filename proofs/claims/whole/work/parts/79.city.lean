/-! CITY, by both -/
theorem D00_33 (S : dS) : D00 S 33 0 = 0 ∧ D00 S 33 1 = 0 ∧ D00 S 33 2 = 0 ∧ D00 S 33 3 = 0 ∧ D00 S 33 4 = 360 := by
  have g : ∀ j, D00 S 33 j = (up (up (up (up (up S 33 0 0) 33 1 0) 33 2 0) 33 3 0) 33 4 360) 33 j := fun j => by unfold D00; rw [rfill_k (by decide)]
  refine ⟨?_, ?_, ?_, ?_, ?_⟩
  · rw [g, up_i (by decide), up_i (by decide), up_i (by decide), up_i (by decide), up_same]
  · rw [g, up_i (by decide), up_i (by decide), up_i (by decide), up_same]
  · rw [g, up_i (by decide), up_i (by decide), up_same]
  · rw [g, up_i (by decide), up_same]
  · rw [g, up_same]
theorem D00_37 (S : dS) : ∀ i, 0 ≤ i → i < 100 → D00 S 37 i = 0 := fun i i0 i1 => by unfold D00; exact rfill_in i0 (by omega)
section CY
variable {d : Nat} {Q : dR → dS → Prop} {K : Int → dS → Prop} {σ S : dS} {T : Int → Int} {n : Nat}
/-- the reference's fields as a city begins -/
def CB0 (n : Nat) (S t : dS) : Prop := (∀ x, x ≠ 153 → x ≠ 164 → t x = S x) ∧ (∀ j, j ≠ 0 → j ≠ 15 → j ≠ 16 → j ≠ 17 → j ≠ 19 → j ≠ 20 → j ≠ 27 → j ≠ 28 → j ≠ 29 → j ≠ 30 → j ≠ 31 → j ≠ 32 → j ≠ 33 → t 153 j = S 153 j) ∧ (t 153 0 = 0 ∧ t 153 15 = 0 ∧ t 153 16 = 0 ∧ t 153 17 = -1 ∧ t 153 19 = (n : Int) ∧ t 153 20 = 0) ∧ (t 153 27 = 0 ∧ t 153 28 = 0 ∧ t 153 29 = 0 ∧ t 153 30 = 0 ∧ t 153 31 = 0 ∧ t 153 32 = -1 ∧ t 153 33 = 0) ∧ ∀ i, 0 ≤ i → i < 100 → t 164 i = 0
theorem l194_4 {U : dS} (hq : ∀ σ', (∀ x, x ≠ 164 → σ' x = U x) → (∀ i, 0 ≤ i → i < 100 → σ' 164 i = 0) → B194_5 d Q σ') : ∀ (c : Nat) (x : Int) (t : dS), 0 ≤ x → x + c = 100 → (∀ y, y ≠ 164 → t y = U y) → (∀ i, 0 ≤ i → i < x → t 164 i = 0) → B194_4 d Q x t
  | 0, x, t, x0, hx, hF, h0 => b194_4 ⟨fun _ => hq t hF (fun i i0 i1 => h0 i i0 (by omega)), fun z => absurd (by omega) z⟩
  | c + 1, x, t, x0, hx, hF, h0 => by
    refine b194_4 ⟨fun z => absurd z (by omega), fun _ => ⟨by omega, by omega, fun s1 f1 => ?_⟩⟩
    rw [wr_id (by omega) (by omega)]
    refine l194_4 hq c (x + 1) s1 (by omega) (by omega) (fun y hy => by rw [f1, up_k hy]; exact hF y hy) (fun i i0 i1 => ?_)
    rw [f1]
    by_cases e : i = x
    · rw [e, up_same]
    · rw [up_i e]; exact h0 i i0 (by omega)
theorem l194_3 (h0 : S 153 0 = 0) (hq : ∀ t, CB0 n S t → B194_5 d Q t) : B194_3 d Q (n : Int) S := by
  refine b194_3 (fun s1 f1 s2 f2 s3 f3 s4 f4 s5 f5 s6 f6 s7 f7 s8 f8 s9 f9 s10 f10 s11 f11 s12 f12 => ?_)
  have E : s12 = up (up (up (up (up (up (up (up (up (up (up (up S 153 15 0) 153 17 (-1)) 153 16 0) 153 19 (n : Int)) 153 20 0) 153 27 0) 153 28 0) 153 29 0) 153 30 0) 153 31 0) 153 32 (-1)) 153 33 0 := by
    rw [f12, f11, f10, f9, f8, f7, f6, f5, f4, f3, f2, f1]
  refine l194_4 (U := s12) (fun t g1 g2 => hq t ⟨fun x x1 x2 => ?_, fun j j0 j15 j16 j17 j19 j20 j27 j28 j29 j30 j31 j32 j33 => ?_, ?_, ?_, g2⟩) 100 0 s12 (by decide) (by decide) (fun _ _ => rfl) (fun i i0 i1 => by omega)
  · rw [g1 x x2, E, up_k x1, up_k x1, up_k x1, up_k x1, up_k x1, up_k x1, up_k x1, up_k x1, up_k x1, up_k x1, up_k x1, up_k x1]
  · rw [g1 153 (by decide), E, up_i j33, up_i j32, up_i j31, up_i j30, up_i j29, up_i j28, up_i j27, up_i j20, up_i j19, up_i j16, up_i j17, up_i j15]
  · rw [g1 153 (by decide), E]
    refine ⟨?_, ?_, ?_, ?_, ?_, ?_⟩
    · rw [up_i (by decide), up_i (by decide), up_i (by decide), up_i (by decide), up_i (by decide), up_i (by decide), up_i (by decide), up_i (by decide), up_i (by decide), up_i (by decide), up_i (by decide), up_i (by decide)]; exact h0
    · rw [up_i (by decide), up_i (by decide), up_i (by decide), up_i (by decide), up_i (by decide), up_i (by decide), up_i (by decide), up_i (by decide), up_i (by decide), up_i (by decide), up_i (by decide), up_same]
    · rw [up_i (by decide), up_i (by decide), up_i (by decide), up_i (by decide), up_i (by decide), up_i (by decide), up_i (by decide), up_i (by decide), up_i (by decide), up_same]
    · rw [up_i (by decide), up_i (by decide), up_i (by decide), up_i (by decide), up_i (by decide), up_i (by decide), up_i (by decide), up_i (by decide), up_i (by decide), up_i (by decide), up_same]
    · rw [up_i (by decide), up_i (by decide), up_i (by decide), up_i (by decide), up_i (by decide), up_i (by decide), up_i (by decide), up_i (by decide), up_same]
    · rw [up_i (by decide), up_i (by decide), up_i (by decide), up_i (by decide), up_i (by decide), up_i (by decide), up_i (by decide), up_same]
  · rw [g1 153 (by decide), E]
    refine ⟨?_, ?_, ?_, ?_, ?_, ?_, ?_⟩
    · rw [up_i (by decide), up_i (by decide), up_i (by decide), up_i (by decide), up_i (by decide), up_i (by decide), up_same]
    · rw [up_i (by decide), up_i (by decide), up_i (by decide), up_i (by decide), up_i (by decide), up_same]
    · rw [up_i (by decide), up_i (by decide), up_i (by decide), up_i (by decide), up_same]
    · rw [up_i (by decide), up_i (by decide), up_i (by decide), up_same]
    · rw [up_i (by decide), up_i (by decide), up_same]
    · rw [up_i (by decide), up_same]
    · rw [up_same]
abbrev tkc (T : Int → Int) (n k : Nat) : Int := lxC T n (lxQ T n k)
abbrev tkq (T : Int → Int) (n k : Nat) : Int := ((lxQ T n k : Nat) : Int)
abbrev tkv (T : Int → Int) (n k : Nat) : Int := lxV T n (lxQ T n k)
/-- the reference's city, from its text on -/
theorem m_city {N : Nat} {S0 : dS} (hn : n ≤ 700) (hN : N ≤ n) (hN1 : n ≤ lxQ T n N) (hX : ∀ j : Nat, j < n → S 161 (j : Int) = T (j : Int)) (hx : (n : Int) ≤ S 153 15)
    (g0 : (lnAll (tkc T n) (tkv T n) 700 0 (D00 S0) false []).1 = 0 → ∀ t σ', CB0 n S t → MCo t (lnAll (tkc T n) (tkv T n) 700 0 (D00 S0) false []).2.2.1 (lnAll (tkc T n) (tkv T n) 700 0 (D00 S0) false []).2.2.2.2 σ' → K 0 σ')
    (g1 : (lnAll (tkc T n) (tkv T n) 700 0 (D00 S0) false []).1 ≠ 0 → ∀ t σ', CB0 n S t → MF t (lnAll (tkc T n) (tkv T n) 700 0 (D00 S0) false []).1 (tkq T n (lnAll (tkc T n) (tkv T n) 700 0 (D00 S0) false []).2.1) σ' → K (lnAll (tkc T n) (tkv T n) 700 0 (D00 S0) false []).1 (up σ' 162 0 (wr (σ' 162 0 + 1)))) :
    wI (d + 20) 194 [.inr (.inr 153), .inl (n : Int)] S Q K := by
  have c0 : tkc T n N = 0 := by show lxC T n (lxQ T n N) = 0; unfold lxC; rw [if_pos hN1]
  have v0 : ∀ k, 0 ≤ tkv T n k := fun k => (lxV_r _).1
  refine c194 (b194_0 (fun s1 f1 => ⟨fun z => absurd z (by omega), fun _ => ⟨fun z => absurd z (by rw [f1, up_i (by decide)]; omega), fun _ => b194_2 (w158 (d := d + 17) (by rw [f1, up_same]) (by decide) (fun _ => ⟨fun _ => ?_, fun z => absurd (by decide) z⟩) (fun z => absurd z (by decide)))⟩⟩))
  refine l194_3 (n := n) (S := s1) (by rw [f1, up_same]) (fun t hC => ?_)
  have hCB : CB0 n S t := by
    obtain ⟨a1, a2, a3, a4, a5⟩ := hC
    refine ⟨fun x x1 x2 => by rw [a1 x x1 x2, f1, up_k x1], fun j j0 j15 j16 j17 j19 j20 j27 j28 j29 j30 j31 j32 j33 => by rw [a2 j j0 j15 j16 j17 j19 j20 j27 j28 j29 j30 j31 j32 j33, f1, up_i j0], a3, a4, a5⟩
  obtain ⟨a1, a2, ⟨b0, b15, b16, b17, b19, b20⟩, ⟨b27, b28, b29, b30, b31, b32, b33⟩, a5⟩ := id hCB
  have hXt : ∀ j : Nat, j < n → t 161 (j : Int) = T (j : Int) := by rw [a1 161 (by decide) (by decide)]; exact hX
  obtain ⟨e0, e1, e2, e3, e4⟩ := D00_33 S0
  refine b194_5 (w168 (d := d + 16) (T := T) (n := n) (i := 0) hn (Nat.zero_le n) hXt b19 b20 (fun s2 h1 h2 => ?_))
  have hM : MR (Mkd T n (t 161)) t 0 (D00 S0) false [] s2 := by
    refine ⟨⟨fun x x1 _ => h1.1 x x1, fun j hj => h1.2 j (by omega)⟩, ⟨by rw [h1.1 161 (by decide)], by rw [h1.2 19 (by omega)]; exact b19, by rw [h1.2 17 (by omega)]; exact b17, h2⟩, ⟨by rw [h1.2 16 (by omega)]; exact b16, by rw [h1.2 17 (by omega)]; exact b17⟩, ⟨by rw [h1.2 27 (by omega), e0]; exact b27, by rw [h1.2 28 (by omega), e1]; exact b28, by rw [h1.2 29 (by omega), e2]; exact b29, by rw [h1.2 30 (by omega), e3]; exact b30, by rw [h1.2 31 (by omega)]; exact b31, by rw [h1.2 32 (by omega)]; exact b32⟩, fun r r0 r1 => by omega, fun i i0 i1 => by rw [h1.1 164 (by decide), D00_37 S0 i i0 i1]; exact a5 i i0 i1, fun o o0 o1 => by omega, fun p p0 p1 => by omega, fun i hi => absurd hi (Nat.not_lt_zero i), by rw [h1.2 33 (by omega)]; exact b33, trivial⟩
  have hTM := TM_of (N := N) (X := t 161) hn hXt
  refine l194 (d := d + 10) hTM (fun k σ h => h.2.2.1) c0 (by omega) v0 700 0 (D00 S0) false [] s2 (Nat.zero_le N) (by omega) PV_00 (Nat.le_refl 0) hM (fun z s3 h3 => ?_) (fun z s3 h3 => g1 z t s3 hCB h3)
  obtain ⟨p1, p2, p3⟩ := PV_all c0 (by omega) v0 700 0 (D00 S0) false [] (Nat.zero_le N) PV_00 (Nat.le_refl 0) z
  have hl := fls_len (lnAll (tkc T n) (tkv T n) 700 0 (D00 S0) false []).2.2.2.2
  have h4 := p2.2.2.2.2.2.2.1
  exact b194_good (d := d + 17) p2 (by omega) h3 (fun s4 h4 => g0 z t s4 hCB h4)
end CY
