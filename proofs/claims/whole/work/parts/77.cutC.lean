/-! THE CLASS CUTS a text -/
theorem wr_s (x : Nat) (h : x ≤ 100000) : wr ((x : Int) + 1) = ((x + 1 : Nat) : Int) := by
  rw [wr_id (by omega) (by omega)]; omega
section CU
variable {d : Nat} {Q : dR → dS → Prop} {σ S : dS} {T : Int → Int} {n : Nat}
theorem w39 {K : Int → dS → Prop} {x : Int} (h : K (if lxL x = true then 1 else 0) σ) : wI (d + 2) 39 [.inl x] σ Q K := by
  refine c39 (b39_0 ⟨fun z => b39_1 (b39_2 ⟨Or.inl rfl, ?_⟩), fun z => ⟨fun y => b39_1 (b39_2 ⟨Or.inl rfl, ?_⟩), fun y => b39_2 ⟨Or.inr rfl, ?_⟩⟩⟩)
  · rw [if_neg (fun q => by have := lxL_at q; omega)] at h; exact h
  · rw [if_neg (fun q => by have := lxL_at q; omega)] at h; exact h
  · have hx : lxL x = true := decide_eq_true (by omega)
    rw [if_pos hx] at h; exact h
theorem w40 {K : Int → dS → Prop} {x : Int} (h : K (if lxD x = true then 1 else 0) σ) : wI (d + 2) 40 [.inl x] σ Q K := by
  refine c40 (b40_0 ⟨fun z => b40_1 (b40_2 ⟨Or.inl rfl, ?_⟩), fun z => ⟨fun y => b40_1 (b40_2 ⟨Or.inl rfl, ?_⟩), fun y => b40_2 ⟨Or.inr rfl, ?_⟩⟩⟩)
  · rw [if_neg (fun q => by have := lxD_at q; omega)] at h; exact h
  · rw [if_neg (fun q => by have := lxD_at q; omega)] at h; exact h
  · have hx : lxD x = true := decide_eq_true (by omega)
    rw [if_pos hx] at h; exact h
theorem l41 (hn : n ≤ 700) (hT : ∀ j : Nat, j < n → σ 2 (j : Int) = T (j : Int)) : ∀ (m i : Nat), i + m = n → Q (.inl (some (.inl ((lxE T n lxL i : Nat) : Int)))) σ → B41_1 (d + 1) Q (n : Int) (i : Int) σ
  | 0, i, h, hq => by
    have : i = n := by omega
    subst this
    rw [lxE_e (by omega)] at hq
    exact b41_1 ⟨fun _ => b41_3 hq, fun z => absurd (by omega) z⟩
  | m + 1, i, h, hq => by
    refine b41_1 ⟨fun z => absurd z (by omega), fun _ => ?_⟩
    rw [rat_in (by omega) (by omega), hT i (by omega)]
    refine w39 ?_
    by_cases c : lxL (T (i : Int)) = true
    · rw [if_pos c]
      rw [lxE_s (by omega) c] at hq
      refine ⟨fun _ => b41_2 ?_, fun z => absurd (by decide) z⟩
      rw [show wr ((i : Int) + 1) = ((i + 1 : Nat) : Int) by rw [wr_id (by omega) (by omega)]; omega]
      exact l41 hn hT m (i + 1) (by omega) hq
    · rw [if_neg c]
      rw [lxE_e (fun z => c z.2)] at hq
      exact ⟨fun z => absurd rfl z, fun _ => hq⟩
theorem w41 {K : Int → dS → Prop} {i : Nat} (hn : n ≤ 700) (hi : i ≤ n) (hT : ∀ j : Nat, j < n → σ 2 (j : Int) = T (j : Int)) (h : K ((lxE T n lxL i : Nat) : Int) σ) : wI (d + 3) 41 [.inr (.inr 1), .inl (i : Int), .inl (n : Int)] σ Q K :=
  c41 (b41_0 (l41 hn hT (n - i) i (by omega) h))
theorem l42 (hn : n ≤ 700) (hT : ∀ j : Nat, j < n → σ 2 (j : Int) = T (j : Int)) : ∀ (m i : Nat), i + m = n → Q (.inl (some (.inl ((lxE T n lxD i : Nat) : Int)))) σ → B42_1 (d + 1) Q (n : Int) (i : Int) σ
  | 0, i, h, hq => by
    have : i = n := by omega
    subst this
    rw [lxE_e (by omega)] at hq
    exact b42_1 ⟨fun _ => b42_3 hq, fun z => absurd (by omega) z⟩
  | m + 1, i, h, hq => by
    refine b42_1 ⟨fun z => absurd z (by omega), fun _ => ?_⟩
    rw [rat_in (by omega) (by omega), hT i (by omega)]
    refine w40 ?_
    by_cases c : lxD (T (i : Int)) = true
    · rw [if_pos c]
      rw [lxE_s (by omega) c] at hq
      refine ⟨fun _ => b42_2 ?_, fun z => absurd (by decide) z⟩
      rw [show wr ((i : Int) + 1) = ((i + 1 : Nat) : Int) by rw [wr_id (by omega) (by omega)]; omega]
      exact l42 hn hT m (i + 1) (by omega) hq
    · rw [if_neg c]
      rw [lxE_e (fun z => c z.2)] at hq
      exact ⟨fun z => absurd rfl z, fun _ => hq⟩
theorem w42 {K : Int → dS → Prop} {i : Nat} (hn : n ≤ 700) (hi : i ≤ n) (hT : ∀ j : Nat, j < n → σ 2 (j : Int) = T (j : Int)) (h : K ((lxE T n lxD i : Nat) : Int) σ) : wI (d + 3) 42 [.inr (.inr 1), .inl (i : Int), .inl (n : Int)] σ Q K :=
  c42 (b42_0 (l42 hn hT (n - i) i (by omega) h))
theorem l43 {a b : Nat} (hb : b ≤ n) (hn : n ≤ 700) (hT : ∀ j : Nat, j < n → σ 2 (j : Int) = T (j : Int)) (h4 : b - a ≤ 4) (hD : ∀ j : Nat, a ≤ j → j < b → 48 ≤ T (j : Int) ∧ T (j : Int) ≤ 57) (hq : Q (.inl (some (.inl (lxN T (a : Int) (b - a))))) σ) : ∀ (m j : Nat), a + j + m = b → B43_2 d Q (b : Int) (lxN T (a : Int) j) ((a + j : Nat) : Int) σ
  | 0, j, h => by
    refine b43_2 ⟨fun _ => b43_3 ?_, fun z => absurd (by omega) z⟩
    rw [show b - a = j by omega] at hq
    exact hq
  | m + 1, j, h => by
    have hr := lxN_r (T := T) (a := (a : Int)) j (fun i hi => by
      have := hD (a + i) (by omega) (by omega)
      rw [show (((a + i : Nat)) : Int) = (a : Int) + (i : Int) by omega] at this
      exact this) (by omega)
    have hd := hD (a + j) (by omega) (by omega)
    have h3 := hr.2.2 (by omega)
    refine b43_2 ⟨fun z => absurd z (by omega), fun _ => ?_⟩
    rw [rat_in (by omega) (by omega), hT (a + j) (by omega), wr_id (x := lxN T (a : Int) j * 10) (by omega) (by omega), wr_id (x := lxN T (a : Int) j * 10 + T ((a + j : Nat) : Int)) (by omega) (by omega), wr_id (by omega) (by omega), show wr (((a + j : Nat) : Int) + 1) = ((a + (j + 1) : Nat) : Int) by rw [wr_id (by omega) (by omega)]; omega]
    have e : lxN T (a : Int) j * 10 + T ((a + j : Nat) : Int) - 48 = lxN T (a : Int) (j + 1) := by
      show _ = 10 * lxN T (a : Int) j + T ((a : Int) + (j : Int)) - 48
      rw [show (((a + j : Nat)) : Int) = (a : Int) + (j : Int) by omega]; omega
    rw [e]
    exact l43 hb hn hT h4 hD hq m (j + 1) (by omega)
theorem w43 {K : Int → dS → Prop} {a b : Nat} (hab : a ≤ b) (hb : b ≤ n) (hn : n ≤ 700) (hT : ∀ j : Nat, j < n → σ 2 (j : Int) = T (j : Int)) (hD : ∀ j : Nat, a ≤ j → j < b → 48 ≤ T (j : Int) ∧ T (j : Int) ≤ 57) (h : K (if 4 < b - a then 10000 else lxN T (a : Int) (b - a)) σ) : wI (d + 2) 43 [.inr (.inr 1), .inl (a : Int), .inl (b : Int)] σ Q K := by
  refine c43 (b43_0 ?_)
  rw [wr_id (by omega) (by omega)]
  by_cases c : 4 < b - a
  · rw [if_pos c] at h
    exact ⟨fun z => absurd z (by omega), fun _ => h⟩
  · rw [if_neg c] at h
    refine ⟨fun _ => b43_1 ?_, fun z => absurd (by omega) z⟩
    exact l43 hb hn hT (by omega) hD h (b - a) 0 (by omega)
theorem l44 {a b : Nat} (ha : a ≤ n) (hb : b ≤ n) (hn : n ≤ 700) (hT : ∀ j : Nat, j < n → σ 2 (j : Int) = T (j : Int)) : ∀ (cs : List Int) (x6 : Nat) (code at_ : Int) (same : Bool), x6 + cs.length = 91 → (tx_t 1).drop x6 = cs → (129 ≤ code ∧ code ≤ 129 + x6) → (0 ≤ at_ ∧ at_ ≤ 700 + x6) → Q (.inl (some (.inl (wrn T (a : Int) (b : Int) cs code at_ same)))) σ → B44_1 d Q (a : Int) (b : Int) code at_ (if same = true then 1 else 0) (x6 : Int) σ
  | [], x6, code, at_, same, h6, hd, hc, hat, hq => by
    have e9 : tx_len 1 = 91 := by decide +kernel
    simp only [List.length_nil] at h6
    have hq : Q (.inl (some (.inl (if same = true ∧ at_ = (b : Int) then code else 128)))) σ := hq
    refine b44_1 ⟨fun _ => ?_, fun z => absurd (by omega) z⟩
    cases same with
    | false =>
      rw [if_neg (fun z => absurd z.1 (by decide))] at hq
      exact b44_7 ⟨fun _ => b44_8 (b44_9 hq), fun z => absurd rfl z⟩
    | true =>
      refine b44_7 ⟨fun z => absurd z (by decide), fun _ => ⟨fun y => b44_8 (b44_9 ?_), fun y => b44_9 ?_⟩⟩
      · rw [if_neg (fun z => y z.2)] at hq; exact hq
      · rw [if_pos ⟨rfl, Decidable.not_not.mp y⟩] at hq; exact hq
  | s :: cs, x6, code, at_, same, h6, hd, hc, hat, hq => by
    have e9 : tx_len 1 = 91 := by decide +kernel
    simp only [List.length_cons] at h6
    obtain ⟨-, d2, d3⟩ := drop_c hd
    have hch : tx_ch 1 (x6 : Int) = s := by
      unfold tx_ch
      rw [Int.toNat_natCast]; exact d2
    refine b44_1 ⟨fun z => absurd z (by omega), fun _ => ⟨by omega, by omega, ?_⟩⟩
    rw [hch]
    refine ⟨fun e => ?_, fun e => ?_⟩
    · have hq : Q (.inl (some (.inl (if s = 32 then (if same = true ∧ at_ = (b : Int) then code else wrn T (a : Int) (b : Int) cs (code + 1) (a : Int) true) else wrn T (a : Int) (b : Int) cs code (at_ + 1) (same && (decide (at_ < (b : Int)) && decide (T at_ = s))))))) σ := hq
      rw [if_pos e] at hq
      have nx : ¬ (same = true ∧ at_ = (b : Int)) → B44_5 d Q (a : Int) (b : Int) code (x6 : Int) σ := by
        intro hne
        rw [if_neg hne] at hq
        refine b44_5 (b44_6 ?_)
        rw [wr_s x6 (by omega), wr_id (x := code + 1) (by omega) (by omega)]
        exact l44 ha hb hn hT cs (x6 + 1) (code + 1) (a : Int) true (by omega) d3 (by omega) (by omega) hq
      cases same with
      | false => exact b44_4 ⟨fun _ => nx (fun z => absurd z.1 (by decide)), fun z => absurd rfl z⟩
      | true =>
        refine b44_4 ⟨fun z => absurd z (by decide), fun _ => ⟨fun y => nx (fun z => y z.2), fun y => ?_⟩⟩
        rw [if_pos ⟨rfl, Decidable.not_not.mp y⟩] at hq; exact hq
    · have hq : Q (.inl (some (.inl (if s = 32 then (if same = true ∧ at_ = (b : Int) then code else wrn T (a : Int) (b : Int) cs (code + 1) (a : Int) true) else wrn T (a : Int) (b : Int) cs code (at_ + 1) (same && (decide (at_ < (b : Int)) && decide (T at_ = s))))))) σ := hq
      rw [if_neg e] at hq
      have nx : ∀ r : Bool, r = (same && (decide (at_ < (b : Int)) && decide (T at_ = s))) → B44_3 d Q (a : Int) (b : Int) code at_ (x6 : Int) (if r = true then 1 else 0) σ := by
        intro r hr
        rw [← hr] at hq
        refine b44_3 (b44_6 ?_)
        rw [wr_s x6 (by omega), wr_id (x := at_ + 1) (by omega) (by omega)]
        exact l44 ha hb hn hT cs (x6 + 1) code (at_ + 1) r (by omega) d3 (by omega) (by omega) hq
      have n0 := nx false
      rw [if_neg (by decide)] at n0
      have n1 := nx true
      rw [if_pos rfl] at n1
      cases same with
      | false => exact ⟨fun _ => b44_2 (n0 rfl), fun z => absurd rfl z⟩
      | true =>
        refine ⟨fun z => absurd z (by decide), fun _ => ⟨fun y => b44_2 (n0 ?_), fun y => ?_⟩⟩
        · rw [decide_eq_false (by omega)]; rfl
        · have er : rat σ 2 700 at_ = T at_ := by
            rw [rat_in (by omega) (by omega)]
            have := hT at_.toNat (by omega)
            rw [show ((at_.toNat : Nat) : Int) = at_ by omega] at this
            exact this
          rw [er]
          refine ⟨fun w => b44_2 (n0 ?_), fun w => n1 ?_⟩
          · rw [decide_eq_false (p := T at_ = s) w, Bool.and_false, Bool.and_false]
          · rw [decide_eq_true (p := T at_ = s) (Decidable.not_not.mp w), decide_eq_true (by omega)]; rfl
theorem w44 {K : Int → dS → Prop} {a b : Nat} (ha : a ≤ n) (hb : b ≤ n) (hn : n ≤ 700) (hT : ∀ j : Nat, j < n → σ 2 (j : Int) = T (j : Int)) (h : K (wrn T (a : Int) (b : Int) (tx_t 1) 129 (a : Int) true) σ) : wI (d + 2) 44 [.inr (.inr 1), .inl (a : Int), .inl (b : Int)] σ Q K :=
  c44 (b44_0 (l44 ha hb hn hT (tx_t 1) 0 129 (a : Int) true (by rw [tx_cnt]) rfl (by omega) (by omega) h))
/-- k tokens are cut -/
def CUT (T : Int → Int) (n : Nat) (S : dS) (k : Nat) (σ : dS) : Prop := (∀ x, x ≠ 61 → x ≠ 63 → x ≠ 65 → x ≠ 67 → σ x = S x) ∧ (∀ j, j ≠ 3 → σ 61 j = S 61 j) ∧ σ 61 3 = (k : Int) ∧ ∀ i : Nat, i < k → σ 63 (i : Int) = lxC T n (lxQ T n i) ∧ σ 65 (i : Int) = ((lxQ T n i : Nat) : Int) ∧ σ 67 (i : Int) = lxV T n (lxQ T n i)
theorem w38 {K : dS → Prop} {k : Nat} (hk : k ≤ 700) (h : CUT T n S k σ) (hq : ∀ σ', CUT T n S (k + 1) σ' → K σ') : wV (d + 2) 38 [.inr (.inr 61), .inl (lxC T n (lxQ T n k)), .inl ((lxQ T n k : Nat) : Int), .inl (lxV T n (lxQ T n k))] σ Q K := by
  obtain ⟨h1, h2, h3, h4⟩ := h
  refine c38 (b38_0 (fun s1 f1 s2 f2 s3 f3 s4 f4 => ?_))
  rw [h3, rput_in (by omega) (by omega)] at f1
  rw [f1, up_k (k' := 61) (by decide), h3, rput_in (by omega) (by omega)] at f2
  rw [f2, up_k (k' := 61) (by decide), up_k (k' := 61) (by decide), h3, rput_in (by omega) (by omega)] at f3
  rw [f3, up_k (k' := 61) (by decide), up_k (k' := 61) (by decide), up_k (k' := 61) (by decide), h3, wr_id (by omega) (by omega)] at f4
  refine hq s4 ⟨fun x x1 x2 x3 x4 => ?_, fun j hj => ?_, ?_, fun i hi => ?_⟩
  · rw [f4, up_k x1, up_k x4, up_k x3, up_k x2]; exact h1 x x1 x2 x3 x4
  · rw [f4, up_i hj, up_k (by decide), up_k (by decide), up_k (by decide)]; exact h2 j hj
  · rw [f4, up_same]; omega
  · rw [f4, up_k (k' := 63) (by decide), up_k (k' := 63) (by decide), up_k (k' := 63) (by decide), up_k (k' := 65) (by decide), up_k (k' := 65) (by decide), up_k (k' := 67) (by decide)]
    by_cases e : i = k
    · subst e
      rw [up_same, up_same, up_same]
      exact ⟨rfl, rfl, rfl⟩
    · obtain ⟨g1, g2, g3⟩ := h4 i (by omega)
      exact ⟨by rw [up_i (by omega)]; exact g1, by rw [up_i (by omega), up_k (by decide)]; exact g2, by rw [up_i (by omega), up_k (by decide), up_k (by decide)]; exact g3⟩
theorem l37 {N : Nat} (hN : N ≤ n) (hN1 : n ≤ lxQ T n N) (hN2 : ∀ k, k < N → lxQ T n k < n) (hn : n ≤ 700) (hT : ∀ j : Nat, j < n → S 2 (j : Int) = T (j : Int) ∧ 0 ≤ T (j : Int) ∧ T (j : Int) ≤ 255) (hq : ∀ σ', CUT T n S (N + 1) σ' → Q (.inl none) σ') : ∀ (m i k : Nat) (x3 : Int) (σ : dS), i + m = n → CUT T n S k σ → (∀ j, j < k → lxQ T n j < n) → ((x3 = ((lxP T n k : Nat) : Int) ∧ i ≤ lxP T n k) ∨ (x3 ≤ (i : Int) ∧ lxP T n k ≤ i ∧ lxQ T n k = lxE T n lxB i)) → B37_1 (d + 2) Q (n : Int) x3 (i : Int) σ
  | 0, i, k, x3, σ, him, hC, hk, hJ => by
    have hi : i = n := by omega
    have hlast : n ≤ lxQ T n k := by
      rcases hJ with ⟨-, h2⟩ | ⟨-, h2, h3⟩
      · have := (lxQ_sp (T := T) (n := n) k).1; omega
      · rw [h3, lxE_e (by omega)]; omega
    have hkN : k = N := by
      rcases Nat.lt_trichotomy k N with z | z | z
      · have := hN2 k z; omega
      · exact z
      · have := hk N z; omega
    subst hkN
    have hqn : lxQ T n k = n := by have := (lxQ_sp (T := T) (n := n) k).2; omega
    refine b37_1 ⟨fun _ => b37_8 ?_, fun z => absurd (by omega) z⟩
    have e1 : lxC T n (lxQ T n k) = 0 := by unfold lxC; rw [if_pos (by omega)]
    have e2 : lxV T n (lxQ T n k) = 0 := by unfold lxV; rw [if_pos (by omega)]
    have := w38 (d := d + 1) (Q := Q) (T := T) (n := n) (S := S) (σ := σ) (k := k) (K := fun σ1 => Q (.inl none) σ1) (by omega) hC (fun σ' g => hq σ' g)
    rw [e1, e2, hqn] at this
    exact this
  | m + 1, i, k, x3, σ, him, hC, hk, hJ => by
    have hlt : i < n := by omega
    obtain ⟨t1, t2, t3⟩ := hT i hlt
    have e2 : σ 2 = S 2 := hC.1 2 (by decide) (by decide) (by decide) (by decide)
    have hT2 : ∀ j : Nat, j < n → σ 2 (j : Int) = T (j : Int) := fun j hj => by rw [e2]; exact (hT j hj).1
    have er : rat σ 2 700 (i : Int) = T (i : Int) := by rw [rat_in (by omega) (by omega)]; exact hT2 i hlt
    have ih := fun k x3 σ => l37 hN hN1 hN2 hn hT hq m (i + 1) k x3 σ (by omega)
    refine b37_1 ⟨fun z => absurd z (by omega), fun _ => ⟨fun z => b37_7 ?_, fun z => ?_⟩⟩
    · rw [wr_s i (by omega)]
      refine ih k x3 σ hC hk ?_
      rcases hJ with ⟨h1, h2⟩ | ⟨h1, h2, h3⟩
      · exact Or.inl ⟨h1, by omega⟩
      · omega
    rw [er]
    have hJ2 : lxP T n k ≤ i ∧ lxQ T n k = lxE T n lxB i := by
      rcases hJ with ⟨h1, h2⟩ | ⟨h1, h2, h3⟩
      · have : lxP T n k = i := by omega
        exact ⟨by omega, by unfold lxQ; rw [this]⟩
      · exact ⟨h2, h3⟩
    have blank : lxB (T (i : Int)) = true → B37_7 (d + 2) Q (n : Int) x3 (i : Int) σ := by
      intro hb
      refine b37_7 ?_
      rw [wr_s i (by omega)]
      refine ih k x3 σ hC hk (Or.inr ⟨by omega, by omega, ?_⟩)
      rw [hJ2.2, lxE_s hlt hb]
    refine ⟨fun y => blank (decide_eq_true (Or.inl y)), fun y => ⟨fun w => ?_, fun w => blank (decide_eq_true (Or.inr (Decidable.not_not.mp w)))⟩⟩
    have hnb : ¬ lxB (T (i : Int)) = true := fun q => by
      have := of_decide_eq_true q
      omega
    have hQi : lxQ T n k = i := by rw [hJ2.2, lxE_e (fun q => hnb q.2)]
    have hk1 : ∀ j, j < k + 1 → lxQ T n j < n := fun j hj => by
      rcases Nat.lt_or_ge j k with z | z
      · exact hk j z
      · rw [show j = k by omega]; omega
    have hkn : k ≤ 700 := by
      rcases Nat.lt_or_ge N k with z | z
      · have := hk N z; omega
      · omega
    have hP1 : lxP T n (k + 1) = lxT T n i := by
      show lxT T n (lxQ T n k) = _
      rw [hQi]
    have add := fun (x3 : Int) (g : (x3 = ((lxP T n (k + 1) : Nat) : Int) ∧ i + 1 ≤ lxP T n (k + 1)) ∨ (x3 ≤ (i : Int) ∧ lxP T n (k + 1) = i + 1)) => w38 (d := d + 1) (Q := Q) (T := T) (n := n) (S := S) (σ := σ) (k := k) (K := fun σ1 => B37_7 (d + 2) Q (n : Int) x3 (i : Int) σ1) hkn hC (fun σ' hC' => b37_7 (by
      rw [wr_s i (by omega)]
      refine ih (k + 1) x3 σ' hC' hk1 ?_
      rcases g with g | ⟨g1, g2⟩
      · exact Or.inl g
      · refine Or.inr ⟨by omega, by omega, ?_⟩
        unfold lxQ
        rw [g2]))
    rw [hQi] at add
    refine b37_2 (w39 ?_)
    by_cases hL : lxL (T (i : Int)) = true
    · rw [if_pos hL]
      refine ⟨fun q => absurd q (by decide), fun _ => w41 hn (by omega) hT2 (w44 (by omega) (lxE_sp (by omega)).2.1 hn hT2 ?_)⟩
      have e1 : lxC T n i = wrn T (i : Int) ((lxE T n lxL i : Nat) : Int) (tx_t 1) 129 (i : Int) true := by unfold lxC; rw [if_neg (by omega), if_pos hL]
      have e3 : lxV T n i = 0 := by unfold lxV; rw [if_neg (by omega), if_pos hL]
      have e4 : lxT T n i = lxE T n lxL i := by unfold lxT; rw [if_neg (by omega), if_pos hL]
      have g := add ((lxE T n lxL i : Nat) : Int) (Or.inl ⟨by rw [hP1, e4], by rw [hP1]; exact (lxT_gt hlt).1⟩)
      rw [e1, e3] at g
      exact g
    · rw [if_neg hL]
      refine ⟨fun _ => b37_3 (w40 ?_), fun q => absurd rfl q⟩
      by_cases hD : lxD (T (i : Int)) = true
      · rw [if_pos hD]
        have sp := lxE_sp (T := T) (f := lxD) (n := n) (i := i) (by omega)
        refine ⟨fun q => absurd q (by decide), fun _ => w42 hn (by omega) hT2 (w43 (n := n) sp.1 sp.2.1 hn hT2 (fun j j0 j1 => lxD_at (sp.2.2.1 j j0 j1)) ?_)⟩
        have e1 : lxC T n i = 1 := by unfold lxC; rw [if_neg (by omega), if_neg hL, if_pos hD]
        have e3 : lxV T n i = (if 4 < lxE T n lxD i - i then 10000 else lxN T (i : Int) (lxE T n lxD i - i)) := by unfold lxV; rw [if_neg (by omega), if_neg hL, if_pos hD]
        have e4 : lxT T n i = lxE T n lxD i := by unfold lxT; rw [if_neg (by omega), if_neg hL, if_pos hD]
        have g := add ((lxE T n lxD i : Nat) : Int) (Or.inl ⟨by rw [hP1, e4], by rw [hP1]; exact (lxT_gt hlt).1⟩)
        rw [e1, e3] at g
        exact g
      · rw [if_neg hD]
        have e4 : lxT T n i = i + 1 := by unfold lxT; rw [if_neg (by omega), if_neg hL, if_neg hD]
        have e3 : lxV T n i = 0 := by unfold lxV; rw [if_neg (by omega), if_neg hL, if_neg hD]
        have g := add x3 (Or.inr ⟨by omega, by rw [hP1, e4]⟩)
        rw [e3] at g
        refine ⟨fun _ => b37_4 ⟨t2, t3, fun q => b37_5 (b37_6 ?_), fun q => b37_6 ?_⟩, fun q => absurd rfl q⟩
        · have e1 : lxC T n i = 2 := by unfold lxC; rw [if_neg (by omega), if_neg hL, if_neg hD, if_neg (by omega)]
          rw [e1] at g
          exact g
        · have e1 : lxC T n i = T (i : Int) := by unfold lxC; rw [if_neg (by omega), if_neg hL, if_neg hD, if_pos (by omega)]
          rw [e1] at g
          exact g
theorem w37 {K : dS → Prop} {N : Nat} (hN : N ≤ n) (hN1 : n ≤ lxQ T n N) (hN2 : ∀ k, k < N → lxQ T n k < n) (hn : n ≤ 700) (hT : ∀ j : Nat, j < n → S 2 (j : Int) = T (j : Int) ∧ 0 ≤ T (j : Int) ∧ T (j : Int) ≤ 255) (hq : ∀ σ', (∀ x, x ≠ 61 → x ≠ 63 → x ≠ 65 → x ≠ 67 → σ' x = S x) → (∀ j, j ≠ 3 → σ' 61 j = S 61 j) → TK (fun k => lxC T n (lxQ T n k)) (fun k => ((lxQ T n k : Nat) : Int)) (fun k => lxV T n (lxQ T n k)) N σ' → K σ') : wV (d + 4) 37 [.inr (.inr 61), .inr (.inr 1), .inl (n : Int)] S Q K := by
  refine c37 (b37_0 (fun s1 f1 => ?_))
  refine l37 (T := T) (S := S) (N := N) hN hN1 hN2 hn hT (fun σ' g => hq σ' g.1 g.2.1 ⟨?_, by omega, fun k => lxV_r _, fun k hk => g.2.2.2 k (by omega)⟩) n 0 0 0 s1 (by omega) ⟨fun x x1 _ _ _ => by rw [f1, up_k x1], fun j hj => by rw [f1, up_i hj], by rw [f1, up_same]; rfl, fun i hi => by omega⟩ (fun j hj => by omega) (Or.inl ⟨rfl, Nat.zero_le _⟩)
  show lxC T n (lxQ T n N) = 0
  unfold lxC
  rw [if_pos hN1]
end CU
