/-! THE CLASS PASSES A NIGHT -/
abbrev ncl (k : Nat) : Prop := k = 32 ∨ (114 ≤ k ∧ k ≤ 132)
def RCN (σ S : dS) (t : Nat) (n : dS) : Prop := (∀ k, ¬ ncl k → σ k = S k) ∧ σ 114 7 = n 7 0 ∧ (∀ r, 0 ≤ r → r < S 5 0 → σ 120 r = n 0 r) ∧ (∀ o, 0 ≤ o → o < S 5 2 → σ 122 o = n 1 o ∧ σ 124 o = (if nestb S t o then 0 else n 2 o) ∧ σ 128 o = fu S n o) ∧ (∀ o i, 0 ≤ o → o < S 5 2 → ¬ nestb S t o → 0 ≤ i → i < n 2 o → σ 116 (8 * o + i) = n 4 (8 * o + i) ∧ σ 118 (8 * o + i) = n 5 (8 * o + i)) ∧ (∀ j, 0 ≤ j → j < n 7 0 → σ 126 j = n 6 j)
theorem w28_5 {d : Nat} {Q : dR → dS → Prop} {K : Int → dS → Prop} {a b : Int} {σ : dS} (ha : 0 ≤ a) (ha2 : a < 10) (hb : 0 ≤ b) (hb2 : b < 10) (h : K (if σ 9 (10 * a + b) ≠ 0 then σ 9 (10 * a + b) else -1) σ) : wI (d + 2) 28 [.inr (.inr 5), .inl a, .inl b] σ Q K := by
  refine c28_5 (b28_5_0 ?_)
  have e : rat σ 9 100 (wr (wr (a * 10) + b)) = σ 9 (10 * a + b) := by
    rw [wr_id (x := a * 10) (by omega) (by omega), wr_id (by omega) (by omega), rat_in (by omega) (by omega), Int.mul_comm]
  rw [e]
  refine ⟨fun z => b28_5_1 (b28_5_2 ?_), fun z => b28_5_2 ?_⟩
  · rw [if_pos z] at h; exact h
  · rw [if_neg z] at h; exact h
theorem l69 {d : Nat} {Q : dR → dS → Prop} {σ : dS} {f : Int → Int} {N : Nat} (hO : σ 5 2 = (N : Int)) (hN : N ≤ 5) (hf : ∀ o, 0 ≤ o → o < (N : Int) → σ 128 o = f o) (hq : Q (.inl (some (.inl (pk f N)))) σ) : ∀ (j m : Nat), m + j = N → ∀ x2, x2 = (if pk f m = -1 then 2147483647 else f (pk f m)) → B69_1 d Q (pk f m) x2 (m : Int) σ
  | 0, m, hm, x2, _ => by
    have e : m = N := hm
    subst e
    exact b69_1 ⟨fun _ => b69_3 hq, fun n => absurd (by omega) n⟩
  | j + 1, m, hm, x2, hx => by
    refine b69_1 ⟨fun q => absurd q (by omega), fun _ => ?_⟩
    have e : rat σ 128 5 (m : Int) = f (m : Int) := by rw [rat_in (by omega) (by omega)]; exact hf _ (by omega) (by omega)
    have ew : wr ((m : Int) + 1) = ((m + 1 : Nat) : Int) := by rw [wr_id (by omega) (by omega)]; omega
    rw [e]
    have ih := l69 (d := d) hO hN hf hq j (m + 1) (by omega)
    refine ⟨fun z => b69_2 ?_, fun z => b69_2 ?_⟩
    · rw [ew]
      have ep : pk f (m + 1) = pk f m := by
        rw [pk, if_pos (by rw [← hx]; exact z)]
      have := ih x2 (by rw [ep]; exact hx)
      rw [ep] at this
      exact this
    · rw [ew]
      have ep : pk f (m + 1) = (m : Int) := by
        rw [pk, if_neg (by rw [← hx]; exact z)]
      have := ih (f (m : Int)) (by rw [ep, if_neg (by omega)])
      rw [ep] at this
      exact this
theorem w69 {d : Nat} {Q : dR → dS → Prop} {K : Int → dS → Prop} {σ : dS} {f : Int → Int} (h0 : 0 ≤ σ 5 2) (h5 : σ 5 2 ≤ 5) (hf : ∀ o, 0 ≤ o → o < σ 5 2 → σ 128 o = f o) (hq : K (pk f (σ 5 2).toNat) σ) : wI (d + 2) 69 [.inr (.inr 114)] σ Q K := by
  have e : σ 5 2 = ((σ 5 2).toNat : Int) := by omega
  exact c69 (b69_0 (l69 (f := f) (N := (σ 5 2).toNat) e (by omega) (fun o h1 h2 => hf o h1 (by omega)) hq (σ 5 2).toNat 0 (by omega) _ (by simp [pk])))
theorem w23_70 {d : Nat} {Q : dR → dS → Prop} {K : Int → dS → Prop} {o : Int} {σ : dS} (h : K (if nestb σ 70 o then 1 else 0) σ) : wI (d + 2) 23 [.inr (.inr 70), .inl o] σ Q K := by
  refine c23_70 (b23_70_0 ⟨fun z => b23_70_1 (b23_70_2 ⟨Or.inl rfl, ?_⟩), fun z => b23_70_2 ⟨Or.inr rfl, ?_⟩⟩)
  · rw [if_neg z] at h; exact h
  · rw [if_pos (Decidable.of_not_not z)] at h; exact h
theorem w72_70 {d : Nat} {Q : dR → dS → Prop} {K : Int → dS → Prop} {o i : Int} {σ S : dS} (hc : cityOK S) (hF : ∀ k, ¬ ncl k → σ k = S k) (ho : 0 ≤ o) (ho2 : o < S 5 2) (hi : 0 ≤ i) (hi2 : i + 1 < S 15 o) (h : K (fly S 70 o (8 * o + i)) σ) : wI (d + 4) 72 [.inr (.inr 114), .inl o, .inl i, .inr (.inr 70)] σ Q K := by
  obtain ⟨c1, c2, c3, c4, c5, c6, c7, c8⟩ := hc
  obtain ⟨k1, k2, k3, k4⟩ := c6 o ho ho2
  have w1 := k3 i hi (by omega)
  have w2 := k3 (i + 1) (by omega) (by omega)
  have m1 := k4 i hi hi2
  rw [← Int.add_assoc] at w2
  refine c72_70 (b72_70_0 ?_)
  have e1 : rat σ 17 40 (wr (wr (o * 8) + i)) = S 17 (8 * o + i) := by
    rw [wr_id (x := o * 8) (by omega) (by omega), wr_id (by omega) (by omega), rat_in (by omega) (by omega), hF 17 (by decide), Int.mul_comm]
  have e2 : rat σ 17 40 (wr (wr (wr (o * 8) + i) + 1)) = S 17 (8 * o + i + 1) := by
    rw [wr_id (x := o * 8) (by omega) (by omega), wr_id (x := o * 8 + i) (by omega) (by omega), wr_id (by omega) (by omega), rat_in (by omega) (by omega), hF 17 (by decide), Int.mul_comm]
  have e3 : rat σ 11 5 o = S 11 o := by rw [rat_in (by omega) (by omega), hF 11 (by decide)]
  have e9 : σ 9 = S 9 := hF 9 (by decide)
  have eT : σ 70 = S 70 := hF 70 (by decide)
  rw [e1, e2]
  refine w28_5 (by omega) (by omega) (by omega) (by omega) ?_
  rw [e9, e3, eT, if_pos (by omega)]
  generalize hm : S 9 (10 * S 17 (8 * o + i) + S 17 (8 * o + i + 1)) = m at m1
  have fin : ∀ v, v = fly1 S 70 o m → B72_70_1 (d + 2) (fun res σ1 => match res with | .inl (some (.inl v)) => K v σ1 | .inl _ => False | .inr e => Q (.inr e) σ1) v σ := by
    intro v hv
    have hv2 : 0 ≤ v ∧ v ≤ 60 := by
      rw [hv]
      unfold fly1
      by_cases g : S 11 o = 1 ∧ 4 ≤ S 70 1
      · rw [if_pos g, idv_pos (by omega) (by omega) (by omega) (by omega)]; omega
      · rw [if_neg g]; omega
    unfold fly at h
    rw [hm] at h
    refine b72_70_1 ⟨fun z => b72_70_2 (b72_70_3 ?_), fun z => b72_70_3 ?_⟩
    · rw [eT] at z
      rw [if_pos z, ← hv] at h; exact h
    · rw [eT] at z
      rw [if_neg z, ← hv] at h
      rw [wr_id (by omega) (by omega)]; exact h
  refine ⟨fun z => fin m ?_, fun z => ⟨fun y => fin m ?_, fun y => ⟨by decide, ?_⟩⟩⟩
  · unfold fly1; rw [if_neg (fun q => z q.1)]
  · unfold fly1; rw [if_neg (fun q => by omega)]
  · rw [wr_id (by omega) (by omega)]
    exact fin _ (by unfold fly1; rw [if_pos ⟨by omega, by omega⟩])
theorem w71_70 {d : Nat} {Q : dR → dS → Prop} {K : Int → dS → Prop} {o i m mi : Int} {σ S : dS} (hc : cityOK S) (hs : skyOK S 70) (hF : ∀ k, ¬ ncl k → σ k = S k) (ho : 0 ≤ o) (ho2 : o < S 5 2) (hi : 0 ≤ i) (hi2 : i < S 15 o) (hm : 0 ≤ m) (hm2 : m < 100000) (hmi : σ 120 (S 17 (8 * o + i)) = mi) (h : ∀ σ', (∀ k, k ≠ 32 → k ≠ 130 → σ' k = σ k) → K (hvl S 70 mi o i m) σ') : wI (d + 5) 71 [.inr (.inr 114), .inl o, .inl i, .inl m, .inr (.inr 70)] σ Q K := by
  obtain ⟨c1, c2, c3, c4, c5, c6, c7, c8⟩ := hc
  obtain ⟨k1, k2, k3, k4⟩ := c6 o ho ho2
  have w1 := k3 i hi hi2
  refine c71_70 (b71_70_0 ?_)
  have e1 : rat σ 17 40 (wr (wr (o * 8) + i)) = S 17 (8 * o + i) := by
    rw [wr_id (x := o * 8) (by omega) (by omega), wr_id (by omega) (by omega), rat_in (by omega) (by omega), hF 17 (by decide), Int.mul_comm]
  have eT : σ 70 = S 70 := hF 70 (by decide)
  have eG : σ 72 = S 72 := hF 72 (by decide)
  rw [e1, eT]
  refine ⟨fun z => b71_70_3 ?_, fun z => ?_⟩
  · intro σ1 f1 σ2 f2 σ3 f3 σ4 f4 σ5 f5
    rw [rat_in (by omega) (by omega), hmi, rput_in (by omega) (by omega)] at f1
    rw [rput_in (by omega) (by omega), rat_in (by omega) (by omega), f1, up_k (by decide), eG] at f2
    rw [rput_in (by omega) (by omega), rat_in (by omega) (by omega), f2, up_k (by decide), up_k (by decide), hF 11 (by decide)] at f3
    rw [rput_in (by omega) (by omega), f3] at f4
    rw [rput_in (by omega) (by omega), f4, up_k (by decide), up_k (by decide), up_k (by decide), up_k (by decide), eT] at f5
    have g5 : σ5 70 = S 70 := by rw [f5, up_k (by decide), up_k (by decide), up_k (by decide), up_k (by decide), up_k (by decide), eT]
    rw [g5]
    have fin : ∀ v : Int, v = (if S 70 2 = 0 then 0 else 1) → B71_70_5 (d + 3) (fun res σ1 => match res with | .inl (some (.inl v)) => K v σ1 | .inl _ => False | .inr e => Q (.inr e) σ1) m v 5 σ5 := by
      intro v hv
      refine b71_70_5 ?_
      intro σ6 f6
      refine ⟨by decide, ?_⟩
      intro σ7 f7
      rw [rput_in (by omega) (by omega)] at f6
      rw [rput_in (by omega) (by omega)] at f7
      have k7 : ∀ k, k ≠ 130 → σ7 k = σ k := by
        intro k hk
        rw [f7, up_k hk, f6, up_k hk, f5, up_k hk, up_k hk, up_k hk, up_k hk, up_k hk]
      have g7 : σ7 70 = S 70 := by rw [k7 70 (by decide), eT]
      rw [g7]
      have hr1 : 0 ≤ S 70 0 := by have := hs.1; omega
      have hr2 : S 70 0 < S 26 0 := hs.1.2
      refine w18 (S := S) (w := wls S 70 mi o i m) hr1 (by omega) (c8 _ hr1 hr2) (fun k hk => ?_) (fun j j0 j7 => ?_) (fun σ' hσ => ?_)
      · rcases hk with e | e <;> rw [e, k7 _ (by decide)] <;> exact hF _ (by decide)
      · have hj : j = 0 ∨ j = 1 ∨ j = 2 ∨ j = 3 ∨ j = 4 ∨ j = 5 ∨ j = 6 := by omega
        unfold wls
        rcases hj with e | e | e | e | e | e | e <;> subst e <;> simp [f7, f6, f5, up, hv]
      · have hh := h σ' (fun k q1 q2 => by rw [hσ k q1, k7 k q2])
        unfold hvl at hh
        rw [if_neg z] at hh
        exact hh
    refine ⟨fun y => b71_70_4 (fin _ ?_), fun y => fin _ ?_⟩
    · rw [if_pos y]
    · rw [if_neg y]
  · have z' : S 70 0 = -1 := Decidable.of_not_not z
    rw [rat_in (by omega) (by omega), hmi]
    have hh := h σ (fun _ _ _ => rfl)
    unfold hvl at hh
    rw [if_pos z'] at hh
    refine ⟨fun y => b71_70_1 (b71_70_2 ?_), fun y => b71_70_2 ?_⟩
    · rw [if_pos y] at hh; exact hh
    · rw [if_neg y] at hh; exact hh
theorem w23_109 {d : Nat} {Q : dR → dS → Prop} {K : Int → dS → Prop} {o : Int} {σ : dS} (h : K (if nestb σ 109 o then 1 else 0) σ) : wI (d + 2) 23 [.inr (.inr 109), .inl o] σ Q K := by
  refine c23_109 (b23_109_0 ⟨fun z => b23_109_1 (b23_109_2 ⟨Or.inl rfl, ?_⟩), fun z => b23_109_2 ⟨Or.inr rfl, ?_⟩⟩)
  · rw [if_neg z] at h; exact h
  · rw [if_pos (Decidable.of_not_not z)] at h; exact h
theorem w72_109 {d : Nat} {Q : dR → dS → Prop} {K : Int → dS → Prop} {o i : Int} {σ S : dS} (hc : cityOK S) (hF : ∀ k, ¬ ncl k → σ k = S k) (ho : 0 ≤ o) (ho2 : o < S 5 2) (hi : 0 ≤ i) (hi2 : i + 1 < S 15 o) (h : K (fly S 109 o (8 * o + i)) σ) : wI (d + 4) 72 [.inr (.inr 114), .inl o, .inl i, .inr (.inr 109)] σ Q K := by
  obtain ⟨c1, c2, c3, c4, c5, c6, c7, c8⟩ := hc
  obtain ⟨k1, k2, k3, k4⟩ := c6 o ho ho2
  have w1 := k3 i hi (by omega)
  have w2 := k3 (i + 1) (by omega) (by omega)
  have m1 := k4 i hi hi2
  rw [← Int.add_assoc] at w2
  refine c72_109 (b72_109_0 ?_)
  have e1 : rat σ 17 40 (wr (wr (o * 8) + i)) = S 17 (8 * o + i) := by
    rw [wr_id (x := o * 8) (by omega) (by omega), wr_id (by omega) (by omega), rat_in (by omega) (by omega), hF 17 (by decide), Int.mul_comm]
  have e2 : rat σ 17 40 (wr (wr (wr (o * 8) + i) + 1)) = S 17 (8 * o + i + 1) := by
    rw [wr_id (x := o * 8) (by omega) (by omega), wr_id (x := o * 8 + i) (by omega) (by omega), wr_id (by omega) (by omega), rat_in (by omega) (by omega), hF 17 (by decide), Int.mul_comm]
  have e3 : rat σ 11 5 o = S 11 o := by rw [rat_in (by omega) (by omega), hF 11 (by decide)]
  have e9 : σ 9 = S 9 := hF 9 (by decide)
  have eT : σ 109 = S 109 := hF 109 (by decide)
  rw [e1, e2]
  refine w28_5 (by omega) (by omega) (by omega) (by omega) ?_
  rw [e9, e3, eT, if_pos (by omega)]
  generalize hm : S 9 (10 * S 17 (8 * o + i) + S 17 (8 * o + i + 1)) = m at m1
  have fin : ∀ v, v = fly1 S 109 o m → B72_109_1 (d + 2) (fun res σ1 => match res with | .inl (some (.inl v)) => K v σ1 | .inl _ => False | .inr e => Q (.inr e) σ1) v σ := by
    intro v hv
    have hv2 : 0 ≤ v ∧ v ≤ 60 := by
      rw [hv]
      unfold fly1
      by_cases g : S 11 o = 1 ∧ 4 ≤ S 109 1
      · rw [if_pos g, idv_pos (by omega) (by omega) (by omega) (by omega)]; omega
      · rw [if_neg g]; omega
    unfold fly at h
    rw [hm] at h
    refine b72_109_1 ⟨fun z => b72_109_2 (b72_109_3 ?_), fun z => b72_109_3 ?_⟩
    · rw [eT] at z
      rw [if_pos z, ← hv] at h; exact h
    · rw [eT] at z
      rw [if_neg z, ← hv] at h
      rw [wr_id (by omega) (by omega)]; exact h
  refine ⟨fun z => fin m ?_, fun z => ⟨fun y => fin m ?_, fun y => ⟨by decide, ?_⟩⟩⟩
  · unfold fly1; rw [if_neg (fun q => z q.1)]
  · unfold fly1; rw [if_neg (fun q => by omega)]
  · rw [wr_id (by omega) (by omega)]
    exact fin _ (by unfold fly1; rw [if_pos ⟨by omega, by omega⟩])
theorem w71_109 {d : Nat} {Q : dR → dS → Prop} {K : Int → dS → Prop} {o i m mi : Int} {σ S : dS} (hc : cityOK S) (hs : skyOK S 109) (hF : ∀ k, ¬ ncl k → σ k = S k) (ho : 0 ≤ o) (ho2 : o < S 5 2) (hi : 0 ≤ i) (hi2 : i < S 15 o) (hm : 0 ≤ m) (hm2 : m < 100000) (hmi : σ 120 (S 17 (8 * o + i)) = mi) (h : ∀ σ', (∀ k, k ≠ 32 → k ≠ 130 → σ' k = σ k) → K (hvl S 109 mi o i m) σ') : wI (d + 5) 71 [.inr (.inr 114), .inl o, .inl i, .inl m, .inr (.inr 109)] σ Q K := by
  obtain ⟨c1, c2, c3, c4, c5, c6, c7, c8⟩ := hc
  obtain ⟨k1, k2, k3, k4⟩ := c6 o ho ho2
  have w1 := k3 i hi hi2
  refine c71_109 (b71_109_0 ?_)
  have e1 : rat σ 17 40 (wr (wr (o * 8) + i)) = S 17 (8 * o + i) := by
    rw [wr_id (x := o * 8) (by omega) (by omega), wr_id (by omega) (by omega), rat_in (by omega) (by omega), hF 17 (by decide), Int.mul_comm]
  have eT : σ 109 = S 109 := hF 109 (by decide)
  have eG : σ 111 = S 111 := hF 111 (by decide)
  rw [e1, eT]
  refine ⟨fun z => b71_109_3 ?_, fun z => ?_⟩
  · intro σ1 f1 σ2 f2 σ3 f3 σ4 f4 σ5 f5
    rw [rat_in (by omega) (by omega), hmi, rput_in (by omega) (by omega)] at f1
    rw [rput_in (by omega) (by omega), rat_in (by omega) (by omega), f1, up_k (by decide), eG] at f2
    rw [rput_in (by omega) (by omega), rat_in (by omega) (by omega), f2, up_k (by decide), up_k (by decide), hF 11 (by decide)] at f3
    rw [rput_in (by omega) (by omega), f3] at f4
    rw [rput_in (by omega) (by omega), f4, up_k (by decide), up_k (by decide), up_k (by decide), up_k (by decide), eT] at f5
    have g5 : σ5 109 = S 109 := by rw [f5, up_k (by decide), up_k (by decide), up_k (by decide), up_k (by decide), up_k (by decide), eT]
    rw [g5]
    have fin : ∀ v : Int, v = (if S 109 2 = 0 then 0 else 1) → B71_109_5 (d + 3) (fun res σ1 => match res with | .inl (some (.inl v)) => K v σ1 | .inl _ => False | .inr e => Q (.inr e) σ1) m v 5 σ5 := by
      intro v hv
      refine b71_109_5 ?_
      intro σ6 f6
      refine ⟨by decide, ?_⟩
      intro σ7 f7
      rw [rput_in (by omega) (by omega)] at f6
      rw [rput_in (by omega) (by omega)] at f7
      have k7 : ∀ k, k ≠ 130 → σ7 k = σ k := by
        intro k hk
        rw [f7, up_k hk, f6, up_k hk, f5, up_k hk, up_k hk, up_k hk, up_k hk, up_k hk]
      have g7 : σ7 109 = S 109 := by rw [k7 109 (by decide), eT]
      rw [g7]
      have hr1 : 0 ≤ S 109 0 := by have := hs.1; omega
      have hr2 : S 109 0 < S 26 0 := hs.1.2
      refine w18 (S := S) (w := wls S 109 mi o i m) hr1 (by omega) (c8 _ hr1 hr2) (fun k hk => ?_) (fun j j0 j7 => ?_) (fun σ' hσ => ?_)
      · rcases hk with e | e <;> rw [e, k7 _ (by decide)] <;> exact hF _ (by decide)
      · have hj : j = 0 ∨ j = 1 ∨ j = 2 ∨ j = 3 ∨ j = 4 ∨ j = 5 ∨ j = 6 := by omega
        unfold wls
        rcases hj with e | e | e | e | e | e | e <;> subst e <;> simp [f7, f6, f5, up, hv]
      · have hh := h σ' (fun k q1 q2 => by rw [hσ k q1, k7 k q2])
        unfold hvl at hh
        rw [if_neg z] at hh
        exact hh
    refine ⟨fun y => b71_109_4 (fin _ ?_), fun y => fin _ ?_⟩
    · rw [if_pos y]
    · rw [if_neg y]
  · have z' : S 109 0 = -1 := Decidable.of_not_not z
    rw [rat_in (by omega) (by omega), hmi]
    have hh := h σ (fun _ _ _ => rfl)
    unfold hvl at hh
    rw [if_pos z'] at hh
    refine ⟨fun y => b71_109_1 (b71_109_2 ?_), fun y => b71_109_2 ?_⟩
    · rw [if_pos y] at hh; exact hh
    · rw [if_neg y] at hh; exact hh
