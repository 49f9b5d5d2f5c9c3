/-! WHERE AN OWL IS -/
def wh (V : dS) (o m : Int) : Nat → Int → Int
  | 0, _ => -1
  | k + 1, i => if NF V 109 4 (8 * o + i) ≤ m ∧ (i = V 15 o - 1 ∨ m ≤ NF V 109 5 (8 * o + i)) then V 17 (8 * o + i) else wh V o m k (i + 1)
def whr (V : dS) (o m : Int) : Int := if nestb V 109 o then -1 else wh V o m (V 15 o).toNat 0
theorem wh_r {V : dS} (hc : cityOK V) {o : Int} (o0 : 0 ≤ o) (o1 : o < V 5 2) (m : Int) : ∀ (k : Nat) (i : Int), 0 ≤ i → i + k = V 15 o → wh V o m k i = -1 ∨ (0 ≤ wh V o m k i ∧ wh V o m k i < V 5 0)
  | 0, _, _, _ => Or.inl rfl
  | k + 1, i, h0, h1 => by
    have kb := hc.2.2.2.2.2.1 o o0 o1
    unfold wh
    by_cases z : NF V 109 4 (8 * o + i) ≤ m ∧ (i = V 15 o - 1 ∨ m ≤ NF V 109 5 (8 * o + i))
    · rw [if_pos z]; exact Or.inr (kb.2.2.1 i h0 (by omega))
    · rw [if_neg z]; exact wh_r hc o0 o1 m k (i + 1) (by omega) (by omega)
theorem whr_r {V : dS} (hc : cityOK V) {o : Int} (o0 : 0 ≤ o) (o1 : o < V 5 2) (m : Int) : whr V o m = -1 ∨ (0 ≤ whr V o m ∧ whr V o m < V 5 0) := by
  have kb := hc.2.2.2.2.2.1 o o0 o1
  unfold whr
  by_cases z : nestb V 109 o
  · rw [if_pos z]; exact Or.inl rfl
  · rw [if_neg z]; exact wh_r hc o0 o1 m _ 0 (by omega) (by omega)
section WHERE
variable {d : Nat} {Q : dR → dS → Prop} {σ V : dS}
theorem w73 {K : Int → dS → Prop} {o i : Int} (hc : cityOK V) (hs : skyOK V 109) (hV : ∀ k, cty k → σ k = V k) (hR : RC σ V (NF V 109)) (hk : okc V o i) (h : K (if i = V 15 o - 1 then 2147483647 else NF V 109 5 (8 * o + i)) σ) : wI (d + 2) 73 [.inr (.inr 114), .inl (8 * o + i)] σ Q K := by
  have hO := hc.2.1
  obtain ⟨o0, o1, hn, i0, i1⟩ := hk
  have kb := hc.2.2.2.2.2.1 o o0 o1
  have cl := hR.2.2.1 o i o0 o1 hn i0 (by rw [(NF_done hc hs).2 o o0 o1]; exact i1)
  refine c73 (b73_0 ⟨by decide, by decide, ?_⟩)
  rw [irm_pos (by omega) (by omega) (by omega) (by omega), idv_pos (by omega) (by omega) (by omega) (by omega), show (8 * o + i) % 8 = i by omega, show (8 * o + i) / 8 = o by omega, rat_in o0 (by omega), hV 15 (by decide), wr_id (by omega) (by omega)]
  refine ⟨fun z => b73_1 (b73_2 ⟨fun _ => b73_3 (b73_4 ?_), fun q => absurd rfl q⟩), fun z => b73_2 ⟨fun q => absurd q (by decide), fun _ => b73_4 ?_⟩⟩
  · rw [if_neg z] at h
    rw [rat_in (by omega) (by omega), cl.2]; exact h
  · rw [if_pos (Decidable.of_not_not z)] at h; exact h
theorem l74 {o m : Int} (hc : cityOK V) (hs : skyOK V 109) (hV : ∀ k, cty k → σ k = V k) (hR : RC σ V (NF V 109)) (o0 : 0 ≤ o) (o1 : o < V 5 2) (hm : m ≤ 2147483647) (hn : ¬ nestb V 109 o) : ∀ (k : Nat) (i : Int), 0 ≤ i → i + k = V 15 o → Q (.inl (some (.inl (wh V o m k i)))) σ → B74_1 (d + 1) Q o m i σ
  | 0, i, h0, h1, hq => by
    have hO := hc.2.1
    have e124 : rat σ 124 5 o = V 15 o := by rw [rat_in o0 (by omega), (hR.2.1 o o0 o1).2, if_neg hn, (NF_done hc hs).2 o o0 o1]
    exact b74_1 ⟨fun _ => b74_3 hq, fun z => absurd (by rw [e124]; omega) z⟩
  | k + 1, i, h0, h1, hq => by
    have hO := hc.2.1
    have kb := hc.2.2.2.2.2.1 o o0 o1
    have e124 : rat σ 124 5 o = V 15 o := by rw [rat_in o0 (by omega), (hR.2.1 o o0 o1).2, if_neg hn, (NF_done hc hs).2 o o0 o1]
    have hk : okc V o i := ⟨o0, o1, hn, h0, by omega⟩
    have cl := hR.2.2.1 o i o0 o1 hn h0 (by rw [(NF_done hc hs).2 o o0 o1]; omega)
    have ec : wr (wr (o * 8) + i) = 8 * o + i := by rw [wr_id (x := o * 8) (by omega) (by omega), wr_id (by omega) (by omega), Int.mul_comm]
    unfold wh at hq
    have next : ¬ (NF V 109 4 (8 * o + i) ≤ m ∧ (i = V 15 o - 1 ∨ m ≤ NF V 109 5 (8 * o + i))) → B74_2 (d + 1) Q o m i σ := by
      intro z
      rw [if_neg z] at hq
      refine b74_2 ?_
      rw [wr_id (by omega) (by omega)]
      exact l74 hc hs hV hR o0 o1 hm hn k (i + 1) (by omega) (by omega) hq
    refine b74_1 ⟨fun z => absurd z (by rw [e124]; omega), fun _ => ?_⟩
    rw [ec, rat_in (by omega) (by omega), cl.1]
    refine ⟨fun z => next (fun q => by omega), fun z => w73 hc hs hV hR hk ⟨fun y => next (fun q => ?_), fun y => ?_⟩⟩
    · by_cases w : i = V 15 o - 1
      · rw [if_pos w] at y; omega
      · rw [if_neg w] at y; omega
    · rw [rat_in (by omega) (by omega), hV 17 (by decide)]
      rw [if_pos] at hq
      · exact hq
      · refine ⟨by omega, ?_⟩
        by_cases w : i = V 15 o - 1
        · exact Or.inl w
        · rw [if_neg w] at y; exact Or.inr (by omega)
theorem w74 {K : Int → dS → Prop} {o m : Int} (hc : cityOK V) (hs : skyOK V 109) (hV : ∀ k, cty k → σ k = V k) (hR : RC σ V (NF V 109)) (o0 : 0 ≤ o) (o1 : o < V 5 2) (hm : m ≤ 2147483647) (h : K (whr V o m) σ) : wI (d + 3) 74 [.inr (.inr 114), .inl o, .inl m] σ Q K := by
  have kb := hc.2.2.2.2.2.1 o o0 o1
  have hO := hc.2.1
  refine c74 (b74_0 ?_)
  unfold whr at h
  by_cases hn : nestb V 109 o
  · rw [if_pos hn] at h
    have e124 : rat σ 124 5 o = 0 := by rw [rat_in o0 (by omega), (hR.2.1 o o0 o1).2, if_pos hn]
    exact b74_1 ⟨fun _ => b74_3 h, fun z => absurd (by rw [e124]; omega) z⟩
  · rw [if_neg hn] at h
    exact l74 hc hs hV hR o0 o1 hm hn (V 15 o).toNat 0 (by omega) (by omega) h
theorem l206 {o m : Int} (hc : cityOK V) (hs : skyOK V 109) (hM : MN σ V) (o0 : 0 ≤ o) (o1 : o < V 5 2) (hn : ¬ nestb V 109 o) : ∀ (k : Nat) (i : Int), 0 ≤ i → i + k = V 15 o → Q (.inl (some (.inl (wh V o m k i)))) σ → B206_2 (d + 1) Q o m i σ
  | 0, i, h0, h1, hq => by
    have hO := hc.2.1
    have e156 : σ 156 o = V 15 o := (hM.1.2.2.2.2.2.2.1 o o0 o1).2.1
    exact b206_2 ⟨o0, by omega, fun _ => b206_7 hq, fun z => absurd (by rw [e156]; omega) z⟩
  | k + 1, i, h0, h1, hq => by
    have hO := hc.2.1
    have kb := hc.2.2.2.2.2.1 o o0 o1
    have e156 : σ 156 o = V 15 o := (hM.1.2.2.2.2.2.2.1 o o0 o1).2.1
    have e157 : σ 157 (8 * o + i) = V 17 (8 * o + i) := (hM.1.2.2.2.2.2.2.1 o o0 o1).2.2 i h0 (by omega)
    have cl := hM.2.2.2.2 o i o0 o1 hn h0 (by rw [(NF_done hc hs).2 o o0 o1]; omega)
    have ec : wr (wr (8 * o) + i) = 8 * o + i := by rw [wr_id (x := 8 * o) (by omega) (by omega), wr_id (by omega) (by omega)]
    unfold wh at hq
    have next : ¬ (NF V 109 4 (8 * o + i) ≤ m ∧ (i = V 15 o - 1 ∨ m ≤ NF V 109 5 (8 * o + i))) → B206_6 (d + 1) Q o m i σ := by
      intro z
      rw [if_neg z] at hq
      refine b206_6 ?_
      rw [wr_id (by omega) (by omega)]
      exact l206 hc hs hM o0 o1 hn k (i + 1) (by omega) (by omega) hq
    have yes : (NF V 109 4 (8 * o + i) ≤ m ∧ (i = V 15 o - 1 ∨ m ≤ NF V 109 5 (8 * o + i))) → B206_5 (d + 1) Q o i σ := by
      intro z
      rw [if_pos z] at hq
      refine b206_5 ?_
      rw [ec, e157]
      exact ⟨by omega, by omega, hq⟩
    have go : ∀ v : Int, v = (if i = V 15 o - 1 then 1 else 0) → B206_4 (d + 1) Q o m i v σ := by
      intro v hv
      refine b206_4 ?_
      rw [ec, cl.1, cl.2]
      refine ⟨by omega, by omega, fun z => next (fun q => by omega), fun z => ⟨fun y => yes ⟨by omega, ?_⟩, fun y => ⟨by omega, by omega, fun x => next (fun q => ?_), fun x => yes ⟨by omega, Or.inr (by omega)⟩⟩⟩⟩
      · by_cases w : i = V 15 o - 1
        · exact Or.inl w
        · rw [if_neg w] at hv; omega
      · by_cases w : i = V 15 o - 1
        · rw [if_pos w] at hv; omega
        · omega
    refine b206_2 ⟨o0, by omega, fun z => absurd z (by rw [e156]; omega), fun _ => ⟨o0, by omega, ?_⟩⟩
    rw [e156, wr_id (by omega) (by omega)]
    refine ⟨fun z => b206_3 (go 0 ?_), fun z => go 1 ?_⟩
    · rw [if_neg z]
    · rw [if_pos (Decidable.of_not_not z)]
theorem w206 {K : Int → dS → Prop} {o m : Int} (hc : cityOK V) (hs : skyOK V 109) (hM : MN σ V) (o0 : 0 ≤ o) (o1 : o < V 5 2) (h : K (whr V o m) σ) : wI (d + 3) 206 [.inr (.inr 153), .inl o, .inl m] σ Q K := by
  have kb := hc.2.2.2.2.2.1 o o0 o1
  refine c206 (b206_0 (w202 hM.2.1.2.2.2.1 ?_))
  unfold whr at h
  by_cases hn : nestb V 109 o
  · rw [if_pos hn] at h ⊢
    exact ⟨fun q => absurd q (by decide), fun _ => h⟩
  · rw [if_neg hn] at h ⊢
    exact ⟨fun _ => b206_1 (l206 hc hs hM o0 o1 hn (V 15 o).toNat 0 (by omega) (by omega) h), fun q => absurd rfl q⟩
end WHERE
section WHERE2
variable {d : Nat} {Q : dR → dS → Prop} {σ : dS}
/-- the class has passed the night of now -/
theorem v70 {K : dS → Prop} (hI : INV σ) (h : ∀ σ1, FRM σ σ1 → (∀ k, ¬ ncl k → σ1 k = σ k) → (∀ k, cty k → σ1 k = nrm σ 70 k) → RC σ1 (nrm σ 70) (NF (nrm σ 70) 109) → K σ1) : wV (d + 7) 68 [.inr (.inr 114), .inr (.inr 70)] σ Q K := by
  refine v68_70 (INV_c hI) (INV_s hI) (fun σ1 g1 g2 => h σ1 (FRM_c (fun k hk => g1 k (by omega))) g1 (fun k hk => ?_) g2)
  rw [nrm_c hk]; exact g1 k (by omega)
/-- the reference has passed the night of now -/
theorem v205 {K : dS → Prop} (hI : INV σ) (h : ∀ σ1, FRM σ σ1 → (∀ k, ¬ nml k → σ1 k = σ k) → MN σ1 (nrm σ 70) → K σ1) : wV (d + 7) 205 [.inr (.inr 153)] σ Q K :=
  w205 (INV_vc hI) (INV_vs hI) (INV_mc hI) (INV_ms hI) (fun σ1 g1 g2 => h σ1 (FRM_nm (fun k q _ => g1 k q)) g1 ⟨MVc_f g1 (INV_mc hI), MVs_f g1 (INV_ms hI), g2⟩)
/-- a call of the reference begins -/
theorem m_begin {σ1 : dS} (hI : INV σ) (f : σ1 = up σ 153 0 0) : σ1 153 0 = 0 ∧ FRM σ σ1 ∧ INV σ1 ∧ nrm σ1 70 = nrm σ 70 ∧ σ1 5 = σ 5 ∧ σ1 153 1 = σ 5 0 ∧ σ1 153 3 = σ 5 2 ∧ σ1 153 4 = σ 5 3 := by
  have hF : FRM σ σ1 := by rw [f]; exact FRM_153
  have hI1 := INV_F hF hI
  have e5 : σ1 5 = σ 5 := hF.1 5 (by decide) (by decide) (by decide)
  refine ⟨by rw [f, up_same], hF, hI1, nrm_F hF, e5, by rw [hI1.2.1.1, e5], by rw [hI1.2.1.2.1, e5], by rw [hI1.2.1.2.2.1, e5]⟩
theorem x_where {K : Int → dS → Prop} {o m : Int} (hI : INV σ) (hm : m ≤ 2147483647) (h1 : 0 ≤ o → o < σ 5 2 → ∀ σ', FRM σ σ' → K (whr (nrm σ 70) o m) σ') (h2 : ¬ (0 ≤ o ∧ o < σ 5 2) → Q (.inr 0) σ) : wI (d + 9) 108 [.inr (.inr 0), .inl o, .inl m] σ Q K :=
  c108 (b108_0 (w110 (fun o0 o1 => v70 hI (fun σ1 g1 _ g3 g4 => w74 (INV_vc hI) (INV_vs hI) g3 g4 o0 (by rw [nrm_c (k := 5) (by decide)]; exact o1) hm (h1 o0 o1 σ1 g1))) h2))
theorem m_where {K : Int → dS → Prop} {o m : Int} (hI : INV σ) (h1 : 0 ≤ o → o < σ 5 2 → ∀ σ', FRM σ σ' → σ' 153 0 = 0 → K (whr (nrm σ 70) o m) σ') (h2 : ¬ (0 ≤ o ∧ o < σ 5 2) → ∀ σ', FRM σ σ' → σ' 153 0 = 1 → K 0 σ') : wI (d + 9) 225 [.inr (.inr 153), .inl o, .inl m] σ Q K := by
  refine c225 (b225_0 ?_)
  intro σ1 f1
  obtain ⟨hT, hF1, hI1, en, e5, e1, e3, e4⟩ := m_begin hI f1
  refine w216 hT (fun o0 o1 => ⟨fun _ => b225_1 ?_, fun q => absurd (by decide) q⟩) (fun z => ⟨fun q => absurd rfl q, fun _ => h2 (by rw [e3] at z; exact z) _ (FRM_tr hF1 FRM_153) (up_same _ _ _ _)⟩)
  rw [e3] at o1
  refine v205 hI1 (fun σ2 g1 g2 g3 => ?_)
  rw [en] at g3
  exact w206 (INV_vc hI) (INV_vs hI) g3 o0 (by rw [nrm_c (k := 5) (by decide)]; exact o1) (h1 o0 o1 σ2 (FRM_tr hF1 g1) (by rw [g2 153 (by decide)]; exact hT))
/-! hunter -/
def hnt (V : dS) : Nat → Int
  | 0 => -1
  | k + 1 => if hnt V k = -1 ∨ NF V 109 1 (hnt V k) < NF V 109 1 (k : Int) then (k : Int) else hnt V k
theorem hnt_r (V : dS) : ∀ k : Nat, hnt V k = -1 ∧ k = 0 ∨ (0 ≤ hnt V k ∧ hnt V k < k)
  | 0 => Or.inl ⟨rfl, rfl⟩
  | k + 1 => by
    have := hnt_r V k
    unfold hnt
    by_cases z : hnt V k = -1 ∨ NF V 109 1 (hnt V k) < NF V 109 1 (k : Int)
    · rw [if_pos z]; omega
    · rw [if_neg z]; omega
theorem l153 {V : dS} (hc : cityOK V) (hs : skyOK V 109) (hV : ∀ k, cty k → σ k = V k) (hR : RC σ V (NF V 109)) (hq : Q (.inl (some (.inl (hnt V (V 5 2).toNat)))) σ) : ∀ (j m : Nat), (m : Int) + j = V 5 2 → B153_1 d Q (hnt V m) (if hnt V m = -1 then -1 else NF V 109 1 (hnt V m)) (m : Int) σ
  | 0, m, hj => by
    have e : σ 5 2 = V 5 2 := by rw [hV 5 (by decide)]
    have em : m = (V 5 2).toNat := by omega
    refine b153_1 ⟨fun _ => b153_3 ?_, fun z => absurd (by rw [e]; omega) z⟩
    rw [em]; exact hq
  | j + 1, m, hj => by
    have hO := hc.2.1
    have e : σ 5 2 = V 5 2 := by rw [hV 5 (by decide)]
    have e122 : rat σ 122 5 (m : Int) = NF V 109 1 (m : Int) := by rw [rat_in (by omega) (by omega), (hR.2.1 (m : Int) (by omega) (by omega)).1]
    have nn := ((NF_done hc hs).1.2 (m : Int) (by omega) (by omega)).2.2.1.1
    have ih := l153 hc hs hV hR hq j (m + 1) (by omega)
    have ew : wr ((m : Int) + 1) = ((m + 1 : Nat) : Int) := by rw [wr_id (by omega) (by omega)]; omega
    refine b153_1 ⟨fun z => absurd z (by rw [e]; omega), fun _ => ?_⟩
    rw [e122]
    refine ⟨fun z => b153_2 ?_, fun z => b153_2 ?_⟩
    · have z2 : ¬ (hnt V m = -1 ∨ NF V 109 1 (hnt V m) < NF V 109 1 (m : Int)) := by
        rintro (q | q)
        · rw [if_pos q] at z; omega
        · rw [if_neg (by have := hnt_r V m; omega)] at z; omega
      have eh : hnt V (m + 1) = hnt V m := by rw [hnt, if_neg z2]
      rw [ew]
      rw [eh] at ih
      exact ih
    · have z2 : hnt V m = -1 ∨ NF V 109 1 (hnt V m) < NF V 109 1 (m : Int) := by
        by_cases q : hnt V m = -1
        · exact Or.inl q
        · rw [if_neg q] at z; exact Or.inr (by omega)
      have eh : hnt V (m + 1) = (m : Int) := by rw [hnt, if_pos z2]
      rw [ew]
      rw [eh, if_neg (by omega)] at ih
      exact ih
theorem x_hunter {K : Int → dS → Prop} (hI : INV σ) (h : ∀ σ', FRM σ σ' → K (hnt (nrm σ 70) (σ 5 2).toNat) σ') : wI (d + 9) 153 [.inr (.inr 0)] σ Q K := by
  have hO := (INV_c hI).2.1
  refine c153 (b153_0 (v70 hI (fun σ1 g1 _ g3 g4 => ?_)))
  have e5 : nrm σ 70 5 2 = σ 5 2 := by rw [nrm_c (k := 5) (by decide)]
  exact l153 (INV_vc hI) (INV_vs hI) g3 g4 (by rw [e5]; exact h σ1 g1) (σ 5 2).toNat 0 (by rw [e5]; omega)
theorem l255 {V : dS} (hc : cityOK V) (hM : MN σ V) (hq : Q (.inl (some (.inl (hnt V (V 5 2).toNat)))) σ) : ∀ (j m : Nat), (m : Int) + j = V 5 2 → B255_1 d Q (hnt V m) (m : Int) σ
  | 0, m, hj => by
    have em : m = (V 5 2).toNat := by omega
    refine b255_1 ⟨fun _ => b255_4 ?_, fun z => absurd (by rw [hM.1.2.1]; omega) z⟩
    rw [em]; exact hq
  | j + 1, m, hj => by
    have hO := hc.2.1
    have e1 := (hM.2.2.2.1 (m : Int) (by omega) (by omega)).1
    have ih := l255 hc hM hq j (m + 1) (by omega)
    have ew : wr ((m : Int) + 1) = ((m + 1 : Nat) : Int) := by rw [wr_id (by omega) (by omega)]; omega
    have hr := hnt_r V m
    have yes : (hnt V m = -1 ∨ NF V 109 1 (hnt V m) < NF V 109 1 (m : Int)) → B255_3 d Q (m : Int) (m : Int) σ := by
      intro z
      have eh : hnt V (m + 1) = (m : Int) := by rw [hnt, if_pos z]
      refine b255_3 ?_
      rw [ew]; rw [eh] at ih; exact ih
    have no : ¬ (hnt V m = -1 ∨ NF V 109 1 (hnt V m) < NF V 109 1 (m : Int)) → B255_3 d Q (hnt V m) (m : Int) σ := by
      intro z
      have eh : hnt V (m + 1) = hnt V m := by rw [hnt, if_neg z]
      refine b255_3 ?_
      rw [ew]; rw [eh] at ih; exact ih
    refine b255_1 ⟨fun z => absurd z (by rw [hM.1.2.1]; omega), fun _ => ⟨fun z => b255_2 (yes (Or.inl z)), fun z => ⟨by omega, by omega, by omega, by omega, ?_⟩⟩⟩
    have e2 := (hM.2.2.2.1 (hnt V m) (by omega) (by omega)).1
    rw [e1, e2]
    exact ⟨fun y => no (fun q => by omega), fun y => b255_2 (yes (Or.inr (by omega)))⟩
theorem m_hunter {K : Int → dS → Prop} (hI : INV σ) (h : ∀ σ', FRM σ σ' → K (hnt (nrm σ 70) (σ 5 2).toNat) σ') : wI (d + 9) 255 [.inr (.inr 153)] σ Q K := by
  have hO := (INV_c hI).2.1
  refine c255 (b255_0 ?_)
  intro σ1 f1
  obtain ⟨hT, hF1, hI1, en, e5, e1, e3, e4⟩ := m_begin hI f1
  refine v205 hI1 (fun σ2 g1 g2 g3 => ?_)
  rw [en] at g3
  have e5 : nrm σ 70 5 2 = σ 5 2 := by rw [nrm_c (k := 5) (by decide)]
  exact l255 (INV_vc hI) g3 (by rw [e5]; exact h σ2 (FRM_tr hF1 g1)) (σ 5 2).toNat 0 (by rw [e5]; omega)
/-! never -/
noncomputable def nvr (V : dS) : Nat → Int
  | 0 => 0
  | k + 1 => ior (nvr V k) (if hmv V (k : Int) = -1 then shl 1 (k : Int) else 0)
theorem l124 {S V : dS} (hc : cityOK V) (hs : skyOK V 109) (hV : ∀ k, cty k → S k = V k) (hR : RC S V (NF V 109)) (h0 : ∀ x, ior x 0 = wr x) (hq : ∀ σ', (∀ k, ¬ rcl k → σ' k = S k) → Q (.inl (some (.inl (nvr V (V 5 3).toNat)))) σ') : ∀ (j m : Nat) (σ : dS), (m : Int) + j = V 5 3 → (∀ k, ¬ rcl k → σ k = S k) → B124_1 (d + 3) Q (nvr V m) (m : Int) σ
  | 0, m, σ, hj, hF => by
    have e5 : σ 5 3 = V 5 3 := by rw [hF 5 (by decide), hV 5 (by decide)]
    have em : m = (V 5 3).toNat := by omega
    refine b124_1 ⟨fun _ => b124_3 ?_, fun z => absurd (by rw [e5]; omega) z⟩
    rw [em]; exact hq σ hF
  | j + 1, m, σ, hj, hF => by
    have hP := hc.2.2.1
    have e5 : σ 5 3 = V 5 3 := by rw [hF 5 (by decide), hV 5 (by decide)]
    have hV' : ∀ k, cty k → σ k = V k := fun k hk => by rw [hF k (by omega)]; exact hV k hk
    have ew : wr ((m : Int) + 1) = ((m + 1 : Nat) : Int) := by rw [wr_id (by omega) (by omega)]; omega
    refine b124_1 ⟨fun z => absurd z (by rw [e5]; omega), fun _ => w79 hc hs hV' (RC_f hF hR) (by omega) (by omega) (fun σ1 g1 _ _ => ?_)⟩
    have F1 : ∀ k, ¬ rcl k → σ1 k = S k := fun k hk => by rw [g1 k hk]; exact hF k hk
    have ih := l124 hc hs hV hR h0 hq j (m + 1) σ1 (by omega) F1
    refine ⟨fun z => b124_2 ?_, fun z => b124_2 ?_⟩
    · rw [ew]
      have e : nvr V (m + 1) = nvr V m := by
        rw [nvr, if_neg z, h0]
        cases m with
        | zero => rfl
        | succ m => rw [nvr]; exact wr_eq (ti_R _)
      rw [e] at ih; exact ih
    · rw [ew]
      have e : nvr V (m + 1) = ior (nvr V m) (shl 1 (m : Int)) := by rw [nvr, if_pos (Decidable.of_not_not z)]
      rw [e] at ih; exact ih
theorem ior_0 (x : Int) : ior x 0 = wr x := by
  unfold ior
  rw [show Int32.ofInt 0 = 0 from rfl, Int32.or_zero, Int32.toInt_ofInt]
  rfl
theorem x_never {K : Int → dS → Prop} (hI : INV σ) (h : ∀ σ', FRM σ σ' → K (nvr (nrm σ 70) (σ 5 3).toNat) σ') : wI (d + 9) 124 [.inr (.inr 0)] σ Q K := by
  have hP := (INV_c hI).2.2.1
  refine c124 (b124_0 (v70 hI (fun σ1 g1 g2 g3 g4 => ?_)))
  have e5 : nrm σ 70 5 3 = σ 5 3 := by rw [nrm_c (k := 5) (by decide)]
  exact l124 (INV_vc hI) (INV_vs hI) g3 g4 ior_0 (fun σ2 g5 => by rw [e5]; exact h σ2 (FRM_n (fun k q1 q2 => by rw [g5 k q2]; exact g2 k q1))) (σ 5 3).toNat 0 σ1 (by rw [e5]; omega) (fun _ _ => rfl)
theorem l238 {S V : dS} (hc : cityOK V) (hs : skyOK V 109) (hM : MN S V) (hq : ∀ σ', (∀ k, k ≠ 186 → σ' k = S k) → Q (.inl (some (.inl (nvr V (V 5 3).toNat)))) σ') : ∀ (j m : Nat) (σ : dS), (m : Int) + j = V 5 3 → (∀ k, k ≠ 186 → σ k = S k) → B238_1 (d + 5) Q (nvr V m) (m : Int) σ
  | 0, m, σ, hj, hF => by
    have hM' := MN_6 hF hM
    have em : m = (V 5 3).toNat := by omega
    refine b238_1 ⟨fun _ => b238_4 ?_, fun z => absurd (by rw [hM'.1.2.2.1]; omega) z⟩
    rw [em]; exact hq σ hF
  | j + 1, m, σ, hj, hF => by
    have hP := hc.2.2.1
    have hM' := MN_6 hF hM
    have ew : wr ((m : Int) + 1) = ((m + 1 : Nat) : Int) := by rw [wr_id (by omega) (by omega)]; omega
    refine b238_1 ⟨fun z => absurd z (by rw [hM'.1.2.2.1]; omega), fun _ => w211 hc hs hM' (by omega) (by omega) (fun σ1 g1 _ _ g4 => ?_)⟩
    have F1 : ∀ k, k ≠ 186 → σ1 k = S k := fun k hk => by rw [g1 k hk]; exact hF k hk
    have ih := l238 hc hs hM hq j (m + 1) σ1 (by omega) F1
    have go : ∀ v, v = (if hmv V (m : Int) = -1 then shl 1 (m : Int) else 0) → B238_3 (d + 5) Q (m : Int) v (nvr V m) σ1 := by
      intro v hv
      refine b238_3 ?_
      rw [ew, hv]; exact ih
    unfold hmm
    by_cases z : hmv V (m : Int) = -1
    · rw [if_pos z]
      exact ⟨fun q => absurd q (by omega), fun _ => go _ (by rw [if_pos z])⟩
    · rw [if_neg z]
      exact ⟨fun _ => b238_2 (go _ (by rw [if_neg z])), fun q => absurd (by omega) q⟩
theorem m_never {K : Int → dS → Prop} (hI : INV σ) (h : ∀ σ', FRM σ σ' → K (nvr (nrm σ 70) (σ 5 3).toNat) σ') : wI (d + 9) 238 [.inr (.inr 153)] σ Q K := by
  have hP := (INV_c hI).2.2.1
  refine c238 (b238_0 ?_)
  intro σ1 f1
  obtain ⟨hT, hF1, hI1, en, e5, e1, e3, e4⟩ := m_begin hI f1
  refine v205 hI1 (fun σ2 g1 g2 g3 => ?_)
  rw [en] at g3
  have e5 : nrm σ 70 5 3 = σ 5 3 := by rw [nrm_c (k := 5) (by decide)]
  exact l238 (INV_vc hI) (INV_vs hI) g3 (fun σ3 g4 => by rw [e5]; exact h σ3 (FRM_tr hF1 (FRM_nm (fun k q1 q2 => by rw [g4 k q2]; exact g2 k q1)))) (σ 5 3).toNat 0 σ2 (by rw [e5]; omega) (fun _ _ => rfl)
/-! reach -/
noncomputable def rch (V : dS) (p m : Int) : Nat → Int
  | 0 => 0
  | k + 1 => ior (rch V p m k) (if AR V p (k : Int) < 1000000 ∧ AR V p (k : Int) ≤ m then shl 1 (k : Int) else 0)
theorem l82 {V : dS} {p m : Int} (hV5 : σ 5 0 = V 5 0) (hR10 : V 5 0 ≤ 10) (ha : ∀ r, 0 ≤ r → r < V 5 0 → (AR V p r = 1000000 ∨ (0 ≤ AR V p r ∧ AR V p r ≤ 2000)) ∧ σ 135 r = un (AR V p r)) (hq : Q (.inl (some (.inl (rch V p m (V 5 0).toNat)))) σ) : ∀ (j k : Nat), (k : Int) + j = V 5 0 → B82_1 d Q m (rch V p m k) (k : Int) σ
  | 0, k, hj => by
    have em : k = (V 5 0).toNat := by omega
    refine b82_1 ⟨fun _ => b82_6 ?_, fun z => absurd (by rw [hV5]; omega) z⟩
    rw [em]; exact hq
  | j + 1, k, hj => by
    have a := ha (k : Int) (by omega) (by omega)
    have e135 : rat σ 135 10 (k : Int) = un (AR V p (k : Int)) := by rw [rat_in (by omega) (by omega)]; exact a.2
    have ih := l82 hV5 hR10 ha hq j (k + 1) (by omega)
    have ew : wr ((k : Int) + 1) = ((k + 1 : Nat) : Int) := by rw [wr_id (by omega) (by omega)]; omega
    have go : ∀ v, v = (if AR V p (k : Int) < 1000000 ∧ AR V p (k : Int) ≤ m then shl 1 (k : Int) else 0) → B82_5 d Q m (k : Int) v (rch V p m k) σ := by
      intro v hv
      refine b82_5 ?_
      rw [ew, hv]; exact ih
    have no : ¬ (AR V p (k : Int) < 1000000 ∧ AR V p (k : Int) ≤ m) → B82_2 d Q m (rch V p m k) (k : Int) σ := fun z => b82_2 (b82_3 ⟨fun _ => b82_4 (go _ (by rw [if_neg z])), fun q => absurd rfl q⟩)
    have yes : (AR V p (k : Int) < 1000000 ∧ AR V p (k : Int) ≤ m) → B82_3 d Q m (rch V p m k) (k : Int) 1 σ := fun z => b82_3 ⟨fun q => absurd q (by decide), fun _ => go _ (by rw [if_pos z])⟩
    refine b82_1 ⟨fun z => absurd z (by rw [hV5]; omega), fun _ => ?_⟩
    rw [e135]
    unfold un
    by_cases z : AR V p (k : Int) = 1000000
    · rw [if_pos z]
      exact ⟨fun _ => no (fun q => by omega), fun q => absurd rfl q⟩
    · rw [if_neg z]
      exact ⟨fun q => absurd q (by omega), fun _ => ⟨fun y => no (fun q => by omega), fun y => yes ⟨by omega, by omega⟩⟩⟩
theorem x_reach {K : Int → dS → Prop} {p m : Int} (hI : INV σ) (h1 : 0 ≤ p → p < σ 5 3 → ∀ σ', FRM σ σ' → K (rch (nrm σ 70) p m (σ 5 0).toNat) σ') (h2 : ¬ (0 ≤ p ∧ p < σ 5 3) → Q (.inr 0) σ) : wI (d + 9) 125 [.inr (.inr 0), .inl p, .inl m] σ Q K := by
  have hRo := (INV_c hI).1
  have e5 : nrm σ 70 5 = σ 5 := nrm_c (k := 5) (by decide)
  refine c125 (b125_0 (w111 (fun p0 p1 => v70 hI (fun σ1 g1 g2 g3 g4 => c82 (b82_0 (w78 (p := p) (INV_vc hI) (INV_vs hI) g3 g4 p0 (by rw [e5]; exact p1) (fun σ2 g5 g6 g7 => ?_))))) h2))
  refine l82 (V := nrm σ 70) (p := p) (m := m) ?_ (by rw [e5]; omega) g7 ?_ (σ 5 0).toNat 0 (by rw [e5]; omega)
  · rw [g5 5 (by decide) (by decide), g3 5 (by decide)]
  · rw [e5]
    exact h1 p0 p1 σ2 (FRM_n (fun k q1 q2 => by rw [g5 k (fun e => q2 (Or.inl e)) (fun e => q2 (Or.inr e))]; exact g2 k q1))
theorem l250 {V : dS} {p m : Int} (hV5 : σ 153 1 = V 5 0) (hR10 : V 5 0 ≤ 10) (ha : ∀ r, 0 ≤ r → r < V 5 0 → 0 ≤ AR V p r ∧ AR V p r ≤ 1000000 ∧ σ 186 r = AR V p r) (hq : Q (.inl (some (.inl (rch V p m (V 5 0).toNat)))) σ) : ∀ (j k : Nat), (k : Int) + j = V 5 0 → B250_2 d Q m (rch V p m k) (k : Int) σ
  | 0, k, hj => by
    have em : k = (V 5 0).toNat := by omega
    refine b250_2 ⟨fun _ => b250_5 ?_, fun z => absurd (by rw [hV5]; omega) z⟩
    rw [em]; exact hq
  | j + 1, k, hj => by
    have a := ha (k : Int) (by omega) (by omega)
    have ih := l250 hV5 hR10 ha hq j (k + 1) (by omega)
    have ew : wr ((k : Int) + 1) = ((k + 1 : Nat) : Int) := by rw [wr_id (by omega) (by omega)]; omega
    have go : ∀ v, v = (if AR V p (k : Int) < 1000000 ∧ AR V p (k : Int) ≤ m then shl 1 (k : Int) else 0) → B250_4 d Q m (k : Int) v (rch V p m k) σ := by
      intro v hv
      refine b250_4 ?_
      rw [ew, hv]; exact ih
    refine b250_2 ⟨fun z => absurd z (by rw [hV5]; omega), fun _ => ⟨by omega, by omega, ?_⟩⟩
    rw [a.2.2]
    refine ⟨fun z => b250_3 (go _ (by rw [if_neg (fun q => by omega)])), fun z => ⟨by omega, by omega, fun y => b250_3 (go _ (by rw [if_neg (fun q => by omega)])), fun y => go _ (by rw [if_pos ⟨by omega, by omega⟩])⟩⟩
theorem m_reach {K : Int → dS → Prop} {p m : Int} (hI : INV σ) (h1 : 0 ≤ p → p < σ 5 3 → ∀ σ', FRM σ σ' → σ' 153 0 = 0 → K (rch (nrm σ 70) p m (σ 5 0).toNat) σ') (h2 : ¬ (0 ≤ p ∧ p < σ 5 3) → ∀ σ', FRM σ σ' → σ' 153 0 = 1 → K 0 σ') : wI (d + 9) 250 [.inr (.inr 153), .inl p, .inl m] σ Q K := by
  have hRo := (INV_c hI).1
  have e5' : nrm σ 70 5 = σ 5 := nrm_c (k := 5) (by decide)
  refine c250 (b250_0 ?_)
  intro σ1 f1
  obtain ⟨hT, hF1, hI1, en, e5, e1, e3, e4⟩ := m_begin hI f1
  refine w217 hT (fun p0 p1 => ⟨fun _ => b250_1 ?_, fun q => absurd (by decide) q⟩) (fun z => ⟨fun q => absurd rfl q, fun _ => h2 (by rw [e4] at z; exact z) _ (FRM_tr hF1 FRM_153) (up_same _ _ _ _)⟩)
  rw [e4] at p1
  refine v205 hI1 (fun σ2 g1 g2 g3 => ?_)
  rw [en] at g3
  refine w209 (p := p) (INV_vc hI) (INV_vs hI) g3 p0 (by rw [e5']; exact p1) (fun σ3 g4 g5 g6 => ?_)
  have g7 : ∀ k, ¬ nml k → k ≠ 186 → σ3 k = σ1 k := fun k q1 q2 => by rw [g4 k q2]; exact g2 k q1
  refine l250 (V := nrm σ 70) (p := p) (m := m) ?_ (by rw [e5']; omega) g6 ?_ (σ 5 0).toNat 0 (by rw [e5']; omega)
  · rw [g7 153 (by decide) (by decide), e1, e5']
  · rw [e5']
    exact h1 p0 p1 σ3 (FRM_tr hF1 (FRM_nm g7)) (by rw [g7 153 (by decide) (by decide)]; exact hT)
end WHERE2
