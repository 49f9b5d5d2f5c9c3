/-! MINUTES TOGETHER (class), roof, owl, stop -/
section TOG2
variable {d : Nat} {Q : dR → dS → Prop} {σ V : dS}
theorem l75_1 {S : dS} {o : Int} (hc : cityOK V) (hs : skyOK V 109) (hV : ∀ k, cty k → S k = V k) (hR : RC S V (NF V 109)) (o0 : 0 ≤ o) (o1 : o < V 5 2) {x2 : Int} (hq : ∀ σ', (∀ k, k ≠ 132 → σ' k = S k) → mks V o (σ' 132) (fun k' _ _ => k' < V 5 2) → B75_6 (d + 3) Q x2 σ') : ∀ (c : Nat) (k : Int) (σ : dS), 0 ≤ k → k + c = V 5 2 → (∀ k, k ≠ 132 → σ k = S k) → mks V o (σ 132) (fun k' _ _ => k' < k) → B75_1 (d + 3) Q o x2 k σ
  | 0, k, σ, k0, hk, hF, hm => by
    have e5 : σ 5 2 = V 5 2 := by rw [hF 5 (by decide), hV 5 (by decide)]
    have ek : k = V 5 2 := by omega
    subst ek
    exact b75_1 ⟨fun _ => hq σ hF hm, fun z => absurd (by rw [e5]; omega) z⟩
  | c + 1, k, σ, k0, hk, hF, hm => by
    have hO := hc.2.1
    have e5 : σ 5 2 = V 5 2 := by rw [hF 5 (by decide), hV 5 (by decide)]
    have next : ∀ σ', (∀ k, k ≠ 132 → σ' k = S k) → mks V o (σ' 132) (fun k' _ _ => k' < k + 1) → B75_5 (d + 3) Q o x2 k σ' := by
      intro σ' p1 p2
      refine b75_5 ?_
      rw [wr_id (by omega) (by omega)]
      exact l75_1 hc hs hV hR o0 o1 hq c (k + 1) σ' (by omega) (by omega) p1 p2
    have cnt : ∃ c' : Nat, (0 : Int) + c' = (if nestb V 109 o then 0 else V 15 o) := by
      have kk := hc.2.2.2.2.2.1 o o0 o1
      by_cases w : nestb V 109 o
      · rw [if_pos w]; exact ⟨0, rfl⟩
      · rw [if_neg w]; exact ⟨(V 15 o).toNat, by omega⟩
    obtain ⟨c', hc'⟩ := cnt
    refine b75_1 ⟨fun z => absurd z (by rw [e5]; omega), fun _ => l75_2 hc hs hV hR o0 o1 k0 (by omega) next c' 0 σ (by omega) hc' hF ⟨hm.1, hm.2.1, fun k' i' j' hP hk' hi' hj' m q => hm.2.2 k' i' j' ?_ hk' hi' hj' m q⟩⟩
    rcases hP with w | ⟨w, w2⟩
    · exact w
    · have := hi'.2.2.2.1
      omega
theorem mks_tgk {f : Int → Int} {o : Int} (hc : cityOK V) (hs : skyOK V 109) (o0 : 0 ≤ o) (o1 : o < V 5 2) (h : mks V o f (fun k' _ _ => k' < V 5 2)) {m : Int} (m0 : 0 ≤ m) (m1 : m ≤ 600) : f m = if m ≤ V 5 4 then tgk V o m (V 5 2).toNat else 0 := by
  have hD := hc.2.2.2.1
  have hO := hc.2.1
  have eN : ((V 5 2).toNat : Int) = V 5 2 := by omega
  have r := h.1 m m0 m1
  by_cases z : m ≤ V 5 4
  · rw [if_pos z]
    have t := tgk_r V o m (V 5 2).toNat
    have ti := tgk_iff V o m (V 5 2).toNat
    have a : f m = 1 → tgk V o m (V 5 2).toNat = 1 := by
      intro e
      obtain ⟨k, i, j, hk, hi, hj, q1, q2, q3, _⟩ := h.2.1 m m0 m1 e
      have ki := hc.2.2.2.2.2.1 o o0 o1
      have w1 := whr_stay hc hs m1 (⟨hi, q2.1, q2.2⟩ : stay V o i m)
      have w2 := whr_stay hc hs m1 (⟨hj, q3.1, q3.2⟩ : stay V k j m)
      have rr := ki.2.2.1 i hi.2.2.2.1 hi.2.2.2.2
      have j1 := hj.2.1
      exact ti.mpr ⟨k, hj.1, by omega, hk, by omega, by omega⟩
    have b : tgk V o m (V 5 2).toNat = 1 → f m = 1 := by
      intro e
      obtain ⟨x, x0, x1, x2, x3, x4⟩ := ti.mp e
      obtain ⟨i, si, ei⟩ := whr_yes hc o0 o1 m1 x3
      obtain ⟨j, sj, ej⟩ := whr_yes hc x0 (by omega) m1 (by rw [x4]; exact x3)
      exact h.2.2 x i j (by omega) x2 si.1 sj.1 m ⟨by omega, si.2, sj.2, z⟩
    rcases t with t | t
    · rw [t]
      rcases r with r | r
      · exact r
      · exact absurd (a r) (by omega)
    · rw [t]; exact b t
  · rw [if_neg z]
    rcases r with r | r
    · exact r
    · obtain ⟨k, i, j, hk, hi, hj, q1, q2, q3, q4⟩ := h.2.1 m m0 m1 r
      exact absurd q4 z
theorem l75_7 {o : Int} (hc : cityOK V) (hm : ∀ m, 0 ≤ m → m ≤ 600 → σ 132 m = if m ≤ V 5 4 then tgk V o m (V 5 2).toNat else 0) (hq : Q (.inl (some (.inl (tog V o)))) σ) : ∀ (c m : Nat), m + c = 601 → B75_7 (d + 3) Q (tsm V o (min m (V 5 4 + 1).toNat)) (m : Int) σ
  | 0, m, h => by
    have hD := hc.2.2.2.1
    have em : min m (V 5 4 + 1).toNat = (V 5 4 + 1).toNat := by omega
    refine b75_7 ⟨fun _ => b75_8 ?_, fun z => absurd (by omega) z⟩
    rw [em]; exact hq
  | c + 1, m, h => by
    have hD := hc.2.2.2.1
    have ih := l75_7 hc hm hq c (m + 1) (by omega)
    have ew : wr ((m : Int) + 1) = ((m + 1 : Nat) : Int) := by rw [wr_id (by omega) (by omega)]; omega
    have r := tsm_r V o (min m (V 5 4 + 1).toNat)
    have r1 := tgk_r V o (m : Int) (V 5 2).toNat
    refine b75_7 ⟨fun z => absurd z (by omega), fun _ => ?_⟩
    rw [ew, rat_in (by omega) (by omega), hm _ (by omega) (by omega)]
    by_cases z : (m : Int) ≤ V 5 4
    · have e1 : min m (V 5 4 + 1).toNat = m := by omega
      have e2 : min (m + 1) (V 5 4 + 1).toNat = m + 1 := by omega
      rw [if_pos z, e1, wr_id (by rw [e1] at r; omega) (by rw [e1] at r; omega)]
      rw [e2, tsm] at ih
      exact ih
    · have e1 : min m (V 5 4 + 1).toNat = (V 5 4 + 1).toNat := by omega
      have e2 : min (m + 1) (V 5 4 + 1).toNat = (V 5 4 + 1).toNat := by omega
      rw [if_neg z, e1, Int.add_zero, wr_id (by rw [e1] at r; omega) (by rw [e1] at r; omega)]
      rw [e2] at ih
      exact ih
theorem w75 {S : dS} {K : Int → dS → Prop} {o : Int} (hc : cityOK V) (hs : skyOK V 109) (hV : ∀ k, cty k → S k = V k) (hR : RC S V (NF V 109)) (o0 : 0 ≤ o) (o1 : o < V 5 2) (h : ∀ σ', (∀ k, k ≠ 132 → σ' k = S k) → K (tog V o) σ') : wI (d + 5) 75 [.inr (.inr 114), .inl o] S Q K := by
  have hO := hc.2.1
  have hD := hc.2.2.2.1
  refine c75 (b75_0 (fun σ1 f1 => ?_))
  refine l75_1 (S := S) hc hs hV hR o0 o1 (fun σ' p1 p2 => b75_6 ?_) (V 5 2).toNat 0 σ1 (Int.le_refl _) (by omega) (fun k hk => ?_) ⟨fun m m0 m1 => ?_, fun m m0 m1 q => ?_, fun k' i' j' hP _ _ hj' => ?_⟩
  · have e : tsm V o (min 0 (V 5 4 + 1).toNat) = 0 := by rw [Nat.zero_min]; rfl
    have := l75_7 (d := d) (Q := fun res σ1 => match res with | .inl (some (.inl v)) => K v σ1 | .inl _ => False | .inr e => Q (.inr e) σ1) (o := o) (σ := σ') hc (fun m m0 m1 => mks_tgk hc hs o0 o1 p2 m0 m1) (h σ' p1) 601 0 (by omega)
    rw [e] at this
    exact this
  · funext j
    rw [f1]
    unfold rfill
    rw [if_neg (fun q => hk q.1)]
  · left
    rw [f1]
    unfold rfill
    rw [if_pos ⟨rfl, m0, by omega⟩]
  · exfalso
    rw [f1] at q
    unfold rfill at q
    rw [if_pos ⟨rfl, m0, by omega⟩] at q
    exact absurd q (by decide)
  · have := hj'.1
    exact absurd hP (by omega)
end TOG2
/-! roof -/
def rdo (σ : dS) (r : Int) : Nat → Int
  | 0 => 0
  | k + 1 => ior (rdo σ r k) (if σ 21 (k : Int) = r then shl 1 (k : Int) else 0)
def nbo (σ : dS) (r : Int) : Nat → Int
  | 0 => 0
  | k + 1 => nbo σ r k + (if 0 < σ 9 (10 * r + (k : Int)) then 1 else 0)
theorem nbo_r (σ : dS) (r : Int) : ∀ k : Nat, 0 ≤ nbo σ r k ∧ nbo σ r k ≤ k
  | 0 => by simp [nbo]
  | k + 1 => by
    have := nbo_r σ r k
    rw [nbo]
    by_cases z : 0 < σ 9 (10 * r + (k : Int))
    · rw [if_pos z]; omega
    · rw [if_neg z]; omega
noncomputable def rofV (σ : dS) (r w : Int) : Int := if w = 0 then σ 72 r else if w = 1 then 2 * σ 72 r else if w = 2 then NF (nrm σ 70) 109 0 r else if w = 3 then rdo σ r (σ 5 3).toNat else nbo σ r (σ 5 0).toNat
def owlV0 (σ : dS) (o w : Int) : Int := if w = 0 then σ 11 o else if w = 1 then σ 74 o else if w = 2 then σ 15 o else if w = 3 then NF (nrm σ 70) 109 1 o else if w = 4 then (if nestb σ 70 o then 1 else 0) else tog (nrm σ 70) o
def stpV (σ : dS) (o i w : Int) : Int := if w = 0 then σ 17 (8 * o + i) else if nestb σ 70 o then -1 else if w = 1 then NF (nrm σ 70) 109 4 (8 * o + i) else NF (nrm σ 70) 109 5 (8 * o + i)
section LOOK2
variable {d : Nat} {Q : dR → dS → Prop} {σ : dS}
theorem l30 {r : Int} (hP : 0 ≤ σ 5 3 ∧ σ 5 3 ≤ 8) (hq : Q (.inl (some (.inl (rdo σ r (σ 5 3).toNat)))) σ) : ∀ (c m : Nat), (m : Int) + c = σ 5 3 → B30_1 d Q r (rdo σ r m) (m : Int) σ
  | 0, m, h => by
    have em : m = (σ 5 3).toNat := by omega
    refine b30_1 ⟨fun _ => b30_4 ?_, fun z => absurd (by omega) z⟩
    rw [em]; exact hq
  | c + 1, m, h => by
    have ih := l30 hP hq c (m + 1) (by omega)
    have ew : wr ((m : Int) + 1) = ((m + 1 : Nat) : Int) := by rw [wr_id (by omega) (by omega)]; omega
    refine b30_1 ⟨fun z => absurd z (by omega), fun _ => ?_⟩
    rw [rat_in (by omega) (by omega)]
    rw [rdo] at ih
    refine ⟨fun z => b30_2 (b30_3 ?_), fun z => b30_3 ?_⟩
    · rw [if_neg z] at ih; rw [ew]; exact ih
    · rw [if_pos (Decidable.of_not_not z)] at ih; rw [ew]; exact ih
theorem l219_7 {S : dS} {r : Int} (hc : cityOK S) (hM : MVc σ S) (hq : Q (.inl (some (.inl (rdo S r (S 5 3).toNat)))) σ) : ∀ (c m : Nat), (m : Int) + c = S 5 3 → B219_7 (d + 1) Q r (rdo S r m) (m : Int) σ
  | 0, m, h => by
    have e := hM.2.2.1
    have em : m = (S 5 3).toNat := by omega
    refine b219_7 ⟨fun _ => b219_10 ?_, fun z => absurd (by omega) z⟩
    rw [em]; exact hq
  | c + 1, m, h => by
    have hP := hc.2.2.1
    have e := hM.2.2.1
    have ih := l219_7 hc hM hq c (m + 1) (by omega)
    have ew : wr ((m : Int) + 1) = ((m + 1 : Nat) : Int) := by rw [wr_id (by omega) (by omega)]; omega
    refine b219_7 ⟨fun z => absurd z (by omega), fun _ => w210 hc hM (by omega) (by omega) ?_⟩
    rw [rdo] at ih
    refine ⟨fun z => b219_8 (b219_9 ?_), fun z => b219_9 ?_⟩
    · rw [if_neg z] at ih; rw [ew]; exact ih
    · rw [if_pos (Decidable.of_not_not z)] at ih; rw [ew]; exact ih
theorem l29 {r : Int} (hR : 0 ≤ σ 5 0 ∧ σ 5 0 ≤ 10) (hf : flOK σ) (r0 : 0 ≤ r) (r1 : r < σ 5 0) (hq : Q (.inl (some (.inl (nbo σ r (σ 5 0).toNat)))) σ) : ∀ (c m : Nat), (m : Int) + c = σ 5 0 → B29_1 (d + 1) Q r (nbo σ r m) (m : Int) σ
  | 0, m, h => by
    have em : m = (σ 5 0).toNat := by omega
    refine b29_1 ⟨fun _ => b29_4 ?_, fun z => absurd (by omega) z⟩
    rw [em]; exact hq
  | c + 1, m, h => by
    have ih := l29 hR hf r0 r1 hq c (m + 1) (by omega)
    have ew : wr ((m : Int) + 1) = ((m + 1 : Nat) : Int) := by rw [wr_id (by omega) (by omega)]; omega
    have hh := (hf.2 r (m : Int) r0 (by omega) (by omega) (by omega)).1
    have nr := nbo_r σ r m
    refine b29_1 ⟨fun z => absurd z (by omega), fun _ => w28_5 r0 (by omega) (by omega) (by omega) ?_⟩
    rw [nbo] at ih
    by_cases z : σ 9 (10 * r + (m : Int)) = 0
    · rw [if_neg (show ¬ σ 9 (10 * r + (m : Int)) ≠ 0 from fun q => q z)]
      rw [if_neg (by omega), Int.add_zero] at ih
      refine ⟨fun q => absurd rfl q, fun _ => b29_3 ?_⟩
      rw [ew, Int.add_zero, wr_id (by omega) (by omega)]; exact ih
    · rw [if_pos z]
      rw [if_pos (by omega)] at ih
      refine ⟨fun _ => b29_2 (b29_3 ?_), fun q => absurd (by omega) q⟩
      rw [ew, wr_id (by omega) (by omega)]; exact ih
theorem l219_12 {S : dS} {r : Int} (hc : cityOK S) (hM : MVc σ S) (r0 : 0 ≤ r) (r1 : r < S 5 0) (hq : Q (.inl (some (.inl (nbo S r (S 5 0).toNat)))) σ) : ∀ (c m : Nat), (m : Int) + c = S 5 0 → B219_12 d Q r (nbo S r m) (m : Int) σ
  | 0, m, h => by
    have e := hM.1
    have em : m = (S 5 0).toNat := by omega
    refine b219_12 ⟨fun _ => b219_15 ?_, fun z => absurd (by omega) z⟩
    rw [em]; exact hq
  | c + 1, m, h => by
    have hR := hc.1
    have e := hM.1
    have ih := l219_12 hc hM r0 r1 hq c (m + 1) (by omega)
    have ew : wr ((m : Int) + 1) = ((m + 1 : Nat) : Int) := by rw [wr_id (by omega) (by omega)]; omega
    have nr := nbo_r S r m
    refine b219_12 ⟨fun z => absurd z (by omega), fun _ => ?_⟩
    rw [wr_id (x := 10 * r) (by omega) (by omega), wr_id (x := 10 * r + (m : Int)) (by omega) (by omega), hM.2.2.2.2.2.1 _ (by omega) (by omega)]
    rw [nbo] at ih
    refine ⟨by omega, by omega, fun z => b219_13 (b219_14 ?_), fun z => b219_14 ?_⟩
    · rw [if_neg (by omega), Int.add_zero] at ih
      rw [ew, Int.add_zero, wr_id (by omega) (by omega)]; exact ih
    · rw [if_pos (by omega)] at ih
      rw [ew, wr_id (by omega) (by omega)]; exact ih
theorem x_roof {K : Int → dS → Prop} {r w : Int} (hI : INV σ) (h1 : (0 ≤ r ∧ r < σ 5 0) → (0 ≤ w ∧ w ≤ 4) → ∀ σ', FRM σ σ' → K (rofV σ r w) σ') (h2 : ¬ ((0 ≤ r ∧ r < σ 5 0) ∧ (0 ≤ w ∧ w ≤ 4)) → Q (.inr 0) σ) : wI (d + 9) 103 [.inr (.inr 0), .inl r, .inl w] σ Q K := by
  have hc := INV_c hI
  have hR := hc.1
  have hP := hc.2.2.1
  have sk := INV_s hI
  refine c103 (b103_0 (w109 (fun r0 r1 => ?_) (fun z => h2 (fun q => z q.1))))
  have g : 0 ≤ σ 72 r ∧ σ 72 r ≤ 9 := sk.2.2.2.2.1 r r0 r1
  unfold rofV at h1
  refine ⟨fun e => b103_1 ?_, fun n0 => ⟨fun e => b103_2 ?_, fun n1 => ⟨fun e => b103_3 ?_, fun n2 => ⟨fun e => b103_4 ?_, fun n3 => ⟨fun e => b103_5 ?_, fun n4 => b103_6 (h2 (fun q => by omega))⟩⟩⟩⟩⟩
  · rw [rat_in r0 (by omega)]
    have := h1 ⟨r0, r1⟩ (by omega) σ (FRM_refl σ)
    rw [if_pos e] at this; exact this
  · rw [rat_in r0 (by omega)]
    have := h1 ⟨r0, r1⟩ (by omega) σ (FRM_refl σ)
    rw [if_neg n0, if_pos e] at this
    rw [wr_id (by omega) (by omega)]; exact this
  · refine v70 hI (fun σ1 g1 _ g3 g4 => ?_)
    have := h1 ⟨r0, r1⟩ (by omega) σ1 g1
    rw [if_neg n0, if_neg n1, if_pos e] at this
    rw [rat_in r0 (by omega), g4.1 r r0 (by rw [nrm_c (k := 5) (by decide)]; exact r1)]; exact this
  · have := h1 ⟨r0, r1⟩ (by omega) σ (FRM_refl σ)
    rw [if_neg n0, if_neg n1, if_neg n2, if_pos e] at this
    exact c30 (b30_0 (l30 hP this (σ 5 3).toNat 0 (by omega)))
  · have := h1 ⟨r0, r1⟩ (by omega) σ (FRM_refl σ)
    rw [if_neg n0, if_neg n1, if_neg n2, if_neg n3] at this
    exact c29 (b29_0 (l29 hR hI.2.2.2.1 r0 r1 this (σ 5 0).toNat 0 (by omega)))
theorem rdo_k {S S' : dS} (h : S' 21 = S 21) (r : Int) : ∀ k, rdo S' r k = rdo S r k
  | 0 => rfl
  | k + 1 => by rw [rdo, rdo, rdo_k h r k, h]
theorem nbo_k {S S' : dS} (h : S' 9 = S 9) (r : Int) : ∀ k, nbo S' r k = nbo S r k
  | 0 => rfl
  | k + 1 => by rw [nbo, nbo, nbo_k h r k, h]
theorem m_roof {K : Int → dS → Prop} {r w : Int} (hI : INV σ) (h1 : (0 ≤ r ∧ r < σ 5 0) → (0 ≤ w ∧ w ≤ 4) → ∀ σ', FRM σ σ' → σ' 153 0 = 0 → K (rofV σ r w) σ') (h2 : ¬ ((0 ≤ r ∧ r < σ 5 0) ∧ (0 ≤ w ∧ w ≤ 4)) → ∀ σ', FRM σ σ' → σ' 153 0 = 1 → K 0 σ') : wI (d + 9) 219 [.inr (.inr 153), .inl r, .inl w] σ Q K := by
  have hR := (INV_c hI).1
  refine c219 (b219_0 ?_)
  intro σ1 f1
  obtain ⟨hT, hF1, hI1, en, e5, e1, e3, e4⟩ := m_begin hI f1
  refine w215 hT (fun r0 r1 => ⟨fun q => absurd q (by decide), fun _ => w218 hT (fun w0 w1 => ⟨fun _ => b219_2 ?_, fun q => absurd (by decide) q⟩) (fun z => ⟨fun q => absurd rfl q, fun _ => b219_1 (h2 (fun q => z q.2) _ (FRM_tr hF1 FRM_153) (up_same _ _ _ _))⟩)⟩) (fun z => ⟨fun _ => b219_1 (h2 (fun q => z (by rw [e1]; exact q.1)) _ (FRM_tr hF1 FRM_153) (up_same _ _ _ _)), fun q => absurd rfl q⟩)
  rw [e1] at r1
  refine v205 hI1 (fun σ2 g1 g2 g3 => ?_)
  have hF2 := FRM_tr hF1 g1
  have hT2 : σ2 153 0 = 0 := by rw [g2 153 (by decide)]; exact hT
  have hI2 := INV_F g1 hI1
  have hh := h1 ⟨r0, r1⟩ ⟨w0, w1⟩ σ2 hF2 hT2
  have sk := hI2.2.2.2.2.2.1
  have g5 : σ2 5 = σ 5 := hF2.1 5 (by decide) (by decide) (by decide)
  have g72 : σ2 72 = σ 72 := hF2.1 72 (by decide) (by decide) (by decide)
  have gr : σ2 174 (4 + r) = σ 72 r := by rw [← g72]; exact sk.2.2.2.2.1 r r0 (by rw [g5]; exact r1)
  have gb : 0 ≤ σ 72 r ∧ σ 72 r ≤ 9 := (INV_s hI).2.2.2.2.1 r r0 r1
  rw [en] at g3
  unfold rofV at hh
  refine ⟨fun e => b219_3 ?_, fun n0 => ⟨fun e => b219_4 ?_, fun n1 => ⟨fun e => b219_5 ?_, fun n2 => ⟨fun e => b219_6 ?_, fun n3 => b219_11 ?_⟩⟩⟩⟩
  · rw [wr_id (by omega) (by omega), gr]
    rw [if_pos e] at hh
    exact ⟨by omega, by omega, hh⟩
  · rw [wr_id (x := 4 + r) (by omega) (by omega), gr, wr_id (by omega) (by omega)]
    rw [if_neg n0, if_pos e] at hh
    exact ⟨by omega, by omega, hh⟩
  · rw [if_neg n0, if_neg n1, if_pos e] at hh
    rw [g3.2.2.1 r r0 (by rw [nrm_c (k := 5) (by decide)]; exact r1)]
    exact ⟨by omega, by omega, hh⟩
  · rw [if_neg n0, if_neg n1, if_neg n2, if_pos e, ← rdo_k (hF2.1 21 (by decide) (by decide) (by decide)), ← g5] at hh
    have hP2 := (INV_c hI2).2.2.1
    exact l219_7 (INV_c hI2) hI2.2.1 hh (σ2 5 3).toNat 0 (by omega)
  · rw [if_neg n0, if_neg n1, if_neg n2, if_neg n3, ← nbo_k (hF2.1 9 (by decide) (by decide) (by decide)), ← g5] at hh
    have hR2 := (INV_c hI2).1
    exact l219_12 (INV_c hI2) hI2.2.1 r0 (by rw [g5]; exact r1) hh (σ2 5 0).toNat 0 (by omega)
/-! owl -/
theorem x_owl {K : Int → dS → Prop} {o w : Int} (hI : INV σ) (h1 : (0 ≤ o ∧ o < σ 5 2) → (0 ≤ w ∧ w ≤ 5) → ∀ σ', FRM σ σ' → K (owlV0 σ o w) σ') (h2 : ¬ ((0 ≤ o ∧ o < σ 5 2) ∧ (0 ≤ w ∧ w ≤ 5)) → Q (.inr 0) σ) : wI (d + 9) 105 [.inr (.inr 0), .inl o, .inl w] σ Q K := by
  have hc := INV_c hI
  have hO := hc.2.1
  refine c105 (b105_0 (w110 (fun o0 o1 => ?_) (fun z => h2 (fun q => z q.1))))
  have e5 : nrm σ 70 5 = σ 5 := nrm_c (k := 5) (by decide)
  unfold owlV0 at h1
  refine ⟨fun e => b105_1 ?_, fun n0 => ⟨fun e => b105_2 ?_, fun n1 => ⟨fun e => b105_3 ?_, fun n2 => ⟨fun e => b105_4 ?_, fun n3 => ⟨fun e => b105_5 (w23_70 ?_), fun n4 => ⟨fun e => b105_8 ?_, fun n5 => b105_9 (h2 (fun q => by omega))⟩⟩⟩⟩⟩⟩
  · rw [rat_in o0 (by omega)]
    have := h1 ⟨o0, o1⟩ (by omega) σ (FRM_refl σ)
    rw [if_pos e] at this; exact this
  · rw [rat_in o0 (by omega)]
    have := h1 ⟨o0, o1⟩ (by omega) σ (FRM_refl σ)
    rw [if_neg n0, if_pos e] at this; exact this
  · rw [rat_in o0 (by omega)]
    have := h1 ⟨o0, o1⟩ (by omega) σ (FRM_refl σ)
    rw [if_neg n0, if_neg n1, if_pos e] at this; exact this
  · refine v70 hI (fun σ1 g1 _ g3 g4 => ?_)
    have := h1 ⟨o0, o1⟩ (by omega) σ1 g1
    rw [if_neg n0, if_neg n1, if_neg n2, if_pos e] at this
    rw [rat_in o0 (by omega), (g4.2.1 o o0 (by rw [e5]; exact o1)).1]; exact this
  · have := h1 ⟨o0, o1⟩ (by omega) σ (FRM_refl σ)
    rw [if_neg n0, if_neg n1, if_neg n2, if_neg n3, if_pos e] at this
    by_cases z : nestb σ 70 o
    · rw [if_pos z] at this ⊢
      exact ⟨fun q => absurd q (by decide), fun _ => b105_7 this⟩
    · rw [if_neg z] at this ⊢
      exact ⟨fun _ => b105_6 (b105_7 this), fun q => absurd rfl q⟩
  · refine v70 hI (fun σ1 g1 g2 g3 g4 => ?_)
    refine w75 (INV_vc hI) (INV_vs hI) g3 g4 o0 (by rw [e5]; exact o1) (fun σ2 g5 => ?_)
    have := h1 ⟨o0, o1⟩ (by omega) σ2 (FRM_tr g1 (FRM_c (fun k hk => g5 k (fun e => hk (by rw [e]; decide)))))
    rw [if_neg n0, if_neg n1, if_neg n2, if_neg n3, if_neg n4] at this
    exact this
theorem m_owl {K : Int → dS → Prop} {o w : Int} (hI : INV σ) (h1 : (0 ≤ o ∧ o < σ 5 2) → (0 ≤ w ∧ w ≤ 5) → ∀ σ', FRM σ σ' → σ' 153 0 = 0 → K (owlV0 σ o w) σ') (h2 : ¬ ((0 ≤ o ∧ o < σ 5 2) ∧ (0 ≤ w ∧ w ≤ 5)) → ∀ σ', FRM σ σ' → σ' 153 0 = 1 → K 0 σ') : wI (d + 9) 222 [.inr (.inr 153), .inl o, .inl w] σ Q K := by
  have hO := (INV_c hI).2.1
  refine c222 (b222_0 ?_)
  intro σ1 f1
  obtain ⟨hT, hF1, hI1, en, e5, e1, e3, e4⟩ := m_begin hI f1
  refine w216 hT (fun o0 o1 => ⟨fun q => absurd q (by decide), fun _ => w218 hT (fun w0 w1 => ⟨fun _ => b222_2 ?_, fun q => absurd (by decide) q⟩) (fun z => ⟨fun q => absurd rfl q, fun _ => b222_1 (h2 (fun q => z q.2) _ (FRM_tr hF1 FRM_153) (up_same _ _ _ _))⟩)⟩) (fun z => ⟨fun _ => b222_1 (h2 (fun q => z (by rw [e3]; exact q.1)) _ (FRM_tr hF1 FRM_153) (up_same _ _ _ _)), fun q => absurd rfl q⟩)
  rw [e3] at o1
  refine v205 hI1 (fun σ2 g1 g2 g3 => ?_)
  have hF2 := FRM_tr hF1 g1
  have hT2 : σ2 153 0 = 0 := by rw [g2 153 (by decide)]; exact hT
  have hI2 := INV_F g1 hI1
  have hh := h1 ⟨o0, o1⟩ ⟨w0, w1⟩ σ2 hF2 hT2
  have sk := hI2.2.2.2.2.2.1
  have g5 : σ2 5 = σ 5 := hF2.1 5 (by decide) (by decide) (by decide)
  have g74 : σ2 74 = σ 74 := hF2.1 74 (by decide) (by decide) (by decide)
  have gr : σ2 174 (14 + o) = σ 74 o := by rw [← g74]; exact sk.2.2.2.2.2 o o0 (by rw [g5]; exact o1)
  have hm := hI2.2.1.2.2.2.2.2.2.1 o o0 (by rw [g5]; exact o1)
  rw [hF2.1 11 (by decide) (by decide) (by decide), hF2.1 15 (by decide) (by decide) (by decide)] at hm
  have en2 : nestb (nrm σ 70) 109 o = nestb σ 70 o := nrm_nest o
  rw [en] at g3
  have e5' : nrm σ 70 5 = σ 5 := nrm_c (k := 5) (by decide)
  unfold owlV0 at hh
  refine ⟨fun e => b222_3 ?_, fun n0 => ⟨fun e => b222_4 ?_, fun n1 => ⟨fun e => b222_5 ?_, fun n2 => ⟨fun e => b222_6 ?_, fun n3 => ⟨fun e => b222_7 (w202 (V := nrm σ 70) g3.2.1.2.2.2.1 ?_), fun n4 => b222_10 ?_⟩⟩⟩⟩⟩
  · rw [if_pos e] at hh
    rw [hm.1]
    exact ⟨by omega, by omega, hh⟩
  · rw [wr_id (by omega) (by omega), gr]
    rw [if_neg n0, if_pos e] at hh
    exact ⟨by omega, by omega, hh⟩
  · rw [if_neg n0, if_neg n1, if_pos e] at hh
    rw [hm.2.1]
    exact ⟨by omega, by omega, hh⟩
  · rw [if_neg n0, if_neg n1, if_neg n2, if_pos e] at hh
    rw [(g3.2.2.2.1 o o0 (by rw [e5']; exact o1)).1]
    exact ⟨by omega, by omega, hh⟩
  · rw [if_neg n0, if_neg n1, if_neg n2, if_neg n3, if_pos e] at hh
    by_cases z : nestb σ 70 o
    · rw [if_pos z] at hh
      rw [if_pos (by rw [en2]; exact z)]
      exact ⟨fun q => absurd q (by decide), fun _ => b222_9 hh⟩
    · rw [if_neg z] at hh
      rw [if_neg (by rw [en2]; exact z)]
      exact ⟨fun _ => b222_8 (b222_9 hh), fun q => absurd rfl q⟩
  · rw [if_neg n0, if_neg n1, if_neg n2, if_neg n3, if_neg n4] at hh
    exact w221 (INV_vc hI) (INV_vs hI) g3 o0 (by rw [e5']; exact o1) hh
/-! stop -/
theorem x_stop {K : Int → dS → Prop} {o i w : Int} (hI : INV σ) (h1 : (0 ≤ o ∧ o < σ 5 2) → (0 ≤ i ∧ i < σ 15 o) → (0 ≤ w ∧ w ≤ 2) → ∀ σ', FRM σ σ' → K (stpV σ o i w) σ') (h2 : ¬ ((0 ≤ o ∧ o < σ 5 2) ∧ (0 ≤ i ∧ i < σ 15 o) ∧ (0 ≤ w ∧ w ≤ 2)) → Q (.inr 0) σ) : wI (d + 9) 106 [.inr (.inr 0), .inl o, .inl i, .inl w] σ Q K := by
  have hc := INV_c hI
  have hO := hc.2.1
  refine c106 (b106_0 (w110 (fun o0 o1 => ?_) (fun z => h2 (fun q => z q.1))))
  have kb := hc.2.2.2.2.2.1 o o0 o1
  have e5 : nrm σ 70 5 = σ 5 := nrm_c (k := 5) (by decide)
  have e15 : nrm σ 70 15 = σ 15 := nrm_c (k := 15) (by decide)
  rw [rat_in o0 (by omega)]
  refine ⟨fun z => b106_1 (h2 (fun q => by omega)), fun i0 => ⟨fun z => b106_1 (h2 (fun q => by omega)), fun i1 => ⟨fun z => b106_1 (h2 (fun q => by omega)), fun w0 => ⟨fun w1 => b106_2 ?_, fun z => b106_1 (h2 (fun q => by omega))⟩⟩⟩⟩
  have hh := h1 ⟨o0, o1⟩ ⟨by omega, by omega⟩ ⟨by omega, w1⟩
  have ew : wr (wr (o * 8) + i) = 8 * o + i := by rw [wr_id (x := o * 8) (by omega) (by omega), wr_id (by omega) (by omega)]; omega
  unfold stpV at hh
  refine ⟨fun n0 => b106_3 (w23_70 ?_), fun z => ?_⟩
  · rw [if_neg n0] at hh
    by_cases z : nestb σ 70 o
    · rw [if_pos z] at hh ⊢
      exact ⟨fun q => absurd q (by decide), fun _ => hh σ (FRM_refl σ)⟩
    · rw [if_neg z] at hh ⊢
      refine ⟨fun _ => b106_4 (v70 hI (fun σ1 g1 g2 g3 g4 => ?_)), fun q => absurd rfl q⟩
      have hx := hh σ1 g1
      have cl := g4.2.2.1 o i o0 (by rw [e5]; exact o1) (by rw [nrm_nest]; exact z) (by omega) (by rw [(NF_done (INV_vc hI) (INV_vs hI)).2 o o0 (by rw [e5]; exact o1), e15]; omega)
      rw [ew, rat_in (k := 116) (by omega) (by omega), cl.1]
      refine ⟨fun n1 => b106_5 (b106_6 ?_), fun y => b106_6 ?_⟩
      · rw [if_neg n1] at hx
        rw [ew, rat_in (by omega) (by omega), cl.2]; exact hx
      · rw [if_pos (Decidable.of_not_not y)] at hx
        exact hx
  · have hx := hh σ (FRM_refl σ)
    rw [if_pos (Decidable.of_not_not z)] at hx
    rw [ew, rat_in (by omega) (by omega)]; exact hx
theorem m_stop {K : Int → dS → Prop} {o i w : Int} (hI : INV σ) (h1 : (0 ≤ o ∧ o < σ 5 2) → (0 ≤ i ∧ i < σ 15 o) → (0 ≤ w ∧ w ≤ 2) → ∀ σ', FRM σ σ' → σ' 153 0 = 0 → K (stpV σ o i w) σ') (h2 : ¬ ((0 ≤ o ∧ o < σ 5 2) ∧ (0 ≤ i ∧ i < σ 15 o) ∧ (0 ≤ w ∧ w ≤ 2)) → ∀ σ', FRM σ σ' → σ' 153 0 = 1 → K 0 σ') : wI (d + 9) 223 [.inr (.inr 153), .inl o, .inl i, .inl w] σ Q K := by
  have hc := INV_c hI
  have hO := hc.2.1
  refine c223 (b223_0 ?_)
  intro σ1 f1
  obtain ⟨hT, hF1, hI1, en, e5, e1, e3, e4⟩ := m_begin hI f1
  refine w216 hT (fun o0 o1 => ⟨fun q => absurd q (by decide), fun _ => ?_⟩) (fun z => ⟨fun _ => b223_3 (h2 (fun q => z (by rw [e3]; exact q.1)) _ (FRM_tr hF1 FRM_153) (up_same _ _ _ _)), fun q => absurd rfl q⟩)
  rw [e3] at o1
  have kb := hc.2.2.2.2.2.1 o o0 o1
  have hm := hI1.2.1.2.2.2.2.2.2.1 o o0 (by rw [e5]; exact o1)
  rw [hF1.1 15 (by decide) (by decide) (by decide), hF1.1 17 (by decide) (by decide) (by decide)] at hm
  have bad : ¬ (0 ≤ i ∧ i < σ 15 o) → B223_1 (d + 7) (fun res σ1 => match res with | .inl (some (.inl v)) => K v σ1 | .inl _ => False | .inr e => Q (.inr e) σ1) o i w σ1 := fun z => b223_1 (b223_2 (w158 hT (by decide) (fun y => absurd rfl y) (fun _ => ⟨fun _ => b223_3 (h2 (fun q => z q.2.1) _ (FRM_tr hF1 FRM_153) (up_same _ _ _ _)), fun q => absurd rfl q⟩)))
  refine ⟨fun z => bad (fun q => by omega), fun i0 => ⟨o0, by omega, ?_⟩⟩
  rw [hm.2.1]
  refine ⟨fun z => bad (fun q => by omega), fun i1 => b223_2 (w158 hT (by decide) (fun _ => ⟨fun q => absurd q (by decide), fun _ => w218 hT (fun w0 w1 => ⟨fun _ => b223_4 ?_, fun q => absurd (by decide) q⟩) (fun z => ⟨fun q => absurd rfl q, fun _ => b223_3 (h2 (fun q => z q.2.2) _ (FRM_tr hF1 FRM_153) (up_same _ _ _ _))⟩)⟩) (fun y => absurd y (by decide)))⟩
  refine v205 hI1 (fun σ2 g1 g2 g3 => ?_)
  have hF2 := FRM_tr hF1 g1
  have hT2 : σ2 153 0 = 0 := by rw [g2 153 (by decide)]; exact hT
  have hh := h1 ⟨o0, o1⟩ ⟨by omega, by omega⟩ ⟨w0, w1⟩ σ2 hF2 hT2
  have en2 : nestb (nrm σ 70) 109 o = nestb σ 70 o := nrm_nest o
  rw [en] at g3
  have e5' : nrm σ 70 5 = σ 5 := nrm_c (k := 5) (by decide)
  have e15 : nrm σ 70 15 = σ 15 := nrm_c (k := 15) (by decide)
  have ew : wr (wr (8 * o) + i) = 8 * o + i := by rw [wr_id (x := 8 * o) (by omega) (by omega), wr_id (by omega) (by omega)]
  unfold stpV at hh
  refine ⟨fun n0 => b223_5 (w202 (V := nrm σ 70) g3.2.1.2.2.2.1 ?_), fun z => ?_⟩
  · rw [if_neg n0] at hh
    by_cases z : nestb σ 70 o
    · rw [if_pos z] at hh
      rw [if_pos (by rw [en2]; exact z)]
      exact ⟨fun q => absurd q (by decide), fun _ => b223_8 hh⟩
    · rw [if_neg z] at hh
      rw [if_neg (by rw [en2]; exact z)]
      have cl := g3.2.2.2.2 o i o0 (by rw [e5']; exact o1) (by rw [nrm_nest]; exact z) (by omega) (by rw [(NF_done (INV_vc hI) (INV_vs hI)).2 o o0 (by rw [e5']; exact o1), e15]; omega)
      refine ⟨fun _ => b223_6 ?_, fun q => absurd rfl q⟩
      rw [ew, cl.1]
      refine ⟨fun n1 => b223_7 ?_, fun y => ⟨by omega, by omega, b223_8 ?_⟩⟩
      · rw [if_neg n1] at hh
        rw [ew, cl.2]
        exact ⟨by omega, by omega, b223_8 hh⟩
      · rw [if_pos (Decidable.of_not_not y)] at hh
        exact hh
  · rw [if_pos (Decidable.of_not_not z)] at hh
    rw [ew, g2 157 (by decide), hm.2.2 i (by omega) (by omega)]
    exact ⟨by omega, by omega, b223_8 hh⟩
end LOOK2
