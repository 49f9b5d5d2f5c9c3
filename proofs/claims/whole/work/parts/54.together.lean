/-! MINUTES TOGETHER -/
def lst (V : dS) (o i : Int) : Int := if i = V 15 o - 1 then 2147483647 else NF V 109 5 (8 * o + i)
def stay (V : dS) (o i m : Int) : Prop := okc V o i ∧ NF V 109 4 (8 * o + i) ≤ m ∧ m ≤ lst V o i
theorem wh_no {V : dS} {o m : Int} : ∀ (k : Nat) (i : Int), i + k = V 15 o → m ≤ 600 → wh V o m k i = -1 → (∀ j, i ≤ j → j < V 15 o → V 17 (8 * o + j) ≠ -1) → ∀ j, i ≤ j → j < V 15 o → ¬ (NF V 109 4 (8 * o + j) ≤ m ∧ m ≤ lst V o j)
  | 0, i, h, hm, _, _, j, j0, j1 => by omega
  | k + 1, i, h, hm, hw, hne, j, j0, j1 => by
    unfold wh at hw
    by_cases z : NF V 109 4 (8 * o + i) ≤ m ∧ (i = V 15 o - 1 ∨ m ≤ NF V 109 5 (8 * o + i))
    · rw [if_pos z] at hw
      exact absurd hw (hne i (by omega) (by omega))
    · rw [if_neg z] at hw
      by_cases e : j = i
      · subst e
        intro q
        refine z ⟨q.1, ?_⟩
        by_cases w : j = V 15 o - 1
        · exact Or.inl w
        · have := q.2
          unfold lst at this
          rw [if_neg w] at this
          exact Or.inr this
      · exact wh_no k (i + 1) (by omega) hm hw (fun j a b => hne j (by omega) b) j (by omega) j1
theorem wh_yes {V : dS} {o m : Int} : ∀ (k : Nat) (i : Int), i + k = V 15 o → m ≤ 600 → wh V o m k i ≠ -1 → ∃ j, i ≤ j ∧ j < V 15 o ∧ NF V 109 4 (8 * o + j) ≤ m ∧ m ≤ lst V o j ∧ wh V o m k i = V 17 (8 * o + j)
  | 0, i, h, hm, hw => absurd rfl hw
  | k + 1, i, h, hm, hw => by
    unfold wh at hw ⊢
    by_cases z : NF V 109 4 (8 * o + i) ≤ m ∧ (i = V 15 o - 1 ∨ m ≤ NF V 109 5 (8 * o + i))
    · rw [if_pos z]
      refine ⟨i, by omega, by omega, z.1, ?_, rfl⟩
      unfold lst
      by_cases w : i = V 15 o - 1
      · rw [if_pos w]; omega
      · rw [if_neg w]; exact z.2.resolve_left w
    · rw [if_neg z] at hw ⊢
      obtain ⟨j, a, b, c⟩ := wh_yes k (i + 1) (by omega) hm hw
      exact ⟨j, by omega, b, c⟩
theorem whr_yes {V : dS} (hc : cityOK V) {o m : Int} (o0 : 0 ≤ o) (o1 : o < V 5 2) (hm : m ≤ 600) (h : whr V o m ≠ -1) : ∃ i, stay V o i m ∧ whr V o m = V 17 (8 * o + i) := by
  have kb := hc.2.2.2.2.2.1 o o0 o1
  unfold whr at h ⊢
  by_cases hn : nestb V 109 o
  · rw [if_pos hn] at h; exact absurd rfl h
  · rw [if_neg hn] at h ⊢
    obtain ⟨j, a, b, c, d, e⟩ := wh_yes (V 15 o).toNat 0 (by omega) hm h
    exact ⟨j, ⟨⟨o0, o1, hn, a, b⟩, c, d⟩, e⟩
theorem whr_stay {V : dS} (hc : cityOK V) (hs : skyOK V 109) {o i m : Int} (hm : m ≤ 600) (h : stay V o i m) : whr V o m = V 17 (8 * o + i) := by
  obtain ⟨hk, h1, h2⟩ := h
  have kb := hc.2.2.2.2.2.1 o hk.1 hk.2.1
  have hF := FN_F hc hs
  have ne : whr V o m ≠ -1 := by
    intro q
    unfold whr at q
    rw [if_neg hk.2.2.1] at q
    exact wh_no (V 15 o).toNat 0 (by omega) hm q (fun j a b => by have := kb.2.2.1 j a b; omega) i hk.2.2.2.1 hk.2.2.2.2 ⟨h1, h2⟩
  obtain ⟨j, ⟨hj, j1, j2⟩, e⟩ := whr_yes hc hk.1 hk.2.1 hm ne
  rw [e]
  by_cases w : i = j
  · rw [w]
  · exfalso
    by_cases w2 : i < j
    · have l := FN_54 hF hk hj w2
      unfold lst at h2
      rw [if_neg (by have := hj.2.2.2.2; omega)] at h2
      omega
    · have l := FN_54 hF hj hk (by omega)
      unfold lst at j2
      rw [if_neg (by have := hk.2.2.2.2; omega)] at j2
      omega
/-- 1 where another of the first k owls is with owl o -/
def tgk (V : dS) (o m : Int) : Nat → Int
  | 0 => 0
  | k + 1 => if tgk V o m k ≠ 0 ∨ ((k : Int) ≠ o ∧ whr V o m ≠ -1 ∧ whr V (k : Int) m = whr V o m) then 1 else 0
theorem tgk_r (V : dS) (o m : Int) : ∀ k : Nat, tgk V o m k = 0 ∨ tgk V o m k = 1
  | 0 => Or.inl rfl
  | k + 1 => by
    unfold tgk
    by_cases z : tgk V o m k ≠ 0 ∨ ((k : Int) ≠ o ∧ whr V o m ≠ -1 ∧ whr V (k : Int) m = whr V o m)
    · rw [if_pos z]; exact Or.inr rfl
    · rw [if_neg z]; exact Or.inl rfl
theorem tgk_iff (V : dS) (o m : Int) : ∀ k : Nat, tgk V o m k = 1 ↔ ∃ x, 0 ≤ x ∧ x < (k : Int) ∧ x ≠ o ∧ whr V o m ≠ -1 ∧ whr V x m = whr V o m
  | 0 => by
    constructor
    · intro h; exact absurd h (by show ¬ (0 : Int) = 1; decide)
    · rintro ⟨x, a, b, _⟩; omega
  | k + 1 => by
    have ih := tgk_iff V o m k
    have r := tgk_r V o m k
    unfold tgk
    constructor
    · intro h
      by_cases z : tgk V o m k ≠ 0 ∨ ((k : Int) ≠ o ∧ whr V o m ≠ -1 ∧ whr V (k : Int) m = whr V o m)
      · rcases z with q | q
        · obtain ⟨x, a, b, c⟩ := ih.mp (r.resolve_left q)
          exact ⟨x, a, by omega, c⟩
        · exact ⟨k, by omega, by omega, q⟩
      · rw [if_neg z] at h; exact absurd h (by decide)
    · rintro ⟨x, a, b, c⟩
      rw [if_pos]
      by_cases e : x = (k : Int)
      · subst e; exact Or.inr c
      · exact Or.inl (by have := ih.mpr ⟨x, a, by omega, c⟩; omega)
def tsm (V : dS) (o : Int) : Nat → Int
  | 0 => 0
  | m + 1 => tsm V o m + tgk V o (m : Int) (V 5 2).toNat
theorem tsm_r (V : dS) (o : Int) : ∀ m : Nat, 0 ≤ tsm V o m ∧ tsm V o m ≤ m
  | 0 => by simp [tsm]
  | m + 1 => by
    have := tsm_r V o m
    have := tgk_r V o (m : Int) (V 5 2).toNat
    rw [tsm]; omega
/-- the minutes that owl o is not alone -/
def tog (V : dS) (o : Int) : Int := tsm V o (V 5 4 + 1).toNat
section TOG
variable {d : Nat} {Q : dR → dS → Prop} {σ V : dS}
/-! the reference -/
theorem l221_2 {S : dS} {o m : Int} (hc : cityOK V) (hs : skyOK V 109) (hM : MN σ V) (o0 : 0 ≤ o) (o1 : o < V 5 2) {x2 : Int} (hq : B221_6 (d + 3) Q o x2 m (tgk V o m (V 5 2).toNat) σ) : ∀ (j k : Nat), (k : Int) + j = V 5 2 → B221_2 (d + 3) Q o x2 m (whr V o m) (tgk V o m k) (k : Int) σ
  | 0, k, hj => by
    have ek : k = (V 5 2).toNat := by omega
    refine b221_2 ⟨fun _ => ?_, fun z => absurd (by rw [hM.1.2.1]; omega) z⟩
    rw [ek]; exact hq
  | j + 1, k, hj => by
    have hO := hc.2.1
    have ih := l221_2 (S := S) hc hs hM o0 o1 hq j (k + 1) (by omega)
    have ew : wr ((k : Int) + 1) = ((k + 1 : Nat) : Int) := by rw [wr_id (by omega) (by omega)]; omega
    have yes : (tgk V o m k ≠ 0 ∨ ((k : Int) ≠ o ∧ whr V o m ≠ -1 ∧ whr V (k : Int) m = whr V o m)) → B221_3 (d + 3) Q o x2 m (whr V o m) (k : Int) σ := by
      intro z
      have e : tgk V o m (k + 1) = 1 := by rw [tgk, if_pos z]
      refine b221_3 (b221_5 ?_)
      rw [ew]; rw [e] at ih; exact ih
    have no : ¬ (tgk V o m k ≠ 0 ∨ ((k : Int) ≠ o ∧ whr V o m ≠ -1 ∧ whr V (k : Int) m = whr V o m)) → B221_4 (d + 3) Q o x2 m (whr V o m) (k : Int) σ := by
      intro z
      have e : tgk V o m (k + 1) = 0 := by rw [tgk, if_neg z]
      refine b221_4 (b221_5 ?_)
      rw [ew]; rw [e] at ih; exact ih
    refine b221_2 ⟨fun z => absurd z (by rw [hM.1.2.1]; omega), fun _ => ⟨fun z => yes (Or.inl z), fun z => ⟨fun y => no (fun q => ?_), fun y => ⟨fun x => no (fun q => ?_), fun x => w206 hc hs hM (by omega) (by omega) ⟨fun w => no (fun q => ?_), fun w => yes (Or.inr ⟨y, x, Decidable.of_not_not w⟩)⟩⟩⟩⟩⟩
    · rcases q with q | q
      · exact z q
      · exact q.1 y
    · rcases q with q | q
      · exact z q
      · exact q.2.1 x
    · rcases q with q | q
      · exact z q
      · exact w q.2.2
theorem l221_1 {o : Int} (hc : cityOK V) (hs : skyOK V 109) (hM : MN σ V) (o0 : 0 ≤ o) (o1 : o < V 5 2) (hq : Q (.inl (some (.inl (tog V o)))) σ) : ∀ (j m : Nat), (m : Int) + j = V 5 4 + 1 → B221_1 (d + 3) Q o (tsm V o m) (m : Int) σ
  | 0, m, hj => by
    have em : m = (V 5 4 + 1).toNat := by omega
    refine b221_1 ⟨fun _ => b221_9 ?_, fun z => absurd (by rw [hM.1.2.2.2.2.1]; omega) z⟩
    rw [em]; exact hq
  | j + 1, m, hj => by
    have hO := hc.2.1
    have hD := hc.2.2.2.1
    have ih := l221_1 hc hs hM o0 o1 hq j (m + 1) (by omega)
    have ew : wr ((m : Int) + 1) = ((m + 1 : Nat) : Int) := by rw [wr_id (by omega) (by omega)]; omega
    have r := tsm_r V o m
    have r1 := tgk_r V o (m : Int) (V 5 2).toNat
    refine b221_1 ⟨fun z => absurd z (by rw [hM.1.2.2.2.2.1]; omega), fun _ => w206 hc hs hM o0 o1 (l221_2 (S := σ) hc hs hM o0 o1 (b221_6 ?_) (V 5 2).toNat 0 (by omega))⟩
    have go : ∀ v, v = tgk V o (m : Int) (V 5 2).toNat → B221_8 (d + 3) Q o (m : Int) v (tsm V o m) σ := by
      intro v hv
      refine b221_8 ?_
      rw [ew, wr_id (by omega) (by omega), hv]
      exact ih
    refine ⟨fun z => b221_7 (go 0 (by omega)), fun z => go 1 (by omega)⟩
theorem w221 {K : Int → dS → Prop} {o : Int} (hc : cityOK V) (hs : skyOK V 109) (hM : MN σ V) (o0 : 0 ≤ o) (o1 : o < V 5 2) (h : K (tog V o) σ) : wI (d + 5) 221 [.inr (.inr 153), .inl o] σ Q K := by
  have hD := hc.2.2.2.1
  exact c221 (b221_0 (l221_1 hc hs hM o0 o1 h (V 5 4 + 1).toNat 0 (by omega)))
/-! the class -/
theorem l76_2 {S : dS} {t f : Int} (hD : 60 ≤ S 5 4 ∧ S 5 4 ≤ 600) (f0 : 0 ≤ f) (hq : ∀ σ', (∀ k, k ≠ 132 → σ' k = S k) → (∀ m, σ' 132 m = if f ≤ m ∧ m ≤ t ∧ m ≤ S 5 4 then 1 else S 132 m) → Q (.inl none) σ') : ∀ (j : Nat) (x5 : Int) (σ : dS), f ≤ x5 → S 5 4 + 1 ≤ x5 + j → (∀ k, k ≠ 132 → σ k = S k) → (∀ m, σ 132 m = if f ≤ m ∧ m < x5 ∧ m ≤ t ∧ m ≤ S 5 4 then 1 else S 132 m) → B76_2 d Q t x5 σ
  | 0, x5, σ, h0, h1, hF, hm => by
    have e5 : σ 5 4 = S 5 4 := by rw [hF 5 (by decide)]
    have fin : Q (.inl none) σ := by
      refine hq σ hF (fun m => ?_)
      rw [hm m]
      by_cases z : f ≤ m ∧ m ≤ t ∧ m ≤ S 5 4
      · rw [if_pos z, if_pos ⟨z.1, by omega, z.2⟩]
      · rw [if_neg z, if_neg (fun q => z ⟨q.1, q.2.2⟩)]
    exact b76_2 ⟨fun _ => b76_3 fin, fun _ => ⟨fun _ => b76_3 fin, fun z => absurd (by rw [e5]; omega) z⟩⟩
  | j + 1, x5, σ, h0, h1, hF, hm => by
    have e5 : σ 5 4 = S 5 4 := by rw [hF 5 (by decide)]
    have fin : (t < x5 ∨ S 5 4 < x5) → Q (.inl none) σ := by
      intro w
      refine hq σ hF (fun m => ?_)
      rw [hm m]
      by_cases z : f ≤ m ∧ m ≤ t ∧ m ≤ S 5 4
      · rw [if_pos z, if_pos ⟨z.1, by omega, z.2⟩]
      · rw [if_neg z, if_neg (fun q => z ⟨q.1, q.2.2⟩)]
    refine b76_2 ⟨fun z => b76_3 (fin (Or.inl z)), fun z => ⟨fun y => b76_3 (fin (Or.inr (by rw [e5] at y; exact y))), fun y => ?_⟩⟩
    rw [e5] at y
    intro σ1 f1
    rw [rput_in (by omega) (by omega)] at f1
    rw [wr_id (by omega) (by omega)]
    refine l76_2 hD f0 hq j (x5 + 1) σ1 (by omega) (by omega) (fun k hk => by rw [f1, up_k hk]; exact hF k hk) (fun m => ?_)
    rw [f1]
    by_cases w : m = x5
    · rw [w, up_same, if_pos ⟨h0, by omega, by omega, by omega⟩]
    · rw [up_i w, hm m]
      by_cases z2 : f ≤ m ∧ m < x5 ∧ m ≤ t ∧ m ≤ S 5 4
      · rw [if_pos z2, if_pos ⟨z2.1, by omega, z2.2.2⟩]
      · rw [if_neg z2, if_neg (fun q => z2 ⟨q.1, by omega, q.2.2⟩)]
/-- both at one roof in minute m -/
def mkc (V : dS) (o k i j m : Int) : Prop := V 17 (8 * o + i) = V 17 (8 * k + j) ∧ (NF V 109 4 (8 * o + i) ≤ m ∧ m ≤ lst V o i) ∧ (NF V 109 4 (8 * k + j) ≤ m ∧ m ≤ lst V k j) ∧ m ≤ V 5 4
theorem RC_132 {S : dS} (hF : ∀ k, k ≠ 132 → σ k = S k) {n : dS} (h : RC S V n) : RC σ V n := by
  unfold RC
  rw [hF 120 (by decide), hF 122 (by decide), hF 124 (by decide), hF 116 (by decide), hF 118 (by decide), hF 114 (by decide), hF 126 (by decide)]
  exact h
theorem w76 {K : dS → Prop} {o k i j : Int} (hc : cityOK V) (hs : skyOK V 109) (hV : ∀ k, cty k → σ k = V k) (hR : RC σ V (NF V 109)) (hi : okc V o i) (hj : okc V k j) (h : ∀ σ', (∀ k, k ≠ 132 → σ' k = σ k) → (∀ m, mkc V o k i j m → σ' 132 m = 1) → (∀ m, ¬ mkc V o k i j m → σ' 132 m = σ 132 m) → K σ') : wV (d + 4) 76 [.inr (.inr 114), .inl (8 * o + i), .inl (8 * k + j)] σ Q K := by
  have hO := hc.2.1
  have hD := hc.2.2.2.1
  have ci := hR.2.2.1 o i hi.1 hi.2.1 hi.2.2.1 hi.2.2.2.1 (by rw [(NF_done hc hs).2 o hi.1 hi.2.1]; exact hi.2.2.2.2)
  have cj := hR.2.2.1 k j hj.1 hj.2.1 hj.2.2.1 hj.2.2.2.1 (by rw [(NF_done hc hs).2 k hj.1 hj.2.1]; exact hj.2.2.2.2)
  have ki := hc.2.2.2.2.2.1 o hi.1 hi.2.1
  have kj := hc.2.2.2.2.2.1 k hj.1 hj.2.1
  have ri := FN_r (FN_F hc hs) hi
  have rj := FN_r (FN_F hc hs) hj
  have b1 : 0 ≤ 8 * o + i ∧ 8 * o + i < 40 := by have := hi; unfold okc at this; omega
  have b2 : 0 ≤ 8 * k + j ∧ 8 * k + j < 40 := by have := hj; unfold okc at this; omega
  have e5 : σ 5 = V 5 := hV 5 (by decide)
  refine c76 (b76_0 ?_)
  rw [rat_in (k := 17) b1.1 (by omega), rat_in (k := 17) b2.1 (by omega), hV 17 (by decide)]
  refine ⟨fun z => b76_1 (w73 hc hs hV hR hi (w73 hc hs hV hR hj ?_)), fun z => h σ (fun _ _ => rfl) (fun m q => absurd q.1 z) (fun m _ => rfl)⟩
  rw [rat_in (k := 116) b1.1 (by omega), rat_in (k := 116) b2.1 (by omega), ci.1, cj.1]
  refine l76_2 (S := σ) (f := max (NF V 109 4 (8 * o + i)) (NF V 109 4 (8 * k + j))) (by rw [e5]; omega) (by omega) (fun σ' q1 q2 => h σ' q1 (fun m q => ?_) (fun m q => ?_)) (σ 5 4 + 1).toNat _ σ (Int.le_refl _) (by rw [e5]; omega) (fun _ _ => rfl) (fun m => ?_)
  · obtain ⟨_, a, b, c⟩ := q
    unfold lst at a b
    rw [q2, if_pos ⟨by omega, by omega, by rw [e5]; exact c⟩]
  · rw [q2, if_neg]
    intro w
    refine q ⟨z, ⟨by omega, ?_⟩, ⟨by omega, ?_⟩, by rw [← e5]; exact w.2.2⟩
    · unfold lst; omega
    · unfold lst; omega
  · rw [if_neg (fun q => by omega)]
/-- marks: 1 only where another is there, and 1 for all that is processed -/
def mks (V : dS) (o : Int) (f : Int → Int) (P : Int → Int → Int → Prop) : Prop := (∀ m, 0 ≤ m → m ≤ 600 → f m = 0 ∨ f m = 1) ∧ (∀ m, 0 ≤ m → m ≤ 600 → f m = 1 → ∃ k i j, k ≠ o ∧ okc V o i ∧ okc V k j ∧ mkc V o k i j m) ∧ (∀ k i j, P k i j → k ≠ o → okc V o i → okc V k j → ∀ m, mkc V o k i j m → f m = 1)
theorem l75_3 {S : dS} {o k i : Int} (hc : cityOK V) (hs : skyOK V 109) (hV : ∀ k, cty k → S k = V k) (hR : RC S V (NF V 109)) (hi : okc V o i) (k0 : 0 ≤ k) (k1 : k < V 5 2) (hko : k ≠ o) {x2 : Int} (hq : ∀ σ', (∀ k, k ≠ 132 → σ' k = S k) → mks V o (σ' 132) (fun k' i' j' => k' < k ∨ (k' = k ∧ i' < i + 1)) → B75_4 (d + 3) Q o x2 k i σ') : ∀ (c : Nat) (j : Int) (σ : dS), 0 ≤ j → j + c = (if nestb V 109 k then 0 else V 15 k) → (∀ k, k ≠ 132 → σ k = S k) → mks V o (σ 132) (fun k' i' j' => k' < k ∨ (k' = k ∧ (i' < i ∨ (i' = i ∧ j' < j)))) → B75_3 (d + 3) Q o x2 k i j σ
  | 0, j, σ, j0, hj, hF, hm => by
    have hO := hc.2.1
    have e124 : rat σ 124 5 k = (if nestb V 109 k then 0 else V 15 k) := by rw [rat_in k0 (by omega), hF 124 (by decide), (hR.2.1 k k0 k1).2, (NF_done hc hs).2 k k0 k1]
    refine b75_3 ⟨fun _ => hq σ hF ⟨hm.1, hm.2.1, fun k' i' j' hP hk' hi' hj' m q => hm.2.2 k' i' j' ?_ hk' hi' hj' m q⟩, fun z => absurd (by rw [e124]; omega) z⟩
    rcases hP with w | ⟨w, w2⟩
    · exact Or.inl w
    · subst w
      have := hj'.2.2.2.2
      rw [if_neg hj'.2.2.1] at hj
      exact Or.inr ⟨rfl, by omega⟩
  | c + 1, j, σ, j0, hj, hF, hm => by
    have hO := hc.2.1
    have e124 : rat σ 124 5 k = (if nestb V 109 k then 0 else V 15 k) := by rw [rat_in k0 (by omega), hF 124 (by decide), (hR.2.1 k k0 k1).2, (NF_done hc hs).2 k k0 k1]
    have hn : ¬ nestb V 109 k := by
      intro z
      rw [if_pos z] at hj; omega
    rw [if_neg hn] at hj
    have kk := hc.2.2.2.2.2.1 k k0 k1
    have ki := hc.2.2.2.2.2.1 o hi.1 hi.2.1
    have hjk : okc V k j := ⟨k0, k1, hn, j0, by omega⟩
    have bi := hi
    unfold okc at bi
    have hV' : ∀ k, cty k → σ k = V k := fun x hx => by
      have : x ≠ 132 := by rcases hx with e | e | e | e | e | e | e | e | e | e | e | e | e | e <;> rw [e] <;> decide
      rw [hF x this]; exact hV x hx
    refine b75_3 ⟨fun z => absurd z (by rw [e124, if_neg hn]; omega), fun _ => ?_⟩
    rw [wr_id (x := o * 8) (by omega) (by omega), wr_id (x := o * 8 + i) (by omega) (by omega), wr_id (x := k * 8) (by omega) (by omega), wr_id (x := k * 8 + j) (by omega) (by omega), Int.mul_comm o 8, Int.mul_comm k 8]
    refine w76 hc hs hV' (RC_132 hF hR) hi hjk (fun σ1 g1 g2 g3 => ?_)
    rw [wr_id (by omega) (by omega)]
    refine l75_3 hc hs hV hR hi k0 k1 hko hq c (j + 1) σ1 (by omega) (by rw [if_neg hn]; omega) (fun x hx => by rw [g1 x hx]; exact hF x hx) ⟨fun m m0 m1 => ?_, fun m m0 m1 q => ?_, fun k' i' j' hP hk' hi' hj' m q => ?_⟩
    · by_cases w : mkc V o k i j m
      · exact Or.inr (g2 m w)
      · rw [g3 m w]; exact hm.1 m m0 m1
    · by_cases w : mkc V o k i j m
      · exact ⟨k, i, j, hko, hi, hjk, w⟩
      · rw [g3 m w] at q; exact hm.2.1 m m0 m1 q
    · by_cases w : mkc V o k i j m
      · exact g2 m w
      · rw [g3 m w]
        refine hm.2.2 k' i' j' ?_ hk' hi' hj' m q
        rcases hP with v | ⟨v, v2⟩
        · exact Or.inl v
        · refine Or.inr ⟨v, ?_⟩
          rcases v2 with u | ⟨u, u2⟩
          · exact Or.inl u
          · refine Or.inr ⟨u, ?_⟩
            by_cases y : j' = j
            · subst v; subst u; subst y; exact absurd q w
            · omega
theorem l75_2 {S : dS} {o k : Int} (hc : cityOK V) (hs : skyOK V 109) (hV : ∀ k, cty k → S k = V k) (hR : RC S V (NF V 109)) (o0 : 0 ≤ o) (o1 : o < V 5 2) (k0 : 0 ≤ k) (k1 : k < V 5 2) {x2 : Int} (hq : ∀ σ', (∀ k, k ≠ 132 → σ' k = S k) → mks V o (σ' 132) (fun k' i' j' => k' < k + 1) → B75_5 (d + 3) Q o x2 k σ') : ∀ (c : Nat) (i : Int) (σ : dS), 0 ≤ i → i + c = (if nestb V 109 o then 0 else V 15 o) → (∀ k, k ≠ 132 → σ k = S k) → mks V o (σ 132) (fun k' i' j' => k' < k ∨ (k' = k ∧ i' < i)) → B75_2 (d + 3) Q o x2 k i σ
  | 0, i, σ, i0, hi, hF, hm => by
    have hO := hc.2.1
    have e124 : rat σ 124 5 o = (if nestb V 109 o then 0 else V 15 o) := by rw [rat_in o0 (by omega), hF 124 (by decide), (hR.2.1 o o0 o1).2, (NF_done hc hs).2 o o0 o1]
    refine b75_2 ⟨fun _ => hq σ hF ⟨hm.1, hm.2.1, fun k' i' j' hP hk' hi' hj' m q => hm.2.2 k' i' j' ?_ hk' hi' hj' m q⟩, fun z => absurd (by rw [e124]; omega) z⟩
    by_cases w : k' = k
    · have := hi'.2.2.2.2
      rw [if_neg hi'.2.2.1] at hi
      exact Or.inr ⟨w, by omega⟩
    · exact Or.inl (by omega)
  | c + 1, i, σ, i0, hi, hF, hm => by
    have hO := hc.2.1
    have e124 : rat σ 124 5 o = (if nestb V 109 o then 0 else V 15 o) := by rw [rat_in o0 (by omega), hF 124 (by decide), (hR.2.1 o o0 o1).2, (NF_done hc hs).2 o o0 o1]
    have hn : ¬ nestb V 109 o := by
      intro z
      rw [if_pos z] at hi; omega
    rw [if_neg hn] at hi
    have kk := hc.2.2.2.2.2.1 o o0 o1
    have kk2 := hc.2.2.2.2.2.1 k k0 k1
    have hio : okc V o i := ⟨o0, o1, hn, i0, by omega⟩
    refine b75_2 ⟨fun z => absurd z (by rw [e124, if_neg hn]; omega), fun _ => ⟨fun z => hq σ hF ⟨hm.1, hm.2.1, fun k' i' j' hP hk' hi' hj' m q => hm.2.2 k' i' j' ?_ hk' hi' hj' m q⟩, fun z => ?_⟩⟩
    · left
      by_cases w : k' = k
      · rw [w, z] at hk'; exact absurd rfl hk'
      · omega
    · have next : ∀ σ', (∀ k, k ≠ 132 → σ' k = S k) → mks V o (σ' 132) (fun k' i' j' => k' < k ∨ (k' = k ∧ i' < i + 1)) → B75_4 (d + 3) Q o x2 k i σ' := by
        intro σ' p1 p2
        refine b75_4 ?_
        rw [wr_id (by omega) (by omega)]
        exact l75_2 hc hs hV hR o0 o1 k0 k1 hq c (i + 1) σ' (by omega) (by rw [if_neg hn]; omega) p1 p2
      have cnt : ∃ c' : Nat, (0 : Int) + c' = (if nestb V 109 k then 0 else V 15 k) := by
        by_cases w : nestb V 109 k
        · rw [if_pos w]; exact ⟨0, rfl⟩
        · rw [if_neg w]; exact ⟨(V 15 k).toNat, by omega⟩
      obtain ⟨c', hc'⟩ := cnt
      have := l75_3 (x2 := x2) hc hs hV hR hio k0 k1 z next c' 0 σ (by omega) hc' hF ⟨hm.1, hm.2.1, fun k' i' j' hP hk' hi' hj' m q => hm.2.2 k' i' j' ?_ hk' hi' hj' m q⟩
      · exact this
      · rcases hP with w | ⟨w, w2⟩
        · exact Or.inl w
        · have := hj'.2.2.2.1
          exact Or.inr ⟨w, by omega⟩
end TOG
