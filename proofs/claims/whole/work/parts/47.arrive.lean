/-! WHEN A RIDER CAN BE AT EACH ROOF -/
/-- stop i of owl o is there, and the owl flies -/
def okc (V : dS) (o i : Int) : Prop := 0 ≤ o ∧ o < V 5 2 ∧ ¬ nestb V 109 o ∧ 0 ≤ i ∧ i < V 15 o
def Cl (V n : dS) (p : Int) (B : Int → Int) : Prop := B (V 19 p) ≤ V 23 p ∧ (∀ o i j, okc V o i → okc V o j → i < j → B (V 17 (8 * o + i)) ≤ n 5 (8 * o + i) → B (V 17 (8 * o + j)) ≤ n 4 (8 * o + j))
def Cap (V : dS) (B : Int → Int) : Prop := ∀ r, 0 ≤ r → r < V 5 0 → B r ≤ 1000000
def ARR (V : dS) (p : Int) (A : Int → Int) : Prop := Cl V (NF V 109) p A ∧ Cap V A ∧ ∀ B, Cl V (NF V 109) p B → Cap V B → ∀ r, 0 ≤ r → r < V 5 0 → B r ≤ A r
noncomputable def AR (V : dS) (p : Int) : Int → Int := Classical.epsilon (ARR V p)
theorem AR_eq {V : dS} {p : Int} {A : Int → Int} (h : ARR V p A) : ∀ r, 0 ≤ r → r < V 5 0 → A r = AR V p r := by
  have h2 : ARR V p (AR V p) := Classical.epsilon_spec ⟨A, h⟩
  intro r r0 r1
  have a := h.2.2 _ h2.1 h2.2.1 r r0 r1
  have b := h2.2.2 _ h.1 h.2.1 r r0 r1
  omega
/-- the cell c is among the first x comings -/
def proc (n : dS) (x c : Int) : Prop := ∃ j, 0 ≤ j ∧ j < x ∧ n 6 j = c
def AIs (V n : dS) (p x : Int) (a g : Int → Int) : Prop := (∀ r, 0 ≤ r → r < V 5 0 → a r = 1000000 ∨ (0 ≤ a r ∧ a r ≤ 2000)) ∧ a (V 19 p) ≤ V 23 p ∧
  (∀ B, Cl V n p B → Cap V B → ∀ r, 0 ≤ r → r < V 5 0 → B r ≤ a r) ∧
  (∀ o i j, okc V o i → okc V o j → i < j → proc n x (8 * o + j) → a (V 17 (8 * o + i)) ≤ n 5 (8 * o + i) → a (V 17 (8 * o + j)) ≤ n 4 (8 * o + j)) ∧
  (∀ o i, okc V o i → okc V o (i + 1) → proc n x (8 * o + (i + 1)) → a (V 17 (8 * o + i)) ≤ n 5 (8 * o + i) → g o = 1) ∧
  (∀ o, 0 ≤ o → o < V 5 2 → g o = 1 → ∃ i, okc V o i ∧ okc V o (i + 1) ∧ proc n x (8 * o + (i + 1)) ∧ ∀ B, Cl V n p B → Cap V B → B (V 17 (8 * o + i)) ≤ n 5 (8 * o + i))
/-- the facts of a finished night -/
def FN (V n : dS) : Prop := OI V n ∧ ∀ o, 0 ≤ o → o < V 5 2 → n 2 o = V 15 o
section ARRIVE
variable {V n : dS} {p x : Int} {a g : Int → Int}
theorem FN_lt (h : FN V n) {o : Int} : ∀ (m : Nat) (i j : Int), okc V o i → okc V o j → j = i + m + 1 → n 4 (8 * o + i) < n 4 (8 * o + j)
  | 0, i, j, hi, hj, e => by
    have q := h.1.2.2.2.2.1 o i hi.1 hi.2.1 hi.2.2.1 hi.2.2.2.1 (by rw [h.2 o hi.1 hi.2.1]; have := hj.2.2.2.2; omega)
    have q2 := h.1.2.2.2.2.2.1 o i hi.1 hi.2.1 hi.2.2.1 hi.2.2.2.1 (by rw [h.2 o hi.1 hi.2.1]; exact hi.2.2.2.2)
    rw [show 8 * o + j = 8 * o + i + 1 by omega]
    omega
  | m + 1, i, j, hi, hj, e => by
    have hm : okc V o (i + 1) := ⟨hi.1, hi.2.1, hi.2.2.1, by have := hi.2.2.2.1; omega, by have := hj.2.2.2.2; omega⟩
    have q := FN_lt h 0 i (i + 1) hi hm (by omega)
    have q2 := FN_lt h m (i + 1) j hm hj (by omega)
    omega
theorem FN_4 (h : FN V n) {o i j : Int} (hi : okc V o i) (hj : okc V o j) (l : i < j) : n 4 (8 * o + i) < n 4 (8 * o + j) :=
  FN_lt h (j - i - 1).toNat i j hi hj (by omega)
theorem FN_54 (h : FN V n) {o i j : Int} (hi : okc V o i) (hj : okc V o j) (l : i < j) : n 5 (8 * o + i) < n 4 (8 * o + j) := by
  have hm : okc V o (i + 1) := ⟨hi.1, hi.2.1, hi.2.2.1, by have := hi.2.2.2.1; omega, by have := hj.2.2.2.2; omega⟩
  have q := h.1.2.2.2.2.1 o i hi.1 hi.2.1 hi.2.2.1 hi.2.2.2.1 (by rw [h.2 o hi.1 hi.2.1]; have := hj.2.2.2.2; omega)
  by_cases e : i + 1 = j
  · rw [show 8 * o + j = 8 * o + i + 1 by omega]; exact q
  · have q2 := FN_4 h hm hj (by omega)
    rw [← Int.add_assoc] at q2
    omega
theorem FN_r (h : FN V n) {o i : Int} (hi : okc V o i) : n 4 (8 * o + i) ≤ n 5 (8 * o + i) ∧ 0 ≤ n 4 (8 * o + i) ∧ n 5 (8 * o + i) ≤ 2000 :=
  h.1.2.2.2.2.2.1 o i hi.1 hi.2.1 hi.2.2.1 hi.2.2.2.1 (by rw [h.2 o hi.1 hi.2.1]; exact hi.2.2.2.2)
/-- what has been come to ahead of the coming x came no later -/
theorem proc_le (h : FN V n) {b k c : Int} (x0 : 0 ≤ x) (x1 : x < n 7 0) (e : n 6 x = 8 * b + k) (hp : proc n x c) : n 4 c ≤ n 4 (8 * b + k) := by
  obtain ⟨j, j0, j1, j2⟩ := hp
  have := h.1.2.2.2.1 j x j0 j1 x1
  rw [j2, e] at this
  exact this
theorem proc_s {c : Int} (x0 : 0 ≤ x) : proc n (x + 1) c ↔ proc n x c ∨ n 6 x = c := by
  constructor
  · rintro ⟨j, j0, j1, j2⟩
    by_cases e : j = x
    · subst e; exact Or.inr j2
    · exact Or.inl ⟨j, j0, by omega, j2⟩
  · rintro (⟨j, j0, j1, j2⟩ | e)
    · exact ⟨j, j0, by omega, j2⟩
    · exact ⟨x, x0, by omega, e⟩
theorem okc_u (hc : cityOK V) {o i b k : Int} (hi : okc V o i) (hk : okc V b k) (e : 8 * o + i = 8 * b + k) : o = b ∧ i = k := by
  have h1 := hc.2.2.2.2.2.1 o hi.1 hi.2.1
  have h2 := hc.2.2.2.2.2.1 b hk.1 hk.2.1
  have h3 := hi.2.2.2
  have h4 := hk.2.2.2
  omega
theorem AI_skip (hc : cityOK V) {b : Int} (x0 : 0 ≤ x) (hb : okc V b 0) (e : n 6 x = 8 * b + 0) (h : AIs V n p x a g) : AIs V n p (x + 1) a g := by
  obtain ⟨h1, h2, h3, h4, h5, h6⟩ := h
  refine ⟨h1, h2, h3, fun o i j hi hj l hp hl => ?_, fun o i hi hj hp hl => ?_, fun o o0 o1 hg => ?_⟩
  · rcases (proc_s x0).mp hp with q | q
    · exact h4 o i j hi hj l q hl
    · have := (okc_u hc hj hb (by rw [← q, e])).2
      have := hi.2.2.2.1
      omega
  · rcases (proc_s x0).mp hp with q | q
    · exact h5 o i hi hj q hl
    · have := (okc_u hc hj hb (by rw [← q, e])).2
      have := hi.2.2.2.1
      omega
  · obtain ⟨i, q1, q2, q3, q4⟩ := h6 o o0 o1 hg
    exact ⟨i, q1, q2, (proc_s x0).mpr (Or.inl q3), q4⟩
theorem AI_go (hc : cityOK V) (hF : FN V n) {b k : Int} {a' g' : Int → Int} (x0 : 0 ≤ x) (x1 : x < n 7 0) (hb : okc V b k) (hk : 0 < k) (e : n 6 x = 8 * b + k) (h : AIs V n p x a g) (hg : ∀ o, g' o = if o = b ∧ a (V 17 (8 * b + k - 1)) ≤ n 5 (8 * b + k - 1) then 1 else g o) (ha : ∀ r, a' r = if r = V 17 (8 * b + k) ∧ g' b = 1 ∧ n 4 (8 * b + k) < a (V 17 (8 * b + k)) then n 4 (8 * b + k) else a r) : AIs V n p (x + 1) a' g' := by
  obtain ⟨h1, h2, h3, h4, h5, h6⟩ := h
  have hb1 : okc V b (k - 1) := ⟨hb.1, hb.2.1, hb.2.2.1, by omega, by have := hb.2.2.2.2; omega⟩
  have ek : 8 * b + k - 1 = 8 * b + (k - 1) := by omega
  rw [ek] at hg
  have hr := FN_r hF hb
  -- the arrivals only fall, and what falls falls to the minute of this coming
  have fall : ∀ r, a' r ≤ a r := by
    intro r
    rw [ha]
    by_cases q : r = V 17 (8 * b + k) ∧ g' b = 1 ∧ n 4 (8 * b + k) < a (V 17 (8 * b + k))
    · rw [if_pos q, q.1]; omega
    · rw [if_neg q]; omega
  have same : ∀ r t, t < n 4 (8 * b + k) → a' r ≤ t → a r ≤ t := by
    intro r t ht q
    rw [ha] at q
    by_cases z : r = V 17 (8 * b + k) ∧ g' b = 1 ∧ n 4 (8 * b + k) < a (V 17 (8 * b + k))
    · rw [if_pos z] at q; omega
    · rw [if_neg z] at q; exact q
  -- who rides owl b can have been on it
  have on : g' b = 1 → ∃ i, okc V b i ∧ i < k ∧ okc V b (i + 1) ∧ proc n (x + 1) (8 * b + (i + 1)) ∧ ∀ B, Cl V n p B → Cap V B → B (V 17 (8 * b + i)) ≤ n 5 (8 * b + i) := by
    intro q
    by_cases z : a (V 17 (8 * b + (k - 1))) ≤ n 5 (8 * b + (k - 1))
    · have hw := hc.2.2.2.2.2.1 b hb.1 hb.2.1
      have hw2 := hw.2.2.1 (k - 1) hb1.2.2.2.1 hb1.2.2.2.2
      refine ⟨k - 1, hb1, by omega, by rw [show k - 1 + 1 = k by omega]; exact hb, ⟨x, x0, by omega, by rw [e]; omega⟩, fun B hB hC => ?_⟩
      have := h3 B hB hC _ hw2.1 hw2.2
      omega
    · rw [hg, if_neg (fun y => z y.2)] at q
      obtain ⟨i, q1, q2, q3, q4⟩ := h6 b hb.1 hb.2.1 q
      have l := proc_le hF x0 x1 e q3
      refine ⟨i, q1, ?_, q2, (proc_s x0).mpr (Or.inl q3), q4⟩
      by_cases y : i < k
      · exact y
      · have := FN_4 hF hb q2 (by omega)
        omega
  refine ⟨fun r r0 r1 => ?_, ?_, fun B hB hC r r0 r1 => ?_, fun o i j hi hj l hp hl => ?_, fun o i hi hj hp hl => ?_, fun o o0 o1 hgo => ?_⟩
  · rw [ha]
    by_cases q : r = V 17 (8 * b + k) ∧ g' b = 1 ∧ n 4 (8 * b + k) < a (V 17 (8 * b + k))
    · rw [if_pos q]; omega
    · rw [if_neg q]; exact h1 r r0 r1
  · have := fall (V 19 p); omega
  · rw [ha]
    by_cases q : r = V 17 (8 * b + k) ∧ g' b = 1 ∧ n 4 (8 * b + k) < a (V 17 (8 * b + k))
    · rw [if_pos q, q.1]
      obtain ⟨i, q1, q2, q3, q4, q5⟩ := on q.2.1
      exact hB.2 b i k q1 hb q2 (q5 B hB hC)
    · rw [if_neg q]; exact h3 B hB hC r r0 r1
  · rcases (proc_s x0).mp hp with q | q
    · have l1 := proc_le hF x0 x1 e q
      have l2 := FN_54 hF hi hj l
      have := h4 o i j hi hj l q (same _ _ (by omega) hl)
      have := fall (V 17 (8 * o + j))
      omega
    · have u := okc_u hc hj hb (by rw [← q, e])
      obtain ⟨u1, u2⟩ := u
      subst u1
      subst u2
      have l2 := FN_54 hF hi hj l
      have old := same _ _ (by omega) hl
      have gb : g' o = 1 := by
        rw [hg]
        by_cases z : i = j - 1
        · rw [if_pos ⟨rfl, by rw [← z]; exact old⟩]
        · by_cases y : a (V 17 (8 * o + (j - 1))) ≤ n 5 (8 * o + (j - 1))
          · rw [if_pos ⟨rfl, y⟩]
          · rw [if_neg (fun w => y w.2)]
            have hi1 : okc V o (i + 1) := ⟨hi.1, hi.2.1, hi.2.2.1, by have := hi.2.2.2.1; omega, by have := hj.2.2.2.2; omega⟩
            refine h5 o i hi hi1 ?_ old
            -- the next stop was come to ahead of this one
            obtain ⟨j', j0, j1, j2⟩ := hF.1.2.2.1 o (i + 1) hi1.1 hi1.2.1 hi1.2.2.1 hi1.2.2.2.1 (by rw [hF.2 o hi1.1 hi1.2.1]; exact hi1.2.2.2.2)
            refine ⟨j', j0, ?_, j2⟩
            have l3 := FN_4 hF hi1 hj (by omega)
            by_cases w : j' < x
            · exact w
            · by_cases w2 : j' = x
              · rw [w2, e] at j2; omega
              · have := hF.1.2.2.2.1 x j' x0 (by omega) j1
                rw [e, j2] at this
                omega
      rw [ha]
      by_cases z : n 4 (8 * o + j) < a (V 17 (8 * o + j))
      · rw [if_pos ⟨rfl, gb, z⟩]; omega
      · rw [if_neg (fun w => z w.2.2)]; omega
  · rcases (proc_s x0).mp hp with q | q
    · have l1 := proc_le hF x0 x1 e q
      have l2 := FN_54 hF hi hj (by omega)
      have := h5 o i hi hj q (same _ _ (by omega) hl)
      rw [hg]
      by_cases z : o = b ∧ a (V 17 (8 * b + (k - 1))) ≤ n 5 (8 * b + (k - 1))
      · rw [if_pos z]
      · rw [if_neg z]; exact this
    · have u := okc_u hc hj hb (by rw [← q, e])
      obtain ⟨u1, u2⟩ := u
      subst u1
      have l2 := FN_54 hF hi hj (by omega)
      have old := same _ _ (by rw [← u2]; exact l2) hl
      rw [hg, if_pos ⟨rfl, by rw [show k - 1 = i by omega]; exact old⟩]
  · rw [hg] at hgo
    by_cases z : o = b ∧ a (V 17 (8 * b + (k - 1))) ≤ n 5 (8 * b + (k - 1))
    · obtain ⟨i, q1, q2, q3, q4, q5⟩ := on (by rw [hg, if_pos ⟨rfl, z.2⟩])
      rw [z.1]
      exact ⟨i, q1, q3, q4, q5⟩
    · rw [if_neg z] at hgo
      obtain ⟨i, q1, q2, q3, q4⟩ := h6 o o0 o1 hgo
      exact ⟨i, q1, q2, (proc_s x0).mpr (Or.inl q3), q4⟩
theorem AI_end (hF : FN V n) (h : AIs V n p (n 7 0) a g) : Cl V n p a ∧ Cap V a ∧ ∀ B, Cl V n p B → Cap V B → ∀ r, 0 ≤ r → r < V 5 0 → B r ≤ a r := by
  obtain ⟨h1, h2, h3, h4, h5, h6⟩ := h
  refine ⟨⟨h2, fun o i j hi hj l hl => h4 o i j hi hj l ?_ hl⟩, fun r r0 r1 => ?_, h3⟩
  · obtain ⟨j', j0, j1, j2⟩ := hF.1.2.2.1 o j hj.1 hj.2.1 hj.2.2.1 hj.2.2.2.1 (by rw [hF.2 o hj.1 hj.2.1]; exact hj.2.2.2.2)
    exact ⟨j', j0, j1, j2⟩
  · have := h1 r r0 r1; omega
end ARRIVE
theorem FN_F {V : dS} (hc : cityOK V) (hs : skyOK V 109) : FN V (NF V 109) := ⟨OI_F hc hs, (NF_done hc hs).2⟩
