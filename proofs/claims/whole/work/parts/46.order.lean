/-! THE ORDER OF A NIGHT'S COMINGS -/
theorem pk_min {f : Int → Int} : ∀ N : Nat, pk f N ≠ -1 → ∀ o, 0 ≤ o → o < (N : Int) → f (pk f N) ≤ f o
  | 0, h, _, _, _ => absurd rfl h
  | N + 1, h, o, o0, o1 => by
    unfold pk at h ⊢
    by_cases z : (if pk f N = -1 then 2147483647 else f (pk f N)) ≤ f (N : Int)
    · rw [if_pos z] at h ⊢
      rw [if_neg h] at z
      by_cases y : o = (N : Int)
      · rw [y]; exact z
      · exact pk_min N h o o0 (by omega)
    · rw [if_neg z]
      by_cases y : o = (N : Int)
      · rw [y]; exact Int.le_refl _
      · by_cases x : pk f N = -1
        · rw [if_pos x] at z
          have := pk_none N x o o0 (by omega)
          omega
        · rw [if_neg x] at z
          have := pk_min N x o o0 (by omega)
          omega
def OI (V n : dS) : Prop := 0 ≤ n 7 0 ∧
  (∀ j, 0 ≤ j → j < n 7 0 → ∃ o i, n 6 j = 8 * o + i ∧ 0 ≤ o ∧ o < V 5 2 ∧ ¬ nestb V 109 o ∧ 0 ≤ i ∧ i < n 2 o) ∧
  (∀ o i, 0 ≤ o → o < V 5 2 → ¬ nestb V 109 o → 0 ≤ i → i < n 2 o → ∃ j, 0 ≤ j ∧ j < n 7 0 ∧ n 6 j = 8 * o + i) ∧
  (∀ j k, 0 ≤ j → j < k → k < n 7 0 → n 4 (n 6 j) ≤ n 4 (n 6 k)) ∧
  (∀ o i, 0 ≤ o → o < V 5 2 → ¬ nestb V 109 o → 0 ≤ i → i + 1 < n 2 o → n 5 (8 * o + i) < n 4 (8 * o + i + 1)) ∧
  (∀ o i, 0 ≤ o → o < V 5 2 → ¬ nestb V 109 o → 0 ≤ i → i < n 2 o → n 4 (8 * o + i) ≤ n 5 (8 * o + i) ∧ 0 ≤ n 4 (8 * o + i) ∧ n 5 (8 * o + i) ≤ 2000) ∧
  (∀ o, 0 ≤ o → o < V 5 2 → ¬ nestb V 109 o → n 2 o < V 15 o → ∀ j, 0 ≤ j → j < n 7 0 → n 4 (n 6 j) ≤ n 3 o) ∧
  (∀ o, 0 ≤ o → o < V 5 2 → ¬ nestb V 109 o → 0 < n 2 o → n 2 o < V 15 o → n 5 (8 * o + n 2 o - 1) < n 3 o)
theorem OI_0 {V : dS} : OI V (N0 V 109) := by
  have e7 : N0 V 109 7 0 = 0 := rfl
  have e2 : ∀ o, ¬ nestb V 109 o → N0 V 109 2 o = 0 := fun o h => if_neg h
  refine ⟨by rw [e7]; omega, fun j j0 j1 => by rw [e7] at j1; omega, fun o i o0 o1 ho i0 i1 => by rw [e2 o ho] at i1; omega, fun j k j0 j1 j2 => by rw [e7] at j2; omega, fun o i o0 o1 ho i0 i1 => by rw [e2 o ho] at i1; omega, fun o i o0 o1 ho i0 i1 => by rw [e2 o ho] at i1; omega, fun o o0 o1 ho _ j j0 j1 => by rw [e7] at j1; omega, fun o o0 o1 ho h1 _ => by rw [e2 o ho] at h1; omega⟩
theorem OI_step {V n : dS} (hc : cityOK V) (hn : NI V 109 n) (h : OI V n) : OI V (nstep V 109 n) := by
  unfold nstep
  by_cases hb : best V n = -1
  · rw [if_pos hb]; exact h
  rw [if_neg hb]
  have hO := hc.2.1
  have hmin := pk_min (f := fu V n) (V 5 2).toNat hb
  rcases best_r (n := n) hO.1 with e | e
  · exact absurd e hb
  have hmin2 : ∀ o, 0 ≤ o → o < V 5 2 → n 2 o < V 15 o → n 3 (best V n) ≤ n 3 o := by
    intro o o0 o1 o2
    have q := hmin o o0 (by omega)
    have q1 : fu V n o = n 3 o := if_pos o2
    have q2 : fu V n (best V n) = n 3 (best V n) := if_pos e.2.2
    rw [q1] at q
    rw [← q2]; exact q
  clear hmin
  generalize best V n = b at e hb hmin2
  obtain ⟨b0, b1, b2⟩ := e
  have kb := hc.2.2.2.2.2.1 b b0 b1
  have nb := hn.2 b b0 b1
  have hnest : ¬ nestb V 109 b := fun z => by have := nb.2.2.2 z; omega
  have hhu : 0 ≤ hu V 109 n b ∧ hu V 109 n b ≤ 30 := hvl_r V 109 (n 0 (V 17 (8 * b + n 2 b))) b (n 2 b) (n 3 b)
  obtain ⟨h0, h1, h2, h3, h4, h5, h6, h7⟩ := h
  have hb6 := h6 b b0 b1 hnest b2
  have lt2 : ∀ o, 0 ≤ o → o < V 5 2 → 0 ≤ n 2 o ∧ n 2 o ≤ 8 := by
    intro o o0 o1
    have := hn.2 o o0 o1
    have := hc.2.2.2.2.2.1 o o0 o1
    omega
  have lb := lt2 b b0 b1
  have e2 := fun o => ns_2 (S := V) (n := n) (t := 109) (b := b) o
  have e3 := fun o => ns_3 (S := V) (n := n) (t := 109) (b := b) o
  have e4 := fun o => ns_4 (S := V) (n := n) (t := 109) (b := b) o
  have e5 := fun o => ns_5 (S := V) (n := n) (t := 109) (b := b) o
  have e6 := fun o => ns_6 (S := V) (n := n) (t := 109) (b := b) o
  have e7 : ns V 109 n b 7 0 = n 7 0 + 1 := by rw [ns_7, if_pos rfl]
  have hfl : n 2 b + 1 < V 15 b → 1 ≤ fly V 109 b (8 * b + n 2 b) := fun q => (fly_r (t := 109) (o := b) (kb.2.2.2 (n 2 b) nb.1.1 q).1 (kb.2.2.2 (n 2 b) nb.1.1 q).2).1
  generalize ns V 109 n b = n' at e2 e3 e4 e5 e6 e7
  generalize hu V 109 n b = v at hhu e3 e5
  generalize fly V 109 b (8 * b + n 2 b) = w at hfl e3
  have o4 : ∀ o i, 0 ≤ o → o < V 5 2 → 0 ≤ i → i < n 2 o → n' 4 (8 * o + i) = n 4 (8 * o + i) ∧ n' 5 (8 * o + i) = n 5 (8 * o + i) := by
    intro o i o0 o1 i0 i1
    have := lt2 o o0 o1
    have hne : 8 * o + i ≠ 8 * b + n 2 b := by
      intro q
      have : o = b := by omega
      subst this
      omega
    rw [e4, e5, if_neg hne, if_neg hne]
    exact ⟨rfl, rfl⟩
  have old6 : ∀ j, 0 ≤ j → j < n 7 0 → n' 6 j = n 6 j ∧ n' 4 (n' 6 j) = n 4 (n 6 j) := by
    intro j j0 j1
    have a : n' 6 j = n 6 j := by rw [e6, if_neg (by omega)]
    refine ⟨a, ?_⟩
    rw [a]
    obtain ⟨o, i, q1, q2, q3, q4, q5, q6⟩ := h1 j j0 j1
    rw [q1]
    exact (o4 o i q2 q3 q5 q6).1
  have new6 : n' 6 (n 7 0) = 8 * b + n 2 b := by rw [e6, if_pos rfl]
  have new4 : n' 4 (8 * b + n 2 b) = n 3 b := by rw [e4, if_pos rfl]
  have new5 : n' 5 (8 * b + n 2 b) = n 3 b + v := by rw [e5, if_pos rfl]
  refine ⟨by omega, fun j j0 j1 => ?_, fun o i o0 o1 ho i0 i1 => ?_, fun j k j0 j1 j2 => ?_, fun o i o0 o1 ho i0 i1 => ?_, fun o i o0 o1 ho i0 i1 => ?_, fun o o0 o1 ho hl j j0 j1 => ?_, fun o o0 o1 ho hp hl => ?_⟩
  · rw [e7] at j1
    by_cases q : j = n 7 0
    · exact ⟨b, n 2 b, by rw [q, new6], b0, b1, hnest, nb.1.1, by rw [e2, if_pos rfl]; omega⟩
    · obtain ⟨o, i, q1, q2, q3, q4, q5, q6⟩ := h1 j j0 (by omega)
      refine ⟨o, i, by rw [(old6 j j0 (by omega)).1, q1], q2, q3, q4, q5, ?_⟩
      rw [e2]
      by_cases y : o = b
      · rw [if_pos y]; omega
      · rw [if_neg y]; exact q6
  · rw [e2] at i1
    by_cases q : o = b ∧ i = n 2 b
    · exact ⟨n 7 0, h0, by omega, by rw [new6, q.1, q.2]⟩
    · have i1' : i < n 2 o := by
        by_cases y : o = b
        · rw [if_pos y] at i1
          subst y
          have : i ≠ n 2 o := fun z => q ⟨rfl, z⟩
          omega
        · rw [if_neg y] at i1; exact i1
      obtain ⟨j, j0, j1, j2⟩ := h2 o i o0 o1 ho i0 i1'
      exact ⟨j, j0, by omega, by rw [(old6 j j0 j1).1, j2]⟩
  · rw [e7] at j2
    rw [(old6 j j0 (by omega)).2]
    by_cases q : k = n 7 0
    · rw [q, new6, new4]
      exact hb6 j j0 (by omega)
    · rw [(old6 k (by omega) (by omega)).2]
      exact h3 j k j0 j1 (by omega)
  · rw [e2] at i1
    have lo := lt2 o o0 o1
    by_cases y : o = b
    · subst y
      rw [if_pos rfl] at i1
      by_cases x : i + 1 = n 2 o
      · have ex : 8 * o + i + 1 = 8 * o + n 2 o := by omega
        rw [(o4 o i o0 o1 i0 (by omega)).2, ex, new4]
        have := h7 o o0 o1 ho (by omega) b2
        rw [show 8 * o + n 2 o - 1 = 8 * o + i by omega] at this
        exact this
      · have q := (o4 o (i + 1) o0 o1 (by omega) (by omega)).1
        rw [← Int.add_assoc] at q
        rw [(o4 o i o0 o1 i0 (by omega)).2, q]
        exact h4 o i o0 o1 ho i0 (by omega)
    · rw [if_neg y] at i1
      have q := (o4 o (i + 1) o0 o1 (by omega) (by omega)).1
      rw [← Int.add_assoc] at q
      rw [(o4 o i o0 o1 i0 (by omega)).2, q]
      exact h4 o i o0 o1 ho i0 (by omega)
  · rw [e2] at i1
    by_cases q : o = b ∧ i = n 2 b
    · rw [q.1, q.2, new4, new5]
      omega
    · have i1' : i < n 2 o := by
        by_cases y : o = b
        · rw [if_pos y] at i1
          subst y
          have : i ≠ n 2 o := fun z => q ⟨rfl, z⟩
          omega
        · rw [if_neg y] at i1; exact i1
      have p := o4 o i o0 o1 i0 i1'
      rw [p.1, p.2]
      exact h5 o i o0 o1 ho i0 i1'
  · rw [e7] at j1
    rw [e2] at hl
    rw [e3]
    have jm : n' 4 (n' 6 j) ≤ n 3 b := by
      by_cases q : j = n 7 0
      · rw [q, new6, new4]; omega
      · rw [(old6 j j0 (by omega)).2]; exact hb6 j j0 (by omega)
    by_cases y : o = b
    · subst y
      rw [if_pos rfl] at hl
      rw [if_pos ⟨rfl, hl⟩]
      have := hfl hl
      omega
    · rw [if_neg y] at hl
      rw [if_neg (fun z => y z.1)]
      have := hmin2 o o0 o1 hl
      omega
  · rw [e2] at hp hl
    rw [e2, e3]
    by_cases y : o = b
    · subst y
      rw [if_pos rfl] at hl
      rw [if_pos rfl, if_pos ⟨rfl, hl⟩, show 8 * o + (n 2 o + 1) - 1 = 8 * o + n 2 o by omega, new5]
      have := hfl hl
      omega
    · rw [if_neg y] at hp hl
      rw [if_neg y, if_neg (fun z => y z.1)]
      have q := o4 o (n 2 o - 1) o0 o1 (by omega) (by omega)
      rw [← Int.add_sub_assoc] at q
      rw [q.2]
      exact h7 o o0 o1 ho hp hl
theorem OI_nit {V : dS} (hc : cityOK V) : ∀ (m : Nat) {n : dS}, NI V 109 n → OI V n → OI V (nit V 109 m n)
  | 0, _, _, h => h
  | m + 1, _, hn, h => OI_nit hc m (NI_step hc hn) (OI_step hc hn h)
theorem OI_F {V : dS} (hc : cityOK V) (hs : skyOK V 109) : OI V (NF V 109) := OI_nit hc 40 (N0_I hc hs) OI_0
