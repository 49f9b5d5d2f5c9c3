/-! both read alike: tests, nots, parts, the whole -/
section SN
variable {c v : Nat → Int} {N B D : Nat} {sub : Nat → List Int → Int × Nat × List Int}
theorem ts_sim (hD : 1 ≤ D) (c0 : c N = 0) (hs : GK B N sub) (hm : SM c v N 5 D sub) : SM c v N 4 D (gts c sub) := by
  intro may j k W T o hk hT hW h4 hy1 hy2
  obtain ⟨q1, q2⟩ := hm may j k W T o hk hT (stq_mono (by omega) hW) (fun z => by omega) (fun _ y => hy1 (by omega) y) (fun z => by omega)
  obtain ⟨s1, s2, s3, s4⟩ := hs k o hk
  unfold gts
  by_cases hz : (sub k o).1 = 0
  · rw [gbd_0 hz]
    obtain ⟨P, o1, T1, m, r1, r2, r3, r4, r5⟩ := q1 hz
    have eT : T1 = T := r3.2.1 (by omega)
    by_cases hc : c (sub k o).2.1 = 60 ∨ c (sub k o).2.1 = 61
    · rw [if_pos hc]
      have hlt : (sub k o).2.1 < N := by
        rcases Nat.lt_or_ge (sub k o).2.1 N with h | h
        · exact h
        · have : (sub k o).2.1 = N := by omega
          rw [this, c0] at hc; omega
      have hg := gdr_app hW P o1 (fun x hx => ⟨(r2 x hx).1, by have := (r2 x hx).2; omega⟩)
      rw [← r1] at hg
      have sc : stg (c (sub k o).2.1) = 4 := by rcases hc with h | h <;> rw [h] <;> rfl
      have st : ∀ n, mac c v (n + 1) none (sub k o).2.1 (P ++ W) T1 o1 = mac c v n (some (false, 0)) ((sub k o).2.1 + 1) (c (sub k o).2.1 :: W) (true :: T.tail) (sub k o).2.2 := by
        intro n
        rw [mac, if_neg (by omega), if_pos ⟨hc, by rw [eT]; exact h4 (by decide)⟩, hg, eT]
      obtain ⟨w1, w2⟩ := hm false 0 ((sub k o).2.1 + 1) (c (sub k o).2.1 :: W) (true :: T.tail) (sub k o).2.2 (by omega) (by rw [List.length_cons, List.length_tail, hT]; omega) (Or.inr (by omega)) (fun z => by omega) (fun _ y => absurd y (by decide)) (fun z => by omega)
      by_cases hy : (sub ((sub k o).2.1 + 1) (sub k o).2.2).1 = 0
      · rw [gbd_0 hy]
        obtain ⟨P2, o2, T2, m2, u1, u2, u3, u4, u5⟩ := w1 hy
        refine ⟨fun _ => ⟨P2 ++ [c (sub k o).2.1], o2, T2, m2 + 1 + m, ?_, fun x hx => ?_, ⟨?_, fun z => by omega, fun _ => ?_⟩, ⟨fun _ => u4.1 (by omega), fun _ => u4.2.1 (by omega), fun z => by omega, fun z => by omega⟩, fun n => ?_⟩, fun z => absurd rfl z⟩
        · show (sub ((sub k o).2.1 + 1) (sub k o).2.2).2.2 ++ _ = _
          rw [u1]; simp [List.append_assoc]
        · rcases List.mem_append.mp hx with h | h
          · exact ⟨(u2 x h).1, by have := (u2 x h).2; omega⟩
          · rw [List.mem_singleton.mp h]; exact ⟨by omega, by omega⟩
        · rw [u3.1, List.length_cons, List.length_tail]; omega
        · rw [u3.2.1 (by omega)]
          exact ⟨rfl, fun _ => rfl⟩
        · rw [show n + (m2 + 1 + m) = n + m2 + 1 + m by omega, r5, st, u5, List.append_assoc]; rfl
      · rw [gbd_f hy]
        refine ⟨fun z => absurd z hy, fun _ => ?_⟩
        obtain ⟨m2, u⟩ := w2 hy
        refine ⟨m2 + 1 + m, fun n => ?_⟩
        obtain ⟨o', u⟩ := u n
        exact ⟨o', by rw [show n + (m2 + 1 + m) = n + m2 + 1 + m by omega, r5, st, u]⟩
    · rw [if_neg hc]
      refine ⟨fun _ => ⟨P, o1, T1, m, r1, fun x hx => ⟨(r2 x hx).1, by have := (r2 x hx).2; omega⟩, ?_, ⟨fun _ => r4.1 (by omega), fun _ => r4.2.1 (by omega), fun z => by omega, fun z => by omega⟩, r5⟩, fun z => absurd rfl z⟩
      rw [eT]
      exact TQ_refl (Or.inr hc)
  · rw [gbd_f hz]
    exact ⟨fun y => absurd y hz, fun _ => q2 hz⟩
theorem no_sim (hm : SM c v N 4 D sub) {W : List Int} {T : List Bool} {o : List Int} (hT : T.length = D) (hW : stq 3 W) (h4 : T.headD false = false) {j k : Nat} (hk : k ≤ N) (hc : c k ≠ 139) :
    ((gno sub j k o).1 = 0 → ∃ P o1 T' m, (gno sub j k o).2.2 = o1 ++ P.map (fun x => -x) ∧ (∀ x ∈ P, x ≠ 40 ∧ 3 ≤ stg x) ∧ TQ 3 (c (gno sub j k o).2.1) T T' ∧ NX 3 (c (gno sub j k o).2.1) ∧ ∀ n, mac c v (n + m) (some (true, j)) k (List.replicate j 139 ++ W) T o = mac c v n none (gno sub j k o).2.1 (P ++ W) T' o1) ∧
    ((gno sub j k o).1 ≠ 0 → ∃ m, ∀ n, ∃ o', mac c v (n + m) (some (true, j)) k (List.replicate j 139 ++ W) T o = ((gno sub j k o).1, (gno sub j k o).2.1, o')) := by
  have hW' : stq 4 (List.replicate j 139 ++ W) := by
    match j with
    | 0 => exact stq_mono (by omega) hW
    | j + 1 => exact Or.inr (by decide)
  obtain ⟨q1, q2⟩ := hm true j k (List.replicate j 139 ++ W) T o hk hT hW' (fun _ => h4) (fun _ _ => hc) (fun z => by omega)
  unfold gno
  by_cases hz : (sub k o).1 = 0
  · rw [gbd_0 hz]
    obtain ⟨P, o1, T1, m, r1, r2, r3, r4, r5⟩ := q1 hz
    refine ⟨fun _ => ⟨P ++ List.replicate j 139, o1, T1, m, ?_, fun x hx => ?_, ⟨r3.1, fun z => by omega, fun _ => r3.2.2 (by omega)⟩, ⟨fun _ => r4.1 (by omega), fun _ => r4.2.1 (by omega), fun z => by omega, fun z => by omega⟩, fun n => ?_⟩, fun z => absurd rfl z⟩
    · show (sub k o).2.2 ++ _ = _
      rw [r1, List.map_append, List.map_replicate, List.append_assoc]
    · rcases List.mem_append.mp hx with h | h
      · exact ⟨(r2 x h).1, by have := (r2 x h).2; omega⟩
      · rw [(List.mem_replicate.mp h).2]; exact ⟨by decide, by decide⟩
    · rw [r5, List.append_assoc]
  · rw [gbd_f hz]
    exact ⟨fun y => absurd y hz, fun _ => q2 hz⟩
theorem nt_sim (c0 : c N = 0) (hm : SM c v N 4 D sub) {W : List Int} {T : List Bool} {o : List Int} (hT : T.length = D) (hW : stq 3 W) (h4 : T.headD false = false) : ∀ (n j k : Nat), j + n = 6 → k ≤ N →
    ((gnt c sub n j k o).1 = 0 → ∃ P o1 T' m, (gnt c sub n j k o).2.2 = o1 ++ P.map (fun x => -x) ∧ (∀ x ∈ P, x ≠ 40 ∧ 3 ≤ stg x) ∧ TQ 3 (c (gnt c sub n j k o).2.1) T T' ∧ NX 3 (c (gnt c sub n j k o).2.1) ∧ ∀ n', mac c v (n' + m) (some (true, j)) k (List.replicate j 139 ++ W) T o = mac c v n' none (gnt c sub n j k o).2.1 (P ++ W) T' o1) ∧
    ((gnt c sub n j k o).1 ≠ 0 → ∃ m, ∀ n', ∃ o', mac c v (n' + m) (some (true, j)) k (List.replicate j 139 ++ W) T o = ((gnt c sub n j k o).1, (gnt c sub n j k o).2.1, o'))
  | 0, j, k, hj, hk => by
    unfold gnt
    by_cases hc : c k = 139
    · rw [if_pos hc]
      refine ⟨fun z => absurd z ne_2, fun _ => ⟨1, fun n' => ⟨o, ?_⟩⟩⟩
      rw [mac, if_pos ⟨rfl, hc⟩, if_pos (by omega)]
    · rw [if_neg hc]
      exact no_sim hm hT hW h4 hk hc
  | n + 1, j, k, hj, hk => by
    unfold gnt
    by_cases hc : c k = 139
    · rw [if_pos hc]
      have hlt : k < N := by
        rcases Nat.lt_or_ge k N with h | h
        · exact h
        · have : k = N := by omega
          rw [this, c0] at hc; omega
      obtain ⟨i1, i2⟩ := nt_sim c0 hm hT hW h4 (o := o) n (j + 1) (k + 1) (by omega) (by omega)
      have st : ∀ n', mac c v (n' + 1) (some (true, j)) k (List.replicate j 139 ++ W) T o = mac c v n' (some (true, j + 1)) (k + 1) (List.replicate (j + 1) 139 ++ W) T o := by
        intro n'
        rw [mac, if_pos ⟨rfl, hc⟩, if_neg (by omega)]; rfl
      refine ⟨fun y => ?_, fun y => ?_⟩
      · obtain ⟨P', o', T', m', u1, u2, u3, u4, u5⟩ := i1 y
        exact ⟨P', o', T', m' + 1, u1, u2, u3, u4, fun n' => by rw [← Nat.add_assoc, st, u5]⟩
      · obtain ⟨m', u⟩ := i2 y
        refine ⟨m' + 1, fun n' => ?_⟩
        obtain ⟨o', u⟩ := u n'
        exact ⟨o', by rw [← Nat.add_assoc, st, u]⟩
    · rw [if_neg hc]
      exact no_sim hm hT hW h4 hk hc
theorem nn_sim (c0 : c N = 0) (hm : SM c v N 4 D sub) : SM c v N 3 D (gnt c sub 6 0) := by
  intro may j k W T o hk hT hW h4 hy1 hy2
  obtain ⟨e1, e2⟩ := hy2 (by decide)
  rw [e1, e2]
  exact nt_sim c0 hm hT hW (h4 (by decide)) 6 0 k (by decide) hk
theorem pt_sim (hD1 : 1 ≤ D) (c0 : c N = 0) (hs : GK B N sub) (hm : (D = 6 ∧ sub = gex c v 0) ∨ (D < 6 ∧ SM c v N 1 (D + 1) sub)) : SM c v N 7 D (gpt c v sub) := by
  intro may j k W T o hk hT hW h4 hy1 hy2
  have hno : ¬ (may = true ∧ c k = 139) := fun z => hy1 (by decide) z.1 z.2
  unfold gpt
  by_cases h1 : c k = 40
  · rw [if_pos h1]
    have hlt : k < N := by
      rcases Nat.lt_or_ge k N with h | h
      · exact h
      · have : k = N := by omega
        rw [this, c0] at h1; omega
    rcases hm with ⟨e1, e2⟩ | ⟨hD, hm⟩
    · have ez : sub (k + 1) o = (if c (k + 1) = 1 ∨ c (k + 1) = 40 ∨ 128 ≤ c (k + 1) then 2 else 1, k + 1, o) := by rw [e2]; rfl
      have hz : (sub (k + 1) o).1 ≠ 0 := by
        rw [ez]
        show ¬ (if c (k + 1) = 1 ∨ c (k + 1) = 40 ∨ 128 ≤ c (k + 1) then (2 : Int) else 1) = 0
        by_cases hh : c (k + 1) = 1 ∨ c (k + 1) = 40 ∨ 128 ≤ c (k + 1)
        · rw [if_pos hh]; decide
        · rw [if_neg hh]; decide
      rw [gbd_f hz]
      refine ⟨fun y => absurd y hz, fun _ => ⟨1, fun n => ⟨o, ?_⟩⟩⟩
      rw [mac, if_neg hno, if_pos h1, if_neg (by omega), ez]
    · have st : ∀ n, mac c v (n + 1) (some (may, j)) k W T o = mac c v n (some (true, 0)) (k + 1) (40 :: W) (false :: T) o := by
        intro n
        rw [mac, if_neg hno, if_pos h1, if_pos (by omega)]
      obtain ⟨q1, q2⟩ := hm true 0 (k + 1) (40 :: W) (false :: T) o (by omega) (by rw [List.length_cons, hT]) (Or.inl rfl) (fun _ => rfl) (fun z => by omega) (fun _ => ⟨rfl, rfl⟩)
      by_cases hz : (sub (k + 1) o).1 = 0
      · rw [gbd_0 hz]
        obtain ⟨P, o1, T1, m, r1, r2, r3, r4, r5⟩ := q1 hz
        obtain ⟨x1, x2⟩ := r3.2.2 (by decide)
        obtain ⟨n1, n2, n3, n4⟩ := r4
        have hg := gdr_app (l := 0) (W := 40 :: W) (Or.inl rfl) P o1 (fun x hx => ⟨(r2 x hx).1, by omega⟩)
        rw [← r1] at hg
        have tl : T1.tail = T := x1
        have len : T1.length = D + 1 := by rw [r3.1, List.length_cons, hT]
        have nt : ¬ ((c (sub (k + 1) o).2.1 = 60 ∨ c (sub (k + 1) o).2.1 = 61) ∧ T1.headD false = false) := by
          intro z
          rw [x2 z.1] at z
          exact absurd z.2 (by decide)
        have a1 := n1 (by decide)
        have a2 := n2 (by decide)
        have a3 := n3 (by decide)
        have a4 := n4 (by decide)
        have l1 : 1 < T1.length := by omega
        by_cases hc : c (sub (k + 1) o).2.1 = 41
        · rw [if_pos hc]
          refine ⟨fun _ => ⟨[], (sub (k + 1) o).2.2, T, 1 + m + 1, by simp, fun x hx => absurd hx (by simp), TQ_refl (Or.inl (by decide)), ⟨fun z => by omega, fun z => by omega, fun z => by omega, fun z => by omega⟩, fun n => ?_⟩, fun z => absurd rfl z⟩
          rw [show n + (1 + m + 1) = n + 1 + m + 1 by omega, st, r5, mac, if_neg (by omega), if_neg nt, if_neg (by omega), if_neg (by omega), if_pos ⟨hc, List.mem_append_right _ (List.mem_cons_self ..)⟩, hg, tl]
          rfl
        · rw [if_neg hc]
          refine ⟨fun z => absurd z ne_1, fun _ => ⟨1 + m + 1, fun n => ⟨(gdr 0 (P ++ 40 :: W) o1).2, ?_⟩⟩⟩
          · rw [show n + (1 + m + 1) = n + 1 + m + 1 by omega, st, r5, mac, if_neg (by omega), if_neg nt, if_neg (by omega), if_neg (by omega), if_neg (fun z => hc z.1), if_pos l1]
      · rw [gbd_f hz]
        refine ⟨fun y => absurd y hz, fun _ => ?_⟩
        obtain ⟨m, u⟩ := q2 hz
        refine ⟨m + 1, fun n => ?_⟩
        obtain ⟨o', u⟩ := u n
        exact ⟨o', by rw [← Nat.add_assoc, st, u]⟩
  rw [if_neg h1]
  by_cases h2 : c k = 1
  · rw [if_pos h2]
    by_cases h3 : v k ≤ 9999
    · rw [if_pos h3]
      refine ⟨fun _ => ⟨[], o ++ [v k], T, 1, by simp, fun x hx => absurd hx (by simp), TQ_refl (Or.inl (by decide)), ⟨fun z => by omega, fun z => by omega, fun z => by omega, fun z => by omega⟩, fun n => ?_⟩, fun z => absurd rfl z⟩
      rw [mac, if_neg hno, if_neg h1, if_pos h2, if_pos h3]; rfl
    · rw [if_neg h3]
      refine ⟨fun z => absurd z ne_2, fun _ => ⟨1, fun n => ⟨o, ?_⟩⟩⟩
      rw [mac, if_neg hno, if_neg h1, if_pos h2, if_neg h3]
  rw [if_neg h2]
  by_cases h4 : c k < 128
  · rw [if_pos h4]
    refine ⟨fun z => absurd z ne_1, fun _ => ⟨1, fun n => ⟨o, ?_⟩⟩⟩
    rw [mac, if_neg hno, if_neg h1, if_neg h2, if_pos h4]
  rw [if_neg h4]
  by_cases h5 : c k < 140 ∨ 146 < c k
  · rw [if_pos h5]
    refine ⟨fun z => absurd z ne_3, fun _ => ⟨1, fun n => ⟨o, ?_⟩⟩⟩
    rw [mac, if_neg hno, if_neg h1, if_neg h2, if_neg h4, if_pos h5]
  rw [if_neg h5]
  refine ⟨fun _ => ⟨[], o ++ [-(c k)], T, 1, by simp, fun x hx => absurd hx (by simp), TQ_refl (Or.inl (by decide)), ⟨fun z => by omega, fun z => by omega, fun z => by omega, fun z => by omega⟩, fun n => ?_⟩, fun z => absurd rfl z⟩
  rw [mac, if_neg hno, if_neg h1, if_neg h2, if_neg h4, if_neg h5]; rfl
end SN
theorem ex_sim {c v : Nat → Int} {N : Nat} (c0 : c N = 0) (hN : N ≤ 700) (v0 : ∀ k, 0 ≤ v k) : ∀ (r D : Nat), D + r = 6 → 1 ≤ D → SM c v N 1 D (gex c v (r + 1))
  | r, D, hD, h1 => by
    have k0 := gex_k c0 hN v0 r
    have m0 : (D = 6 ∧ gex c v r = gex c v 0) ∨ (D < 6 ∧ SM c v N 1 (D + 1) (gex c v r)) := by
      match r, hD with
      | 0, hD => exact Or.inl ⟨by omega, rfl⟩
      | r + 1, hD => exact Or.inr ⟨by omega, ex_sim c0 hN v0 r (D + 1) (by omega) (by omega)⟩
    have m1 := pt_sim h1 c0 k0 m0
    have m2 := ch_sim (l := 6) (op := opP) (Or.inr (Or.inr (Or.inr ⟨rfl, rfl⟩))) h1 c0 hN (gpt_k c0 v0 k0 (by omega)) m1
    have m3 := ch_sim (l := 5) (op := opS) (Or.inr (Or.inr (Or.inl ⟨rfl, rfl⟩))) h1 c0 hN (gpr_k c0 hN v0 k0 (by omega)) m2
    have m4 := ts_sim h1 c0 (gsm_k c0 hN v0 k0 (by omega)) m3
    have m5 := nn_sim c0 m4
    have m6 := ch_sim (l := 2) (op := opA) (Or.inr (Or.inl ⟨rfl, rfl⟩)) h1 c0 hN (gnn_k c0 hN v0 k0 (by omega)) m5
    exact ch_sim (l := 1) (op := opO) (Or.inl ⟨rfl, rfl⟩) h1 c0 hN (gan_k c0 hN v0 k0 (by omega)) m6
/-- both read one rule alike -/
theorem read_alike {c v : Nat → Int} {N : Nat} (c0 : c N = 0) (hN : N ≤ 700) (v0 : ∀ k, 0 ≤ v k) {k : Nat} {o : List Int} (hk : k ≤ N) : ∃ n o', mac c v n (some (true, 0)) k [] [false] o = ((gex c v 6 k o).1, (gex c v 6 k o).2.1, o') ∧ ((gex c v 6 k o).1 = 0 → o' = (gex c v 6 k o).2.2) := by
  obtain ⟨q1, q2⟩ := ex_sim c0 hN v0 5 1 rfl (by decide) true 0 k [] [false] o hk rfl trivial (fun _ => rfl) (fun z => by omega) (fun _ => ⟨rfl, rfl⟩)
  by_cases hz : (gex c v 6 k o).1 = 0
  · obtain ⟨P, o1, T1, m, r1, r2, r3, r4, r5⟩ := q1 hz
    obtain ⟨x1, x2⟩ := r3.2.2 (by decide)
    obtain ⟨n1, n2, n3, n4⟩ := r4
    have a1 := n1 (by decide)
    have a2 := n2 (by decide)
    have a3 := n3 (by decide)
    have a4 := n4 (by decide)
    have hg := gdr_app (l := 0) (W := []) trivial P o1 (fun x hx => ⟨(r2 x hx).1, by omega⟩)
    rw [← r1] at hg
    have nt : ¬ ((c (gex c v 6 k o).2.1 = 60 ∨ c (gex c v 6 k o).2.1 = 61) ∧ T1.headD false = false) := by
      intro z
      rw [x2 z.1] at z
      exact absurd z.2 (by decide)
    have n40 : ¬ (c (gex c v 6 k o).2.1 = 41 ∧ 40 ∈ P ++ ([] : List Int)) := by
      intro z
      rcases List.mem_append.mp z.2 with h | h
      · exact (r2 _ h).1 rfl
      · exact absurd h (by simp)
    have len : T1.length = 1 := r3.1
    refine ⟨1 + m, (gex c v 6 k o).2.2, ?_, fun _ => rfl⟩
    rw [r5, mac, if_neg (by omega), if_neg nt, if_neg (by omega), if_neg (by omega), if_neg n40, if_neg (by omega), hg, hz]
  · obtain ⟨m, u⟩ := q2 hz
    obtain ⟨o', u⟩ := u 0
    exact ⟨0 + m, o', u, fun z => absurd z hz⟩
