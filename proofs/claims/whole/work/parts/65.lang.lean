/-! THE LANGUAGE of rules: recursive descent over tokens (codes c, numbers v), as the class reads -/
def gbd (r : Int × Nat × List Int) (K : Nat → List Int → Int × Nat × List Int) : Int × Nat × List Int := if r.1 = 0 then K r.2.1 r.2.2 else r
def glp (c : Nat → Int) (op : Int → Bool) (sub : Nat → List Int → Int × Nat × List Int) : Nat → Nat → List Int → Int × Nat × List Int
  | 0, k, o => (0, k, o)
  | n + 1, k, o => if op (c k) = true then gbd (sub (k + 1) o) (fun k' o' => glp c op sub n k' (o' ++ [-(c k)])) else (0, k, o)
def gch (c : Nat → Int) (op : Int → Bool) (sub : Nat → List Int → Int × Nat × List Int) (k : Nat) (o : List Int) : Int × Nat × List Int :=
  gbd (sub k o) (fun k' o' => glp c op sub 700 k' o')
def gno (sub : Nat → List Int → Int × Nat × List Int) (j k : Nat) (o : List Int) : Int × Nat × List Int :=
  gbd (sub k o) (fun k' o' => (0, k', o' ++ List.replicate j (-139)))
def gnt (c : Nat → Int) (sub : Nat → List Int → Int × Nat × List Int) : Nat → Nat → Nat → List Int → Int × Nat × List Int
  | 0, j, k, o => if c k = 139 then (2, k, o) else gno sub j k o
  | n + 1, j, k, o => if c k = 139 then gnt c sub n (j + 1) (k + 1) o else gno sub j k o
def gts (c : Nat → Int) (sub : Nat → List Int → Int × Nat × List Int) (k : Nat) (o : List Int) : Int × Nat × List Int :=
  gbd (sub k o) (fun k' o' => if c k' = 60 ∨ c k' = 61 then gbd (sub (k' + 1) o') (fun k2 o2 => (0, k2, o2 ++ [-(c k')])) else (0, k', o'))
def gpt (c v : Nat → Int) (sub : Nat → List Int → Int × Nat × List Int) (k : Nat) (o : List Int) : Int × Nat × List Int :=
  if c k = 40 then gbd (sub (k + 1) o) (fun k' o' => if c k' = 41 then (0, k' + 1, o') else (1, k', o'))
  else if c k = 1 then (if v k ≤ 9999 then (0, k + 1, o ++ [v k]) else (2, k, o))
  else if c k < 128 then (1, k, o)
  else if c k < 140 ∨ 146 < c k then (3, k, o)
  else (0, k + 1, o ++ [-(c k)])
def opO (x : Int) : Bool := decide (x = 137)
def opA (x : Int) : Bool := decide (x = 138)
def opS (x : Int) : Bool := decide (x = 43 ∨ x = 45)
def opP (x : Int) : Bool := decide (x = 42 ∨ x = 47)
def gsm (c v : Nat → Int) (sub : Nat → List Int → Int × Nat × List Int) : Nat → List Int → Int × Nat × List Int := gch c opS (gch c opP (gpt c v sub))
def gan (c v : Nat → Int) (sub : Nat → List Int → Int × Nat × List Int) : Nat → List Int → Int × Nat × List Int := gch c opA (gnt c (gts c (gsm c v sub)) 6 0)
def gex (c v : Nat → Int) : Nat → Nat → List Int → Int × Nat × List Int
  | 0, k, o => (if c k = 1 ∨ c k = 40 ∨ 128 ≤ c k then 2 else 1, k, o)
  | r + 1, k, o => gch c opO (gan c v (gex c v r)) k o
theorem ne_1 : ¬ (1 : Int) = 0 := by decide
theorem ne_2 : ¬ (2 : Int) = 0 := by decide
theorem ne_3 : ¬ (3 : Int) = 0 := by decide
/-- where a reading stops: never behind the end, further on, one step a token at most, steps of one value -/
def VP (B : Nat) (P : List Int) : Prop := ∀ rest s, s + B ≤ 64 → vl rest (s + 1) → vl (P ++ rest) s
def GK (B N : Nat) (sub : Nat → List Int → Int × Nat × List Int) : Prop := ∀ k o, k ≤ N →
  ((sub k o).1 = 0 ∨ (1 ≤ (sub k o).1 ∧ (sub k o).1 ≤ 3)) ∧ (sub k o).2.1 ≤ N ∧ k ≤ (sub k o).2.1 ∧ ((sub k o).1 = 0 → k < (sub k o).2.1 ∧ ∃ P, (sub k o).2.2 = o ++ P ∧ P.length + k ≤ (sub k o).2.1 ∧ VP B P)
section GK
variable {c v : Nat → Int} {N B : Nat} {sub : Nat → List Int → Int × Nat × List Int} {op : Int → Bool}
theorem VP_op {P P' : List Int} {x : Int} (hx : x = 42 ∨ x = 43 ∨ x = 45 ∨ x = 47 ∨ x = 60 ∨ x = 61 ∨ x = 138 ∨ x = 137) (h : VP (B + 1) P) (h' : VP B P') : VP (B + 1) (P ++ P' ++ [-x]) := by
  intro rest s hs hr
  rw [List.append_assoc, List.append_assoc]
  refine h _ s hs (h' _ (s + 1) (by omega) ?_)
  show vl (-x :: rest) (s + 1 + 1)
  unfold vl
  rw [if_neg (by omega), if_neg (by omega), if_neg (by omega)]
  exact ⟨by omega, by omega, hr⟩
theorem VP_not {P : List Int} (h : VP B P) : ∀ j : Nat, VP B (P ++ List.replicate j (-139))
  | 0 => by simpa using h
  | j + 1 => by
    intro rest s hs hr
    rw [List.replicate_succ', ← List.append_assoc, List.append_assoc]
    refine VP_not h j _ s hs ?_
    show vl (-139 :: rest) (s + 1)
    unfold vl
    rw [if_neg (by decide), if_neg (by decide), if_pos rfl]
    exact ⟨by omega, hr⟩
theorem VP_mono {B B' : Nat} {P : List Int} (hB : B ≤ B') (h : VP B P) : VP B' P := fun rest s hs hr => h rest s (by omega) hr
theorem glp_k (c0 : c N = 0) (hop : ∀ x, op x = true → x = 42 ∨ x = 43 ∨ x = 45 ∨ x = 47 ∨ x = 60 ∨ x = 61 ∨ x = 138 ∨ x = 137) (hs : GK B N sub) : ∀ (n k : Nat) (o o0 : List Int) (k0 : Nat), k ≤ N → N ≤ k + n → k0 < k → (∃ P, o = o0 ++ P ∧ P.length + k0 ≤ k ∧ VP (B + 1) P) →
    ((glp c op sub n k o).1 = 0 ∨ (1 ≤ (glp c op sub n k o).1 ∧ (glp c op sub n k o).1 ≤ 3)) ∧ (glp c op sub n k o).2.1 ≤ N ∧ k0 ≤ (glp c op sub n k o).2.1 ∧ ((glp c op sub n k o).1 = 0 → k0 < (glp c op sub n k o).2.1 ∧ op (c (glp c op sub n k o).2.1) = false ∧ ∃ P, (glp c op sub n k o).2.2 = o0 ++ P ∧ P.length + k0 ≤ (glp c op sub n k o).2.1 ∧ VP (B + 1) P)
  | 0, k, o, o0, k0, hk, hN, hk0, hP => by
    have e : k = N := by omega
    refine ⟨Or.inl rfl, hk, by show k0 ≤ k; omega, fun _ => ⟨hk0, ?_, hP⟩⟩
    show op (c k) = false
    rw [e, c0]
    cases hh : op 0 with
    | false => rfl
    | true => exact absurd (hop 0 hh) (by omega)
  | n + 1, k, o, o0, k0, hk, hN, hk0, hP => by
    unfold glp
    by_cases ho : op (c k) = true
    · rw [if_pos ho]
      have hx := hop _ ho
      have hkN : k < N := by
        rcases Nat.lt_or_ge k N with h | h
        · exact h
        · have : k = N := by omega
          rw [this, c0] at hx; omega
      obtain ⟨s1, s2, s3, s4⟩ := hs (k + 1) o (by omega)
      unfold gbd
      by_cases hz : (sub (k + 1) o).1 = 0
      · rw [if_pos hz]
        obtain ⟨t1, P', t2, t3, t4⟩ := s4 hz
        obtain ⟨P, p1, p2, p3⟩ := hP
        refine glp_k c0 hop hs n _ _ o0 k0 s2 (by omega) (by omega) ⟨P ++ P' ++ [-(c k)], ?_, ?_, VP_op hx p3 t4⟩
        · rw [t2, p1]; simp [List.append_assoc]
        · simp only [List.length_append, List.length_cons, List.length_nil]; omega
      · rw [if_neg hz]
        exact ⟨s1, s2, by omega, fun q => absurd q hz⟩
    · rw [if_neg ho]
      refine ⟨Or.inl rfl, hk, by show k0 ≤ k; omega, fun _ => ⟨hk0, ?_, hP⟩⟩
      exact Bool.eq_false_iff.mpr ho
theorem gch_k (c0 : c N = 0) (hN : N ≤ 700) (hop : ∀ x, op x = true → x = 42 ∨ x = 43 ∨ x = 45 ∨ x = 47 ∨ x = 60 ∨ x = 61 ∨ x = 138 ∨ x = 137) (hs : GK B N sub) : GK (B + 1) N (gch c op sub) ∧ ∀ k o, k ≤ N → (gch c op sub k o).1 = 0 → op (c (gch c op sub k o).2.1) = false := by
  have main : ∀ k o, k ≤ N → ((gch c op sub k o).1 = 0 ∨ (1 ≤ (gch c op sub k o).1 ∧ (gch c op sub k o).1 ≤ 3)) ∧ (gch c op sub k o).2.1 ≤ N ∧ k ≤ (gch c op sub k o).2.1 ∧ ((gch c op sub k o).1 = 0 → k < (gch c op sub k o).2.1 ∧ op (c (gch c op sub k o).2.1) = false ∧ ∃ P, (gch c op sub k o).2.2 = o ++ P ∧ P.length + k ≤ (gch c op sub k o).2.1 ∧ VP (B + 1) P) := by
    intro k o hk
    obtain ⟨s1, s2, s3, s4⟩ := hs k o hk
    unfold gch gbd
    by_cases hz : (sub k o).1 = 0
    · rw [if_pos hz]
      obtain ⟨t1, P, t2, t3, t4⟩ := s4 hz
      exact glp_k c0 hop hs 700 _ _ o k s2 (by omega) t1 ⟨P, t2, t3, VP_mono (by omega) t4⟩
    · rw [if_neg hz]
      exact ⟨s1, s2, s3, fun q => absurd q hz⟩
  refine ⟨fun k o hk => ?_, fun k o hk hz => ((main k o hk).2.2.2 hz).2.1⟩
  obtain ⟨a1, a2, a3, a4⟩ := main k o hk
  exact ⟨a1, a2, a3, fun z => ⟨(a4 z).1, (a4 z).2.2⟩⟩
theorem gno_k (hs : GK B N sub) {j k k0 : Nat} {o : List Int} (hk : k ≤ N) (hj : k0 + j ≤ k) :
    ((gno sub j k o).1 = 0 ∨ (1 ≤ (gno sub j k o).1 ∧ (gno sub j k o).1 ≤ 3)) ∧ (gno sub j k o).2.1 ≤ N ∧ k0 ≤ (gno sub j k o).2.1 ∧ ((gno sub j k o).1 = 0 → k0 < (gno sub j k o).2.1 ∧ ∃ P, (gno sub j k o).2.2 = o ++ P ∧ P.length + k0 ≤ (gno sub j k o).2.1 ∧ VP B P) := by
  obtain ⟨s1, s2, s3, s4⟩ := hs k o hk
  unfold gno gbd
  by_cases hz : (sub k o).1 = 0
  · rw [if_pos hz]
    obtain ⟨t1, P, t2, t3, t4⟩ := s4 hz
    refine ⟨Or.inl rfl, s2, by show k0 ≤ (sub k o).2.1; omega, fun _ => ⟨by show k0 < (sub k o).2.1; omega, P ++ List.replicate j (-139), ?_, ?_, VP_not t4 j⟩⟩
    · show (sub k o).2.2 ++ _ = _
      rw [t2, List.append_assoc]
    · show _ ≤ (sub k o).2.1
      simp only [List.length_append, List.length_replicate]; omega
  · rw [if_neg hz]
    exact ⟨s1, s2, by omega, fun q => absurd q hz⟩
theorem gnt_k (c0 : c N = 0) (hs : GK B N sub) {k0 : Nat} {o : List Int} : ∀ (n j k : Nat), k ≤ N → k0 + j ≤ k →
    ((gnt c sub n j k o).1 = 0 ∨ (1 ≤ (gnt c sub n j k o).1 ∧ (gnt c sub n j k o).1 ≤ 3)) ∧ (gnt c sub n j k o).2.1 ≤ N ∧ k0 ≤ (gnt c sub n j k o).2.1 ∧ ((gnt c sub n j k o).1 = 0 → k0 < (gnt c sub n j k o).2.1 ∧ ∃ P, (gnt c sub n j k o).2.2 = o ++ P ∧ P.length + k0 ≤ (gnt c sub n j k o).2.1 ∧ VP B P)
  | 0, j, k, hk, hj => by
    unfold gnt
    by_cases h : c k = 139
    · rw [if_pos h]
      exact ⟨Or.inr ⟨by show (1 : Int) ≤ 2; decide, by show (2 : Int) ≤ 3; decide⟩, hk, by show k0 ≤ k; omega, fun q => absurd q ne_2⟩
    · rw [if_neg h]
      exact gno_k hs hk hj
  | n + 1, j, k, hk, hj => by
    unfold gnt
    by_cases h : c k = 139
    · rw [if_pos h]
      have : k < N := by
        rcases Nat.lt_or_ge k N with h' | h'
        · exact h'
        · have : k = N := by omega
          rw [this, c0] at h; omega
      exact gnt_k c0 hs n (j + 1) (k + 1) (by omega) (by omega)
    · rw [if_neg h]
      exact gno_k hs hk hj
theorem gts_k (c0 : c N = 0) (hs : GK B N sub) : GK (B + 1) N (gts c sub) := by
  intro k o hk
  obtain ⟨s1, s2, s3, s4⟩ := hs k o hk
  unfold gts gbd
  by_cases hz : (sub k o).1 = 0
  · rw [if_pos hz]
    dsimp only
    obtain ⟨t1, P, t2, t3, t4⟩ := s4 hz
    by_cases hc : c (sub k o).2.1 = 60 ∨ c (sub k o).2.1 = 61
    · rw [if_pos hc]
      have hkN : (sub k o).2.1 < N := by
        rcases Nat.lt_or_ge (sub k o).2.1 N with h | h
        · exact h
        · have : (sub k o).2.1 = N := by omega
          rw [this, c0] at hc; omega
      have hx : c (sub k o).2.1 = 42 ∨ c (sub k o).2.1 = 43 ∨ c (sub k o).2.1 = 45 ∨ c (sub k o).2.1 = 47 ∨ c (sub k o).2.1 = 60 ∨ c (sub k o).2.1 = 61 ∨ c (sub k o).2.1 = 138 ∨ c (sub k o).2.1 = 137 := by omega
      obtain ⟨u1, u2, u3, u4⟩ := hs ((sub k o).2.1 + 1) (sub k o).2.2 (by omega)
      by_cases hy : (sub ((sub k o).2.1 + 1) (sub k o).2.2).1 = 0
      · rw [if_pos hy]
        obtain ⟨w1, P', w2, w3, w4⟩ := u4 hy
        refine ⟨Or.inl rfl, u2, by show k ≤ (sub ((sub k o).2.1 + 1) (sub k o).2.2).2.1; omega, fun _ => ⟨by show k < (sub ((sub k o).2.1 + 1) (sub k o).2.2).2.1; omega, P ++ P' ++ [-(c (sub k o).2.1)], ?_, ?_, VP_op hx (VP_mono (by omega) t4) w4⟩⟩
        · show (sub ((sub k o).2.1 + 1) (sub k o).2.2).2.2 ++ _ = _
          rw [w2]
          conv => lhs; rw [t2]
          simp [List.append_assoc]
        · show _ ≤ (sub ((sub k o).2.1 + 1) (sub k o).2.2).2.1
          simp only [List.length_append, List.length_cons, List.length_nil]; omega
      · rw [if_neg hy]
        exact ⟨u1, u2, by omega, fun q => absurd q hy⟩
    · rw [if_neg hc]
      exact ⟨Or.inl rfl, s2, s3, fun _ => ⟨t1, P, t2, t3, VP_mono (by omega) t4⟩⟩
  · rw [if_neg hz]
    exact ⟨s1, s2, s3, fun q => absurd q hz⟩
theorem gpt_k (c0 : c N = 0) (v0 : ∀ k, 0 ≤ v k) (hs : GK B N sub) (hB : 1 ≤ B) : GK B N (gpt c v sub) := by
  intro k o hk
  have ne : c k ≠ 0 → k < N := by
    intro h
    rcases Nat.lt_or_ge k N with h' | h'
    · exact h'
    · have : k = N := by omega
      rw [this, c0] at h; omega
  unfold gpt
  by_cases h1 : c k = 40
  · rw [if_pos h1]
    have hkN := ne (by omega)
    obtain ⟨s1, s2, s3, s4⟩ := hs (k + 1) o (by omega)
    unfold gbd
    by_cases hz : (sub (k + 1) o).1 = 0
    · rw [if_pos hz]
      dsimp only
      obtain ⟨t1, P, t2, t3, t4⟩ := s4 hz
      by_cases hc : c (sub (k + 1) o).2.1 = 41
      · rw [if_pos hc]
        have hk2 : (sub (k + 1) o).2.1 < N := by
          rcases Nat.lt_or_ge (sub (k + 1) o).2.1 N with h' | h'
          · exact h'
          · have : (sub (k + 1) o).2.1 = N := by omega
            rw [this, c0] at hc; omega
        exact ⟨Or.inl rfl, hk2, by show k ≤ (sub (k + 1) o).2.1 + 1; omega, fun _ => ⟨by show k < (sub (k + 1) o).2.1 + 1; omega, P, t2, by show _ ≤ (sub (k + 1) o).2.1 + 1; omega, t4⟩⟩
      · rw [if_neg hc]
        exact ⟨Or.inr ⟨by show (1 : Int) ≤ 1; decide, by show (1 : Int) ≤ 3; decide⟩, s2, by show k ≤ (sub (k + 1) o).2.1; omega, fun q => absurd q ne_1⟩
    · rw [if_neg hz]
      exact ⟨s1, s2, by omega, fun q => absurd q hz⟩
  rw [if_neg h1]
  by_cases h2 : c k = 1
  · rw [if_pos h2]
    have hkN := ne (by omega)
    by_cases h3 : v k ≤ 9999
    · rw [if_pos h3]
      refine ⟨Or.inl rfl, hkN, by show k ≤ k + 1; omega, fun _ => ⟨by show k < k + 1; omega, [v k], rfl, by show 1 + k ≤ k + 1; omega, ?_⟩⟩
      intro rest s hs' hr
      show vl (v k :: rest) s
      have := v0 k
      unfold vl
      rw [if_pos this]
      exact ⟨h3, by omega, hr⟩
    · rw [if_neg h3]
      exact ⟨Or.inr ⟨by show (1 : Int) ≤ 2; decide, by show (2 : Int) ≤ 3; decide⟩, hk, Nat.le_refl k, fun q => absurd q ne_2⟩
  rw [if_neg h2]
  by_cases h4 : c k < 128
  · rw [if_pos h4]
    exact ⟨Or.inr ⟨by show (1 : Int) ≤ 1; decide, by show (1 : Int) ≤ 3; decide⟩, hk, Nat.le_refl k, fun q => absurd q ne_1⟩
  rw [if_neg h4]
  by_cases h5 : c k < 140 ∨ 146 < c k
  · rw [if_pos h5]
    exact ⟨Or.inr ⟨by show (1 : Int) ≤ 3; decide, by show (3 : Int) ≤ 3; decide⟩, hk, Nat.le_refl k, fun q => absurd q ne_3⟩
  rw [if_neg h5]
  have hkN := ne (by omega)
  refine ⟨Or.inl rfl, hkN, by show k ≤ k + 1; omega, fun _ => ⟨by show k < k + 1; omega, [-(c k)], rfl, by show 1 + k ≤ k + 1; omega, ?_⟩⟩
  intro rest s hs' hr
  show vl (-(c k) :: rest) s
  unfold vl
  rw [if_neg (by omega), if_pos (by omega)]
  exact ⟨by omega, by omega, hr⟩
theorem opO_h : ∀ x, opO x = true → x = 42 ∨ x = 43 ∨ x = 45 ∨ x = 47 ∨ x = 60 ∨ x = 61 ∨ x = 138 ∨ x = 137 := fun x h => by have := of_decide_eq_true h; omega
theorem opA_h : ∀ x, opA x = true → x = 42 ∨ x = 43 ∨ x = 45 ∨ x = 47 ∨ x = 60 ∨ x = 61 ∨ x = 138 ∨ x = 137 := fun x h => by have := of_decide_eq_true h; omega
theorem opS_h : ∀ x, opS x = true → x = 42 ∨ x = 43 ∨ x = 45 ∨ x = 47 ∨ x = 60 ∨ x = 61 ∨ x = 138 ∨ x = 137 := fun x h => by have := of_decide_eq_true h; omega
theorem opP_h : ∀ x, opP x = true → x = 42 ∨ x = 43 ∨ x = 45 ∨ x = 47 ∨ x = 60 ∨ x = 61 ∨ x = 138 ∨ x = 137 := fun x h => by have := of_decide_eq_true h; omega
theorem gpr_k (c0 : c N = 0) (hN : N ≤ 700) (v0 : ∀ k, 0 ≤ v k) (hs : GK B N sub) (hB : 1 ≤ B) : GK (B + 1) N (gch c opP (gpt c v sub)) := (gch_k (op := opP) c0 hN opP_h (gpt_k c0 v0 hs hB)).1
theorem gsm_k (c0 : c N = 0) (hN : N ≤ 700) (v0 : ∀ k, 0 ≤ v k) (hs : GK B N sub) (hB : 1 ≤ B) : GK (B + 2) N (gsm c v sub) := (gch_k (op := opS) c0 hN opS_h (gpr_k c0 hN v0 hs hB)).1
theorem gnn_k (c0 : c N = 0) (hN : N ≤ 700) (v0 : ∀ k, 0 ≤ v k) (hs : GK B N sub) (hB : 1 ≤ B) : GK (B + 3) N (gnt c (gts c (gsm c v sub)) 6 0) :=
  fun _ _ hk => gnt_k c0 (gts_k c0 (gsm_k c0 hN v0 hs hB)) 6 0 _ hk (by omega)
theorem gan_k (c0 : c N = 0) (hN : N ≤ 700) (v0 : ∀ k, 0 ≤ v k) (hs : GK B N sub) (hB : 1 ≤ B) : GK (B + 4) N (gan c v sub) := (gch_k (op := opA) c0 hN opA_h (gnn_k c0 hN v0 hs hB)).1
theorem gex_k (c0 : c N = 0) (hN : N ≤ 700) (v0 : ∀ k, 0 ≤ v k) : ∀ r : Nat, GK (5 * r + 1) N (gex c v r)
  | 0 => by
    intro k o hk
    unfold gex
    dsimp only
    refine ⟨Or.inr ?_, hk, Nat.le_refl k, fun q => ?_⟩
    · show 1 ≤ (if _ then (2 : Int) else 1) ∧ (if _ then (2 : Int) else 1) ≤ 3
      by_cases h : c k = 1 ∨ c k = 40 ∨ 128 ≤ c k
      · rw [if_pos h]; decide
      · rw [if_neg h]; decide
    · replace q : (if c k = 1 ∨ c k = 40 ∨ 128 ≤ c k then (2 : Int) else 1) = 0 := q
      by_cases h : c k = 1 ∨ c k = 40 ∨ 128 ≤ c k
      · rw [if_pos h] at q; omega
      · rw [if_neg h] at q; omega
  | r + 1 => (gch_k (op := opO) c0 hN opO_h (gan_k c0 hN v0 (gex_k c0 hN v0 r) (by omega))).1
end GK
