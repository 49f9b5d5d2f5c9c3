/-! THE LANGUAGE as the reference reads it: a stack of waiting signs; and that both read alike -/
def stg (x : Int) : Nat := if x = 137 then 1 else if x = 138 then 2 else if x = 139 then 3 else if x = 60 ∨ x = 61 then 4 else if x = 43 ∨ x = 45 then 5 else 6
def gdr (l : Nat) : List Int → List Int → List Int × List Int
  | [], o => ([], o)
  | x :: W, o => if x = 40 ∨ stg x < l then (x :: W, o) else gdr l W (o ++ [-x])
def mac (c v : Nat → Int) : Nat → Option (Bool × Nat) → Nat → List Int → List Bool → List Int → Int × Nat × List Int
  | 0, _, k, _, _, o => (9, k, o)
  | n + 1, some (may, j), k, W, T, o =>
    if may = true ∧ c k = 139 then (if j = 6 then (2, k, o) else mac c v n (some (true, j + 1)) (k + 1) (139 :: W) T o)
    else if c k = 40 then (if T.length < 6 then mac c v n (some (true, 0)) (k + 1) (40 :: W) (false :: T) o else (if c (k + 1) = 1 ∨ c (k + 1) = 40 ∨ 128 ≤ c (k + 1) then 2 else 1, k + 1, o))
    else if c k = 1 then (if v k ≤ 9999 then mac c v n none (k + 1) W T (o ++ [v k]) else (2, k, o))
    else if c k < 128 then (1, k, o)
    else if c k < 140 ∨ 146 < c k then (3, k, o)
    else mac c v n none (k + 1) W T (o ++ [-(c k)])
  | n + 1, none, k, W, T, o =>
    if c k = 137 ∨ c k = 138 then mac c v n (some (true, 0)) (k + 1) (c k :: (gdr (stg (c k)) W o).1) (false :: T.tail) (gdr (stg (c k)) W o).2
    else if (c k = 60 ∨ c k = 61) ∧ T.headD false = false then mac c v n (some (false, 0)) (k + 1) (c k :: (gdr 4 W o).1) (true :: T.tail) (gdr 4 W o).2
    else if c k = 43 ∨ c k = 45 then mac c v n (some (false, 0)) (k + 1) (c k :: (gdr 5 W o).1) T (gdr 5 W o).2
    else if c k = 42 ∨ c k = 47 then mac c v n (some (false, 0)) (k + 1) (c k :: (gdr 6 W o).1) T (gdr 6 W o).2
    else if c k = 41 ∧ 40 ∈ W then mac c v n none (k + 1) (gdr 0 W o).1.tail T.tail (gdr 0 W o).2
    else (if 1 < T.length then 1 else 0, k, (gdr 0 W o).2)
def stq (l : Nat) : List Int → Prop
  | [] => True
  | x :: _ => x = 40 ∨ stg x < l
theorem gdr_app {l : Nat} {W : List Int} (hW : stq l W) : ∀ (P o : List Int), (∀ x ∈ P, x ≠ 40 ∧ l ≤ stg x) → gdr l (P ++ W) o = (W, o ++ P.map (fun x => -x))
  | [], o, _ => by
    match W, hW with
    | [], _ => simp [gdr]
    | x :: W, hW =>
      show (if x = 40 ∨ stg x < l then (x :: W, o) else gdr l W (o ++ [-x])) = _
      have hW' : x = 40 ∨ stg x < l := hW
      rw [if_pos hW']; simp
  | x :: P, o, h => by
    have hx := h x (List.mem_cons_self ..)
    show (if x = 40 ∨ stg x < l then (x :: (P ++ W), o) else gdr l (P ++ W) (o ++ [-x])) = _
    rw [if_neg (by rintro (z | z); exact hx.1 z; omega), gdr_app hW P _ (fun y hy => h y (List.mem_cons_of_mem _ hy))]
    simp [List.append_assoc]
def NX (l : Nat) (x : Int) : Prop := (l ≤ 6 → x ≠ 42 ∧ x ≠ 47) ∧ (l ≤ 5 → x ≠ 43 ∧ x ≠ 45) ∧ (l ≤ 2 → x ≠ 138) ∧ (l ≤ 1 → x ≠ 137)
def TQ (l : Nat) (x : Int) (T T' : List Bool) : Prop := T'.length = T.length ∧ (5 ≤ l → T' = T) ∧ (l < 5 → T'.tail = T.tail ∧ (x = 60 ∨ x = 61 → T'.headD false = true))
def SM (c v : Nat → Int) (N l D : Nat) (G : Nat → List Int → Int × Nat × List Int) : Prop := ∀ (may : Bool) (j k : Nat) (W : List Int) (T : List Bool) (o : List Int), k ≤ N → T.length = D → stq l W → (l ≤ 4 → T.headD false = false) → (4 ≤ l → may = true → c k ≠ 139) → (l < 4 → may = true ∧ j = 0) →
  ((G k o).1 = 0 → ∃ P o1 T' m, (G k o).2.2 = o1 ++ P.map (fun x => -x) ∧ (∀ x ∈ P, x ≠ 40 ∧ l ≤ stg x) ∧ TQ l (c (G k o).2.1) T T' ∧ NX l (c (G k o).2.1) ∧ ∀ n, mac c v (n + m) (some (may, j)) k W T o = mac c v n none (G k o).2.1 (P ++ W) T' o1) ∧
  ((G k o).1 ≠ 0 → ∃ m, ∀ n, ∃ o', mac c v (n + m) (some (may, j)) k W T o = ((G k o).1, (G k o).2.1, o'))
section SM
variable {c v : Nat → Int} {N B D : Nat} {sub : Nat → List Int → Int × Nat × List Int}
theorem stq_mono {l l' : Nat} (h : l ≤ l') : ∀ {W : List Int}, stq l W → stq l' W
  | [], _ => trivial
  | _ :: _, hW => by
    rcases hW with z | z
    · exact Or.inl z
    · exact Or.inr (by omega)
theorem TQ_refl {l : Nat} {x : Int} {T : List Bool} (h : 5 ≤ l ∨ ¬ (x = 60 ∨ x = 61)) : TQ l x T T := ⟨rfl, fun _ => rfl, fun z => ⟨rfl, fun y => by
  rcases h with h | h
  · omega
  · exact absurd y h⟩⟩
/-- one sign of a chain -/
theorem mac_op {l : Nat} {op : Int → Bool} (hl : (l = 1 ∧ op = opO) ∨ (l = 2 ∧ op = opA) ∨ (l = 5 ∧ op = opS) ∨ (l = 6 ∧ op = opP)) {k : Nat} (ho : op (c k) = true) :
    stg (c k) = l ∧ c k ≠ 40 ∧ ∀ n W T o, mac c v (n + 1) none k W T o = mac c v n (some (decide (l ≤ 2), 0)) (k + 1) (c k :: (gdr l W o).1) (if l ≤ 2 then false :: T.tail else T) (gdr l W o).2 := by
  rcases hl with ⟨e, e2⟩ | ⟨e, e2⟩ | ⟨e, e2⟩ | ⟨e, e2⟩
  all_goals subst e e2; have hc := of_decide_eq_true ho
  · refine ⟨by rw [hc]; rfl, by omega, fun n W T o => ?_⟩
    rw [mac, if_pos (Or.inl hc), hc]; rfl
  · refine ⟨by rw [hc]; rfl, by omega, fun n W T o => ?_⟩
    rw [mac, if_pos (Or.inr hc), hc]; rfl
  · refine ⟨by rcases hc with h | h <;> rw [h] <;> rfl, by omega, fun n W T o => ?_⟩
    rw [mac, if_neg (by omega), if_neg (by omega), if_pos hc]; rfl
  · refine ⟨by rcases hc with h | h <;> rw [h] <;> rfl, by omega, fun n W T o => ?_⟩
    rw [mac, if_neg (by omega), if_neg (by omega), if_neg (by omega), if_pos hc]; rfl
theorem op_nx {l : Nat} {op : Int → Bool} {x : Int} (hl : (l = 1 ∧ op = opO) ∨ (l = 2 ∧ op = opA) ∨ (l = 5 ∧ op = opS) ∨ (l = 6 ∧ op = opP)) (ho : op x = false) (h : NX (l + 1) x) : NX l x := by
  obtain ⟨h1, h2, h3, h4⟩ := h
  rcases hl with ⟨e, e2⟩ | ⟨e, e2⟩ | ⟨e, e2⟩ | ⟨e, e2⟩
  all_goals subst e e2; have hc := of_decide_eq_false ho
  · exact ⟨fun _ => h1 (by omega), fun _ => h2 (by omega), fun _ => h3 (by omega), fun _ => hc⟩
  · exact ⟨fun _ => h1 (by omega), fun _ => h2 (by omega), fun _ => hc, fun z => by omega⟩
  · exact ⟨fun _ => h1 (by omega), fun _ => by omega, fun z => by omega, fun z => by omega⟩
  · exact ⟨fun _ => by omega, fun z => by omega, fun z => by omega, fun z => by omega⟩
theorem lp_sim {l : Nat} {op : Int → Bool} (hl : (l = 1 ∧ op = opO) ∨ (l = 2 ∧ op = opA) ∨ (l = 5 ∧ op = opS) ∨ (l = 6 ∧ op = opP)) (hD : 1 ≤ D) (c0 : c N = 0) (hop : op 0 = false) (hs : GK B N sub) (hm : SM c v N (l + 1) D sub) {W : List Int} (hW : stq l W) {T : List Bool} (hT : T.length = D) :
    ∀ (n k : Nat) (o P o1 : List Int) (T1 : List Bool), k ≤ N → N ≤ k + n → o = o1 ++ P.map (fun x => -x) → (∀ x ∈ P, x ≠ 40 ∧ l ≤ stg x) → TQ l (c k) T T1 → NX (l + 1) (c k) →
    ((glp c op sub n k o).1 = 0 → ∃ P' o' T' m, (glp c op sub n k o).2.2 = o' ++ P'.map (fun x => -x) ∧ (∀ x ∈ P', x ≠ 40 ∧ l ≤ stg x) ∧ TQ l (c (glp c op sub n k o).2.1) T T' ∧ NX l (c (glp c op sub n k o).2.1) ∧ ∀ n', mac c v (n' + m) none k (P ++ W) T1 o1 = mac c v n' none (glp c op sub n k o).2.1 (P' ++ W) T' o') ∧
    ((glp c op sub n k o).1 ≠ 0 → ∃ m, ∀ n', ∃ o', mac c v (n' + m) none k (P ++ W) T1 o1 = ((glp c op sub n k o).1, (glp c op sub n k o).2.1, o')) := by
  intro n
  induction n with
  | zero =>
    intro k o P o1 T1 hk hN hP hPl hT1 hX
    refine ⟨fun _ => ⟨P, o1, T1, 0, hP, hPl, hT1, op_nx hl ?_ hX, fun n' => rfl⟩, fun z => absurd rfl z⟩
    have e : k = N := by omega
    rw [show (glp c op sub 0 k o).2.1 = k from rfl, e, c0]
    exact hop
  | succ n ih =>
    intro k o P o1 T1 hk hN hP hPl hT1 hX
    by_cases ho : op (c k) = true
    · have e : glp c op sub (n + 1) k o = gbd (sub (k + 1) o) (fun k' o' => glp c op sub n k' (o' ++ [-(c k)])) := by
        show (if op (c k) = true then _ else _) = _
        rw [if_pos ho]
      rw [e]
      have hlt : k < N := by
        rcases Nat.lt_or_ge k N with h | h
        · exact h
        · have : k = N := by omega
          rw [this, c0, hop] at ho; exact absurd ho (by decide)
      obtain ⟨m1, m2, m3⟩ := mac_op (v := v) hl ho
      have hg := gdr_app hW P o1 hPl
      rw [← hP] at hg
      have hT2 : (if l ≤ 2 then false :: T1.tail else T1).length = D := by
        by_cases z : l ≤ 2
        · rw [if_pos z, List.length_cons, List.length_tail, hT1.1, hT]; omega
        · rw [if_neg z, hT1.1, hT]
      have hT3 : l + 1 ≤ 4 → (if l ≤ 2 then false :: T1.tail else T1).headD false = false := by
        intro z
        rw [if_pos (by omega)]; rfl
      obtain ⟨q1, q2⟩ := hm (decide (l ≤ 2)) 0 (k + 1) (c k :: W) _ o (by omega) hT2 (Or.inr (by omega)) hT3 (fun z y => absurd (of_decide_eq_true y) (by omega)) (fun z => ⟨decide_eq_true (by omega), rfl⟩)
      obtain ⟨s1, s2, s3, s4⟩ := hs (k + 1) o (by omega)
      by_cases hz : (sub (k + 1) o).1 = 0
      · rw [gbd_0 hz]
        obtain ⟨P2, o2, T2, mm, r1, r2, r3, r4, r5⟩ := q1 hz
        obtain ⟨t1, _⟩ := s4 hz
        have hTq : TQ l (c (sub (k + 1) o).2.1) T T2 := by
          refine ⟨by rw [r3.1, hT2, hT], fun z => ?_, fun z => ?_⟩
          · rw [r3.2.1 (by omega), if_neg (by omega)]
            exact hT1.2.1 z
          · have l2 : l ≤ 2 := by omega
            have := r3.2.2 (by omega)
            rw [if_pos l2] at this
            refine ⟨?_, this.2⟩
            rw [this.1]
            exact (hT1.2.2 z).1
        obtain ⟨i1, i2⟩ := ih (sub (k + 1) o).2.1 ((sub (k + 1) o).2.2 ++ [-(c k)]) (P2 ++ [c k]) o2 T2 s2 (by omega) (by rw [r1]; simp [List.append_assoc]) (fun x hx => by
          rcases List.mem_append.mp hx with h | h
          · exact ⟨(r2 x h).1, by have := (r2 x h).2; omega⟩
          · rw [List.mem_singleton.mp h]; exact ⟨m2, by omega⟩) hTq r4
        have st : ∀ n', mac c v (n' + mm + 1) none k (P ++ W) T1 o1 = mac c v n' none (sub (k + 1) o).2.1 (P2 ++ [c k] ++ W) T2 o2 := by
          intro n'
          rw [m3, hg, r5, List.append_assoc]; rfl
        refine ⟨fun y => ?_, fun y => ?_⟩
        · obtain ⟨P', o', T', m', u1, u2, u3, u4, u5⟩ := i1 y
          refine ⟨P', o', T', m' + mm + 1, u1, u2, u3, u4, fun n' => ?_⟩
          rw [show n' + (m' + mm + 1) = n' + m' + mm + 1 by omega, st, u5]
        · obtain ⟨m', u⟩ := i2 y
          refine ⟨m' + mm + 1, fun n' => ?_⟩
          obtain ⟨o', u⟩ := u n'
          exact ⟨o', by rw [show n' + (m' + mm + 1) = n' + m' + mm + 1 by omega, st, u]⟩
      · rw [gbd_f hz]
        refine ⟨fun y => absurd y hz, fun _ => ?_⟩
        obtain ⟨m', u⟩ := q2 hz
        refine ⟨m' + 1, fun n' => ?_⟩
        obtain ⟨o', u⟩ := u n'
        exact ⟨o', by rw [show n' + (m' + 1) = n' + m' + 1 by omega, m3, hg, u]⟩
    · have e : glp c op sub (n + 1) k o = (0, k, o) := by
        show (if op (c k) = true then _ else _) = _
        rw [if_neg ho]
      rw [e]
      exact ⟨fun _ => ⟨P, o1, T1, 0, hP, hPl, hT1, op_nx hl (Bool.eq_false_iff.mpr ho) hX, fun n' => rfl⟩, fun z => absurd rfl z⟩
theorem ch_sim {l : Nat} {op : Int → Bool} (hl : (l = 1 ∧ op = opO) ∨ (l = 2 ∧ op = opA) ∨ (l = 5 ∧ op = opS) ∨ (l = 6 ∧ op = opP)) (hD : 1 ≤ D) (c0 : c N = 0) (hN : N ≤ 700) (hs : GK B N sub) (hm : SM c v N (l + 1) D sub) : SM c v N l D (gch c op sub) := by
  intro may j k W T o hk hT hW h4 hy1 hy2
  have hop : op 0 = false := by rcases hl with ⟨_, e⟩ | ⟨_, e⟩ | ⟨_, e⟩ | ⟨_, e⟩ <;> rw [e] <;> rfl
  have hl' : l ≤ 2 ∨ 5 ≤ l := by omega
  obtain ⟨q1, q2⟩ := hm may j k W T o hk hT (stq_mono (by omega) hW) (fun z => h4 (by omega)) (fun z y => hy1 (by omega) y) (fun z => hy2 (by omega))
  obtain ⟨s1, s2, s3, s4⟩ := hs k o hk
  unfold gch
  by_cases hz : (sub k o).1 = 0
  · rw [gbd_0 hz]
    obtain ⟨P, o1, T1, m, r1, r2, r3, r4, r5⟩ := q1 hz
    have hTq : TQ l (c (sub k o).2.1) T T1 := ⟨r3.1, fun z => r3.2.1 (by omega), fun z => r3.2.2 (by omega)⟩
    obtain ⟨i1, i2⟩ := lp_sim hl hD c0 hop hs hm hW hT 700 (sub k o).2.1 (sub k o).2.2 P o1 T1 s2 (by omega) r1 (fun x hx => ⟨(r2 x hx).1, by have := (r2 x hx).2; omega⟩) hTq r4
    refine ⟨fun y => ?_, fun y => ?_⟩
    · obtain ⟨P', o', T', m', u1, u2, u3, u4, u5⟩ := i1 y
      exact ⟨P', o', T', m' + m, u1, u2, u3, u4, fun n' => by rw [← Nat.add_assoc, r5, u5]⟩
    · obtain ⟨m', u⟩ := i2 y
      refine ⟨m' + m, fun n' => ?_⟩
      obtain ⟨o', u⟩ := u n'
      exact ⟨o', by rw [← Nat.add_assoc, r5, u]⟩
  · rw [gbd_f hz]
    exact ⟨fun y => absurd y hz, fun _ => q2 hz⟩
end SM
