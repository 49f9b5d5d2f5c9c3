/-! FEWEST OWLS, FEWEST FARES -/
def Rc (V : dS) (p : Int) : List Int → Int → Int → Prop
  | [], r, t => r = V 19 p ∧ V 23 p ≤ t
  | o :: ws, r, t => ∃ i j, okc V o i ∧ okc V o j ∧ i < j ∧ Rc V p ws (V 17 (8 * o + i)) (NF V 109 5 (8 * o + i)) ∧ V 17 (8 * o + j) = r ∧ NF V 109 4 (8 * o + j) ≤ t
def prc (V : dS) (f o : Int) : Int := if f = 0 then 1 else V 11 o + 1
def cst (V : dS) (f : Int) : List Int → Int
  | [] => 0
  | o :: ws => prc V f o + cst V f ws
def inO (V : dS) (ws : List Int) : Prop := ∀ o, o ∈ ws → 0 ≤ o ∧ o < V 5 2
def rdV (V : dS) (o : Int) (A : Int → Int) (r t : Int) : Prop := ∃ i j, okc V o i ∧ okc V o j ∧ i < j ∧ A (V 17 (8 * o + i)) ≤ NF V 109 5 (8 * o + i) ∧ V 17 (8 * o + j) = r ∧ NF V 109 4 (8 * o + j) ≤ t
theorem nd_len : ∀ (n : Nat) (ws : List Int), ws.Nodup → (∀ x, x ∈ ws → 0 ≤ x ∧ x < (n : Int)) → ws.length ≤ n
  | 0, ws, _, h => by
    cases ws with
    | nil => exact Nat.le_refl _
    | cons a r => have := h a (List.mem_cons_self ..); omega
  | n + 1, ws, hn, h => by
    by_cases z : (n : Int) ∈ ws
    · have h1 := nd_len n (ws.erase (n : Int)) (hn.erase _) (fun x hx => by
        have a := (List.Nodup.mem_erase_iff hn).mp hx
        have b := h x a.2
        omega)
      have h2 := List.length_erase_of_mem z
      have h3 : 0 < ws.length := List.length_pos_of_mem z
      omega
    · have h1 := nd_len n ws hn (fun x hx => by
        have b := h x hx
        have : x ≠ (n : Int) := fun e => z (e ▸ hx)
        omega)
      omega
section FEW
variable {V : dS} {p f : Int}
theorem Rc_mono : ∀ (ws : List Int) {r t t' : Int}, t ≤ t' → Rc V p ws r t → Rc V p ws r t'
  | [], r, t, t', h, ⟨a, b⟩ => ⟨a, by omega⟩
  | o :: ws, r, t, t', h, ⟨i, j, a, b, c, e, g, k⟩ => ⟨i, j, a, b, c, e, g, by omega⟩
theorem Rc_in : ∀ (ws : List Int) {r t : Int}, Rc V p ws r t → inO V ws
  | [], _, _, _ => fun o ho => absurd ho (by simp)
  | o :: ws, r, t, ⟨i, j, a, b, c, e, g, k⟩ => by
    intro x hx
    rcases List.mem_cons.mp hx with q | q
    · rw [q]; exact ⟨a.1, a.2.1⟩
    · exact Rc_in ws e x q
/-- an owl that is ridden earlier was left before -/
theorem Rc_find (hF : FN V (NF V 109)) {o : Int} (vs : List Int) : ∀ (us : List Int) {r t : Int}, Rc V p (us ++ o :: vs) r t → ∃ i j, okc V o i ∧ okc V o j ∧ i < j ∧ Rc V p vs (V 17 (8 * o + i)) (NF V 109 5 (8 * o + i)) ∧ NF V 109 4 (8 * o + j) ≤ t
  | [], r, t, ⟨i, j, a, b, c, e, g, k⟩ => ⟨i, j, a, b, c, e, k⟩
  | u :: us, r, t, ⟨i, j, a, b, c, e, g, k⟩ => by
    obtain ⟨i2, j2, a2, b2, c2, e2, k2⟩ := Rc_find hF vs us e
    have := FN_54 hF a b c
    exact ⟨i2, j2, a2, b2, c2, e2, by omega⟩
theorem Rc_cut (hF : FN V (NF V 109)) {o : Int} {us vs : List Int} {r t : Int} (h : Rc V p (o :: (us ++ o :: vs)) r t) : Rc V p (o :: vs) r t := by
  obtain ⟨i, j, a, b, c, e, g, k⟩ := h
  obtain ⟨i2, j2, a2, b2, c2, e2, k2⟩ := Rc_find hF vs us e
  refine ⟨i2, j, a2, b, ?_, e2, g, k⟩
  have l1 := FN_54 hF a b c
  have l2 : j2 ≤ j := by
    by_cases z : j < j2
    · have := FN_4 hF b b2 z; omega
    · omega
  omega
theorem cst_app (us vs : List Int) : cst V f (us ++ vs) = cst V f us + cst V f vs := by
  induction us with
  | nil => simp [cst]
  | cons a r ih => rw [List.cons_append, cst, cst, ih]; omega
theorem prc_r (hc : cityOK V) {o : Int} (o0 : 0 ≤ o) (o1 : o < V 5 2) : 1 ≤ prc V f o ∧ prc V f o ≤ 3 := by
  have := (hc.2.2.2.2.2.1 o o0 o1).1
  unfold prc
  by_cases z : f = 0
  · rw [if_pos z]; omega
  · rw [if_neg z]; omega
theorem cst_r (hc : cityOK V) : ∀ (ws : List Int), inO V ws → (ws.length : Int) ≤ cst V f ws ∧ cst V f ws ≤ 3 * ws.length
  | [], _ => by simp [cst]
  | o :: ws, h => by
    have h1 := h o (List.mem_cons_self ..)
    have := prc_r (f := f) hc h1.1 h1.2
    have := cst_r hc ws (fun x hx => h x (List.mem_cons_of_mem _ hx))
    rw [cst, List.length_cons]; omega
theorem Rc_nodup (hc : cityOK V) (hF : FN V (NF V 109)) : ∀ (ws : List Int) {r t : Int}, Rc V p ws r t → ∃ ws', ws'.Nodup ∧ Rc V p ws' r t ∧ cst V f ws' ≤ cst V f ws
  | [], r, t, h => ⟨[], List.nodup_nil, h, Int.le_refl _⟩
  | o :: ws, r, t, h => by
    have hin := Rc_in _ h
    obtain ⟨i, j, a, b, c, e, g, k⟩ := h
    obtain ⟨w1, n1, r1, c1⟩ := Rc_nodup hc hF ws e
    have h1 : Rc V p (o :: w1) r t := ⟨i, j, a, b, c, r1, g, k⟩
    by_cases z : o ∈ w1
    · obtain ⟨us, vs, ew⟩ := List.append_of_mem z
      subst ew
      have hin1 := Rc_in _ r1
      have hu : 0 ≤ cst V f us := by
        have := cst_r (f := f) hc us (fun x hx => hin1 x (List.mem_append_left _ hx))
        omega
      refine ⟨o :: vs, ?_, Rc_cut hF h1, ?_⟩
      · exact (List.nodup_append.mp n1).2.1
      · have e1 := cst_app (V := V) (f := f) us (o :: vs)
        have h0 := hin o (List.mem_cons_self ..)
        have := prc_r (f := f) hc h0.1 h0.2
        rw [cst] at e1 ⊢
        rw [cst]
        omega
    · refine ⟨o :: w1, List.nodup_cons.mpr ⟨z, n1⟩, h1, ?_⟩
      rw [cst, cst]; omega
/-- one is home for the price n -/
def HB (V : dS) (p f n : Int) : Prop := ∃ ws, cst V f ws = n ∧ Rc V p ws (V 21 p) (V 5 4)
def LSt (P : Int → Prop) (v : Int) : Prop := (v = -1 ∧ ∀ n, ¬ P n) ∨ (P v ∧ 0 ≤ v ∧ ∀ m, P m → v ≤ m)
noncomputable def fwV (V : dS) (p f : Int) : Int := Classical.epsilon (LSt (HB V p f))
theorem LSt_u {P : Int → Prop} {v : Int} (h : LSt P v) : Classical.epsilon (LSt P) = v := by
  have h2 := Classical.epsilon_spec ⟨v, h⟩
  generalize Classical.epsilon (LSt P) = w at h2
  rcases h with ⟨a, b⟩ | ⟨a, b, c⟩
  · rcases h2 with ⟨a2, b2⟩ | ⟨a2, b2, c2⟩
    · omega
    · exact absurd a2 (b w)
  · rcases h2 with ⟨a2, b2⟩ | ⟨a2, b2, c2⟩
    · exact absurd a (b2 v)
    · have := c w a2
      have := c2 v a
      omega
theorem fw_yes (hc : cityOK V) {v : Int} (h : HB V p f v) (h0 : ∀ m, 0 ≤ m → m < v → ¬ HB V p f m) : fwV V p f = v := by
  have nn : ∀ m, HB V p f m → 0 ≤ m := by
    rintro m ⟨ws, e, hr⟩
    have := cst_r (f := f) hc ws (Rc_in _ hr)
    omega
  refine LSt_u (Or.inr ⟨h, nn v h, fun m hm => ?_⟩)
  by_cases z : m < v
  · exact absurd hm (h0 m (nn m hm) z)
  · omega
theorem fw_no (hc : cityOK V) (hs : skyOK V 109) {n : Int} (h : ∀ m, 0 ≤ m → m ≤ (if f = 0 then 5 else 15) → ¬ HB V p f m) : fwV V p f = -1 := by
  refine LSt_u (Or.inl ⟨rfl, ?_⟩)
  rintro m ⟨ws, e, hr⟩
  obtain ⟨w2, n2, r2, c2⟩ := Rc_nodup (f := f) hc (FN_F hc hs) ws hr
  have hin := Rc_in _ r2
  have hO := hc.2.1
  have l := nd_len (V 5 2).toNat w2 n2 (fun x hx => by have := hin x hx; omega)
  have c3 := cst_r (f := f) hc w2 hin
  refine h (cst V f w2) (by omega) ?_ ⟨w2, rfl, r2⟩
  by_cases z : f = 0
  · rw [if_pos z]
    have : ∀ ws : List Int, cst V f ws = ws.length := by
      intro ws
      induction ws with
      | nil => simp [cst]
      | cons a r ih => rw [cst, ih, prc, if_pos z, List.length_cons]; omega
    rw [this]; omega
  · rw [if_neg z]; omega
theorem Rc_cons {o : Int} {ws : List Int} {r t : Int} : Rc V p (o :: ws) r t ↔ ∃ i j, okc V o i ∧ okc V o j ∧ i < j ∧ Rc V p ws (V 17 (8 * o + i)) (NF V 109 5 (8 * o + i)) ∧ V 17 (8 * o + j) = r ∧ NF V 109 4 (8 * o + j) ≤ t := Iff.rfl
end FEW
/-! riding along one owl: A is where it is boarded by, B what it betters -/
def rkk (V : dS) (o : Int) (A : Int → Int) (k r t : Int) : Prop := ∃ i j, okc V o i ∧ okc V o j ∧ i < j ∧ j < k ∧ A (V 17 (8 * o + i)) ≤ NF V 109 5 (8 * o + i) ∧ V 17 (8 * o + j) = r ∧ NF V 109 4 (8 * o + j) ≤ t
def onk (V : dS) (o : Int) (A : Int → Int) (k : Int) : Prop := ∃ i, okc V o i ∧ i < k ∧ A (V 17 (8 * o + i)) ≤ NF V 109 5 (8 * o + i)
section RK
variable {V : dS} {o k : Int} {A : Int → Int}
theorem onk_s (hk : okc V o k) : onk V o A (k + 1) ↔ onk V o A k ∨ A (V 17 (8 * o + k)) ≤ NF V 109 5 (8 * o + k) := by
  constructor
  · rintro ⟨i, a, b, c⟩
    by_cases e : i = k
    · subst e; exact Or.inr c
    · exact Or.inl ⟨i, a, by omega, c⟩
  · rintro (⟨i, a, b, c⟩ | c)
    · exact ⟨i, a, by omega, c⟩
    · exact ⟨k, hk, by omega, c⟩
theorem rk_s (hk : okc V o k) {r t : Int} : rkk V o A (k + 1) r t ↔ rkk V o A k r t ∨ (onk V o A k ∧ V 17 (8 * o + k) = r ∧ NF V 109 4 (8 * o + k) ≤ t) := by
  constructor
  · rintro ⟨i, j, a, b, c, e, g, h, l⟩
    by_cases w : j = k
    · subst w; exact Or.inr ⟨⟨i, a, c, g⟩, h, l⟩
    · exact Or.inl ⟨i, j, a, b, c, by omega, g, h, l⟩
  · rintro (⟨i, j, a, b, c, e, g, h, l⟩ | ⟨⟨i, a, c, g⟩, h, l⟩)
    · exact ⟨i, j, a, b, c, by omega, g, h, l⟩
    · exact ⟨i, k, a, hk, c, by omega, g, h, l⟩
theorem rk_0 {r t : Int} : ¬ rkk V o A 0 r t := by
  rintro ⟨i, j, a, b, c, e, _⟩
  have := b.2.2.2.1
  omega
theorem onk_0 : ¬ onk V o A 0 := by
  rintro ⟨i, a, b, _⟩
  have := a.2.2.2.1
  omega
theorem rk_all {r t : Int} : rkk V o A (V 15 o) r t ↔ rdV V o A r t := by
  constructor
  · rintro ⟨i, j, a, b, c, e, g, h, l⟩
    exact ⟨i, j, a, b, c, g, h, l⟩
  · rintro ⟨i, j, a, b, c, g, h, l⟩
    exact ⟨i, j, a, b, c, b.2.2.2.2, g, h, l⟩
theorem rd_nest (h : nestb V 109 o) {r t : Int} : ¬ rdV V o A r t := by
  rintro ⟨i, j, a, _⟩
  exact a.2.2.1 h
end RK
