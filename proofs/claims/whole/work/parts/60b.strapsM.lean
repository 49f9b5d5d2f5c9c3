/-! straps, the reference -/
section STRAPM
variable {d : Nat} {Q : dR → dS → Prop} {σ V S : dS} {p : Int}
theorem l243 {o j : Int} (hc : cityOK V) (hs : skyOK V 109) (hM : MN S V) (p0 : 0 ≤ p) (p1 : p < V 5 3) (o0 : 0 ≤ o) (o1 : o < V 5 2) (hn : ¬ nestb V 109 o) (j1 : j ≤ V 15 o) (hq : Q (.inl (some (.inl (onf V p o j.toNat)))) S) : ∀ k : Nat, (k : Int) ≤ j → onf V p o j.toNat = onf V p o k → B243_1 d Q p o ((k : Int) - 1) S
  | 0, hk, he => by
    rw [he, onf] at hq
    exact b243_1 ⟨fun _ => b243_3 hq, fun z => absurd (by omega) z⟩
  | k + 1, hk, he => by
    have hO := hc.2.1
    have hP := hc.2.2.1
    have kb := hc.2.2.2.2.2.1 o o0 o1
    have ek : ((k + 1 : Nat) : Int) - 1 = (k : Int) := by omega
    have mo := hM.1.2.2.2.2.2.2.1 o o0 o1
    have mp := hM.1.2.2.2.2.2.2.2.1 p p0 p1
    have cl := hM.2.2.2.2 o (k : Int) o0 o1 hn (by omega) (by rw [(NF_done hc hs).2 o o0 o1]; omega)
    have ew : wr (wr (8 * o) + (k : Int)) = 8 * o + (k : Int) := by rw [wr_id (x := 8 * o) (by omega) (by omega), wr_id (by omega) (by omega)]
    have e4 : wr (4 * p) = 4 * p := wr_id (by omega) (by omega)
    have e42 : wr (4 * p + 2) = 4 * p + 2 := wr_id (by omega) (by omega)
    rw [onf] at he
    have next : ¬ (V 17 (8 * o + (k : Int)) = V 19 p ∧ V 23 p ≤ NF V 109 5 (8 * o + (k : Int))) → B243_2 d Q p o (k : Int) S := by
      intro z
      rw [if_neg z] at he
      refine b243_2 ?_
      rw [wr_id (by omega) (by omega)]
      exact l243 hc hs hM p0 p1 o0 o1 hn j1 hq k (by omega) he
    rw [ek]
    refine b243_1 ⟨fun z => absurd z (by omega), fun _ => ?_⟩
    rw [ew, e4, e42, mo.2.2 _ (by omega) (by omega), mp.1, mp.2.2.1, cl.2]
    refine ⟨by omega, by omega, by omega, by omega, fun z => next (fun q => z q.1), fun z => ⟨by omega, by omega, by omega, by omega, fun y => next (fun q => by omega), fun y => ?_⟩⟩
    rw [if_pos ⟨Decidable.of_not_not z, by omega⟩] at he
    rw [he] at hq
    exact hq
theorem w243 {K : Int → dS → Prop} {o j : Int} (hc : cityOK V) (hs : skyOK V 109) (hM : MN S V) (p0 : 0 ≤ p) (p1 : p < V 5 3) (o0 : 0 ≤ o) (o1 : o < V 5 2) (hn : ¬ nestb V 109 o) (j0 : 0 ≤ j) (j1 : j ≤ V 15 o) (h : K (onf V p o j.toNat) S) : wI (d + 2) 243 [.inr (.inr 153), .inl p, .inl o, .inl j] S Q K := by
  have kb := hc.2.2.2.2.2.1 o o0 o1
  refine c243 (b243_0 ?_)
  rw [wr_id (by omega) (by omega)]
  have := l243 (d := d) (Q := fun res σ1 => match res with | .inl (some (.inl v)) => K v σ1 | .inl _ => False | .inr e => Q (.inr e) σ1) hc hs hM p0 p1 o0 o1 hn j1 h j.toNat (by omega) rfl
  have e : ((j.toNat : Nat) : Int) = j := by omega
  rw [e] at this
  exact this
theorem l244 {L : Int → Int} {s o a b : Int} (o0 : 0 ≤ o) (o5 : o < 5) (a0 : 0 ≤ a) (b40 : b ≤ 8) (hL : ∀ c, 0 ≤ c → c < 40 → S 191 c = L c) (h1 : (∀ c, a ≤ c → c < b → L (8 * o + c) < s) → Q (.inl (some (.inl 1))) S) (h0 : ¬ (∀ c, a ≤ c → c < b → L (8 * o + c) < s) → Q (.inl (some (.inl 0))) S) : ∀ (m : Nat) (x : Int), a ≤ x → b ≤ x + m → (∀ c, a ≤ c → c < x → c < b → L (8 * o + c) < s) → B244_1 d Q o b s x S
  | 0, x, ax, hx, hk => b244_1 ⟨fun _ => b244_3 ⟨Or.inr rfl, h1 (fun c c0 c1 => hk c c0 (by omega) c1)⟩, fun z => absurd (by omega) z⟩
  | m + 1, x, ax, hx, hk => by
    refine b244_1 ⟨fun z => b244_3 ⟨Or.inr rfl, h1 (fun c c0 c1 => hk c c0 (by omega) c1)⟩, fun z => ?_⟩
    have ew : wr (wr (8 * o) + x) = 8 * o + x := by rw [wr_id (x := 8 * o) (by omega) (by omega), wr_id (by omega) (by omega)]
    rw [ew, hL _ (by omega) (by omega)]
    refine ⟨by omega, by omega, fun y => b244_2 ?_, fun y => ⟨Or.inl rfl, h0 (fun q => y (q x ax (by omega)))⟩⟩
    rw [wr_id (by omega) (by omega)]
    refine l244 o0 o5 a0 b40 hL h1 h0 m (x + 1) (by omega) (by omega) (fun c c0 c1 c2 => ?_)
    by_cases e : c = x
    · subst e; exact y
    · exact hk c c0 (by omega) c2
theorem w244 {K : Int → dS → Prop} {L : Int → Int} {s o a b : Int} (o0 : 0 ≤ o) (o5 : o < 5) (a0 : 0 ≤ a) (b40 : b ≤ 8) (hL : ∀ c, 0 ≤ c → c < 40 → S 191 c = L c) (h1 : (∀ c, a ≤ c → c < b → L (8 * o + c) < s) → K 1 S) (h0 : ¬ (∀ c, a ≤ c → c < b → L (8 * o + c) < s) → K 0 S) : wI (d + 2) 244 [.inr (.inr 153), .inl o, .inl a, .inl b, .inl s] S Q K :=
  c244 (b244_0 (l244 o0 o5 a0 b40 hL h1 h0 40 a (Int.le_refl _) (by omega) (fun c c0 c1 _ => absurd c1 (by omega))))
theorem l245_9 {L : Int → Int} {o a b : Int} (o0 : 0 ≤ o) (o5 : o < 5) (a0 : 0 ≤ a) (b8 : b ≤ 8) (hL : ∀ c, 0 ≤ c → c < 40 → S 191 c = L c) (h8 : ∀ c, 0 ≤ L c ∧ L c ≤ 100) (hq : ∀ σ', (∀ k, k ≠ 191 → σ' k = S k) → (∀ c, 0 ≤ c → c < 40 → σ' 191 c = lod L (8 * o + a) (8 * o + b) c) → Q (.inl (some (.inl 1))) σ') : ∀ (m : Nat) (x : Int) (σ : dS), a ≤ x → b ≤ x + m → x ≤ b → (∀ k, k ≠ 191 → σ k = S k) → (∀ c, 0 ≤ c → c < 40 → σ 191 c = lod L (8 * o + a) (8 * o + x) c) → B245_9 d Q o b x σ
  | m, x, σ, ax, hx, xb, hF, hB => by
    have fin : b = x → B245_10 d Q σ := by
      intro e
      subst e
      exact b245_10 ⟨Or.inr rfl, hq σ hF hB⟩
    match m, hx with
    | 0, hx => exact b245_9 ⟨fun _ => fin (by omega), fun z => absurd (by omega) z⟩
    | m + 1, hx =>
      have ew : wr (wr (8 * o) + x) = 8 * o + x := by rw [wr_id (x := 8 * o) (by omega) (by omega), wr_id (by omega) (by omega)]
      refine b245_9 ⟨fun z => fin (by omega), fun z => ?_⟩
      have e0 := hB (8 * o + x) (by omega) (by omega)
      have ex : lod L (8 * o + a) (8 * o + x) (8 * o + x) = L (8 * o + x) := by unfold lod; rw [if_neg (by omega)]
      have l8 := h8 (8 * o + x)
      rw [ew, e0, ex, wr_id (x := L (8 * o + x) + 1) (by omega) (by omega), wr_id (x := x + 1) (by omega) (by omega)]
      refine ⟨by omega, by omega, by omega, by omega, fun σ1 f1 => ?_⟩
      refine l245_9 o0 o5 a0 b8 hL h8 hq m (x + 1) σ1 (by omega) (by omega) (by omega) (fun k hk => by rw [f1, up_k hk]; exact hF k hk) (fun c c0 c1 => ?_)
      rw [f1]
      by_cases e : c = 8 * o + x
      · subst e
        rw [up_same]
        unfold lod
        rw [if_pos ⟨by omega, by omega⟩]
      · rw [up_i e, hB c c0 c1]
        unfold lod
        by_cases w : 8 * o + a ≤ c ∧ c < 8 * o + x
        · rw [if_pos w, if_pos ⟨w.1, by omega⟩]
        · rw [if_neg w, if_neg (by omega)]
def bo (b : Int) : Int := if b = -1 then -1 else b / 8
def bj (b : Int) : Int := if b = -1 then -1 else b % 8
theorem l245_2 {L : Int → Int} {s o : Int} (hc : cityOK V) (hs : skyOK V 109) (hM : MN S V) (p0 : 0 ≤ p) (p1 : p < V 5 3) (o0 : 0 ≤ o) (o1 : o < V 5 2) (hn : ¬ nestb V 109 o) (hL : ∀ c, 0 ≤ c → c < 40 → S 191 c = L c) (hq : ∀ n : Nat, (n : Int) = 8 * o + V 15 o → B245_6 (d + 3) Q p s (bo (sbt V L p s n)) (bj (sbt V L p s n)) o S) : ∀ (m : Nat) (j : Int) (n : Nat), (n : Int) = 8 * o + j → 0 ≤ j → j + m = V 15 o → B245_2 (d + 3) Q p s (bo (sbt V L p s n)) (bj (sbt V L p s n)) o j S
  | 0, j, n, en, j0, hj => by
    have hO := hc.2.1
    have mo := hM.1.2.2.2.2.2.2.1 o o0 o1
    exact b245_2 ⟨o0, by omega, fun _ => hq n (by omega), fun z => absurd (by rw [mo.2.1]; omega) z⟩
  | m + 1, j, n, en, j0, hj => by
    have hO := hc.2.1
    have hP := hc.2.2.1
    have kb := hc.2.2.2.2.2.1 o o0 o1
    have mo := hM.1.2.2.2.2.2.2.1 o o0 o1
    have ih := l245_2 hc hs hM p0 p1 o0 o1 hn hL hq m (j + 1) (n + 1) (by omega) (by omega) (by omega)
    have ew : wr (j + 1) = j + 1 := wr_id (by omega) (by omega)
    have ec : wr (wr (8 * o) + j) = (n : Int) := by rw [wr_id (x := 8 * o) (by omega) (by omega), wr_id (by omega) (by omega)]; omega
    have cd : (n : Int) / 8 = o := by omega
    have cm : (n : Int) % 8 = j := by omega
    have cl := hM.2.2.2.2 o j o0 o1 hn j0 (by rw [(NF_done hc hs).2 _ o0 o1]; omega)
    have es : sbt V L p s (n + 1) = if cnv V L p s (n : Int) = 1 ∧ (sbt V L p s n = -1 ∨ NF V 109 4 (n : Int) < NF V 109 4 (sbt V L p s n)) then (n : Int) else sbt V L p s n := rfl
    have no : ¬ (cnv V L p s (n : Int) = 1 ∧ (sbt V L p s n = -1 ∨ NF V 109 4 (n : Int) < NF V 109 4 (sbt V L p s n))) → B245_5 (d + 3) Q p s (bo (sbt V L p s n)) (bj (sbt V L p s n)) o j S := by
      intro z
      rw [if_neg z] at es
      rw [es] at ih
      refine b245_5 ?_
      rw [ew]; exact ih
    have non : ¬ cnd V L p s (n : Int) → B245_5 (d + 3) Q p s (bo (sbt V L p s n)) (bj (sbt V L p s n)) o j S := fun z => no (fun q => by have := q.1; rw [cnv_n z] at this; exact absurd this (by decide))
    have e157 : S 157 (n : Int) = V 17 (n : Int) := by rw [en]; exact mo.2.2 _ j0 (by omega)
    have e180 : S 180 (n : Int) = NF V 109 4 (n : Int) := by rw [en]; exact cl.1
    have onr := onf_r V p o j.toNat
    have o5 : o < 5 := by omega
    have j8 : j < 8 := by omega
    have jk : j < V 15 o := by omega
    refine b245_2 ⟨o0, o5, fun z => absurd z (by rw [mo.2.1]; omega), fun _ => w202 (V := V) hM.2.1.2.2.2.1 ?_⟩
    rw [if_neg hn]
    refine ⟨fun z => absurd rfl z, fun _ => w243 hc hs hM p0 p1 o0 o1 hn j0 (by omega) ?_⟩
    rw [ec]
    refine ⟨by omega, by omega, w210 hc hM.1 p0 p1 ?_⟩
    rw [e157, e180, hM.1.2.2.2.2.1]
    have c5 : ¬ NF V 109 4 (n : Int) ≤ V 5 4 → ¬ cnd V L p s (n : Int) := fun q u => q u.2.2.2.1
    refine ⟨fun z => non (fun q => z q.2.2.1), fun z => ⟨by omega, by omega, fun y => non (c5 (by omega)), fun y => ⟨fun w => non (fun q => ?_), fun w => w244 (L := L) o0 o5 (by omega) (by omega) hL (fun hr => ⟨fun _ => b245_3 ?_, fun q => absurd (by decide) q⟩) (fun hr => ⟨fun q => absurd rfl q, fun _ => non (fun u => hr (fun c c0 c1 => ?_))⟩)⟩⟩⟩
    · have := q.2.2.2.2.1
      rw [cd, cm] at this
      exact this w
    · have cc : cnd V L p s (n : Int) := by
        refine ⟨by rw [cd]; exact hn, by rw [cm, cd]; exact jk, Decidable.of_not_not z, by omega, by rw [cd, cm]; exact w, fun k k0 k1 => ?_⟩
        rw [cd, cm] at k0
        rw [cm] at k1
        rw [cd]
        exact hr k k0 k1
      have yes : (sbt V L p s n = -1 ∨ NF V 109 4 (n : Int) < NF V 109 4 (sbt V L p s n)) → B245_4 (d + 3) Q p s o j S := by
        intro q
        rw [if_pos ⟨cnv_y cc, q⟩] at es
        rw [es] at ih
        have cn : ¬ (n : Int) = -1 := by omega
        have e1 : bo (n : Int) = o := by unfold bo; rw [if_neg cn, cd]
        have e2 : bj (n : Int) = j := by unfold bj; rw [if_neg cn, cm]
        rw [e1, e2] at ih
        refine b245_4 (b245_5 ?_)
        rw [ew]; exact ih
      by_cases q : sbt V L p s n = -1
      · have e1 : bo (sbt V L p s n) = -1 := by unfold bo; rw [if_pos q]
        refine ⟨fun _ => yes (Or.inl q), fun u => absurd e1 u⟩
      · have sr := (sbt_r V L p s n).resolve_left q
        have e1 : bo (sbt V L p s n) = sbt V L p s n / 8 := by unfold bo; rw [if_neg q]
        have e2 : bj (sbt V L p s n) = sbt V L p s n % 8 := by unfold bj; rw [if_neg q]
        have s0 := sr.1
        have s1 := sr.2.1
        have s3 := sr.2.2
        have sO : sbt V L p s n / 8 < V 5 2 := by clear es ih kb mo; omega
        have s40 : sbt V L p s n < 40 := by clear es ih kb mo; omega
        have cl2 := hM.2.2.2.2 (sbt V L p s n / 8) (sbt V L p s n % 8) (by clear es ih kb mo; omega) sO s3.1 (by clear es ih kb mo; omega) (by rw [(NF_done hc hs).2 _ (by clear es ih kb mo; omega) sO]; exact s3.2.1)
        have ev : 8 * (sbt V L p s n / 8) + sbt V L p s n % 8 = sbt V L p s n := by clear es ih kb mo; omega
        rw [ev] at cl2
        have ew2 : wr (wr (8 * bo (sbt V L p s n)) + bj (sbt V L p s n)) = sbt V L p s n := by
          rw [e1, e2, wr_id (x := 8 * (sbt V L p s n / 8)) (by clear es ih kb mo; omega) (by clear es ih kb mo; omega), ev, wr_id (by clear es ih kb mo; omega) (by clear es ih kb mo; omega)]
        refine ⟨fun u => absurd u (by rw [e1]; clear es ih kb mo; omega), fun _ => ?_⟩
        rw [ec, ew2, e180, cl2.1]
        exact ⟨by omega, by omega, s0, s40, fun u => yes (Or.inr u), fun u => no (fun v => v.2.elim q u)⟩
    · have := u.2.2.2.2.2 c (by rw [cd, cm]; exact c0) (by rw [cm]; exact c1)
      rw [cd] at this
      exact this
theorem sk_a {L : Int → Int} {s o : Int} {n : Nat} (en : (n : Int) = 8 * o) (hn : nestb V 109 o) : sbt V L p s (n + 8) = sbt V L p s n :=
  sbt_skip (V := V) (L := L) (p := p) (s := s) (a := n) 8 (fun c c1 c2 q => by
    have e : (c : Int) / 8 = o := by omega
    have := q.1
    rw [e] at this
    exact this hn)
theorem sk_b {L : Int → Int} {s o : Int} {n : Nat} (en : (n : Int) = 8 * o) : sbt V L p s (n + 1) = sbt V L p s n :=
  sbt_skip (V := V) (L := L) (p := p) (s := s) (a := n) 1 (fun c c1 c2 q => by
    have e : (c : Int) % 8 = 0 := by omega
    have := q.2.2.2.2.1
    rw [e] at this
    exact this rfl)
theorem sk_c {L : Int → Int} {s o : Int} {n k : Nat} (k8 : k ≤ 8) (ek : (k : Int) = V 15 o) (en : (n : Int) = 8 * o + V 15 o) : sbt V L p s (n + (8 - k)) = sbt V L p s n :=
  sbt_skip (V := V) (L := L) (p := p) (s := s) (a := n) (8 - k) (fun c c1 c2 q => by
    have e : (c : Int) / 8 = o := by omega
    have := q.2.1
    rw [e] at this
    omega)
theorem l245_1 {L : Int → Int} {s : Int} (hc : cityOK V) (hs : skyOK V 109) (hM : MN S V) (p0 : 0 ≤ p) (p1 : p < V 5 3) (hL : ∀ c, 0 ≤ c → c < 40 → S 191 c = L c) (hq : B245_7 (d + 3) Q p (bo (sbt V L p s (8 * (V 5 2).toNat))) (bj (sbt V L p s (8 * (V 5 2).toNat))) S) : ∀ (m : Nat) (o : Int) (n : Nat), (n : Int) = 8 * o → 0 ≤ o → o + m = V 5 2 → B245_1 (d + 3) Q p s (bo (sbt V L p s n)) (bj (sbt V L p s n)) o S
  | 0, o, n, en, o0, ho => by
    have e3 := hM.1.2.1
    have eo : n = 8 * (V 5 2).toNat := by omega
    refine b245_1 ⟨fun _ => ?_, fun z => absurd (by omega) z⟩
    rw [eo]; exact hq
  | m + 1, o, n, en, o0, ho => by
    have hO := hc.2.1
    have e3 := hM.1.2.1
    have o1 : o < V 5 2 := by omega
    have kb := (hc.2.2.2.2.2.1 o o0 o1).2.1
    have mo := hM.1.2.2.2.2.2.2.1 o o0 o1
    have ih := l245_1 hc hs hM p0 p1 hL hq m (o + 1) (n + 8) (by omega) (by omega) (by omega)
    have ew : wr (o + 1) = o + 1 := wr_id (by omega) (by omega)
    refine b245_1 ⟨fun z => absurd z (by omega), fun _ => ?_⟩
    by_cases hn : nestb V 109 o
    · rw [sk_a en hn] at ih
      have nx : B245_6 (d + 3) Q p s (bo (sbt V L p s n)) (bj (sbt V L p s n)) o S := by
        refine b245_6 ?_
        rw [ew]; exact ih
      refine b245_2 ⟨o0, by omega, fun _ => nx, fun _ => w202 (V := V) hM.2.1.2.2.2.1 ?_⟩
      rw [if_pos hn]
      exact ⟨fun _ => nx, fun q => absurd (by decide) q⟩
    · have := l245_2 (d := d) (Q := Q) (s := s) hc hs hM p0 p1 o0 o1 hn hL (fun n2 en2 => b245_6 (by
        have e8 : n2 + (8 - (V 15 o).toNat) = n + 8 := by omega
        have sc := sk_c (V := V) (L := L) (p := p) (s := s) (n := n2) (k := (V 15 o).toNat) (by omega) (by omega) en2
        rw [e8] at sc
        rw [sc] at ih
        rw [ew]; exact ih)) (V 15 o - 1).toNat 1 (n + 1) (by omega) (by omega) (by omega)
      rw [sk_b en] at this
      exact this
theorem w245 {K : Int → dS → Prop} {L : Int → Int} {s : Int} (hc : cityOK V) (hs : skyOK V 109) (hM : MN S V) (p0 : 0 ≤ p) (p1 : p < V 5 3) (hL : ∀ c, 0 ≤ c → c < 40 → S 191 c = L c) (h8 : ∀ c, 0 ≤ L c ∧ L c ≤ 100) (h : ∀ σ', (∀ k, k ≠ 191 → σ' k = S k) → (∀ c, 0 ≤ c → c < 40 → σ' 191 c = stL V L p (sbt V L p s (8 * (V 5 2).toNat)) c) → K (if sbt V L p s (8 * (V 5 2).toNat) = -1 then 0 else 1) σ') : wI (d + 5) 245 [.inr (.inr 153), .inl p, .inl s] S Q K := by
  have hO := hc.2.1
  refine c245 (b245_0 ?_)
  have sr := sbt_r V L p s (8 * (V 5 2).toNat)
  refine l245_1 (L := L) (s := s) hc hs hM p0 p1 hL (b245_7 ?_) (V 5 2).toNat 0 0 (by omega) (by omega) (by omega)
  unfold stL at h
  generalize hb : sbt V L p s (8 * (V 5 2).toNat) = b at *
  by_cases z : b = -1
  · have hh := h S (fun _ _ => rfl) (fun c c0 c1 => by rw [if_pos z]; exact hL c c0 c1)
    rw [if_pos z] at hh
    refine ⟨fun q => absurd ?_ q, fun _ => ⟨Or.inl rfl, hh⟩⟩
    unfold bo; rw [if_pos z]
  · have q := sr.resolve_left z
    have e1 : bo b = b / 8 := by unfold bo; rw [if_neg z]
    have e2 : bj b = b % 8 := by unfold bj; rw [if_neg z]
    have onr := onf_r V p (b / 8) (b % 8).toNat
    have onn := q.2.2.2.2.2.2.1
    have hn := q.2.2.1
    have hl := q.2.2.2.1
    rw [e1, e2]
    refine ⟨fun _ => b245_8 (w243 hc hs hM p0 p1 (by omega) (by omega) hn (by omega) (by omega) ?_), fun y => absurd (by omega) y⟩
    have ev : 8 * (b / 8) + b % 8 = b := by omega
    refine l245_9 (L := L) (a := onf V p (b / 8) (b % 8).toNat) (by omega) (by omega) (by omega) (by omega) hL h8 (fun σ' g1 g2 => ?_) 8 _ S (Int.le_refl _) (by omega) (by omega) (fun _ _ => rfl) (fun c c0 c1 => ?_)
    · rw [ev] at g2
      have hh := h σ' g1 (fun c c0 c1 => by rw [if_neg z]; exact g2 c c0 c1)
      rw [if_neg z] at hh
      exact hh
    · unfold lod
      rw [if_neg (by omega)]; exact hL c c0 c1
theorem l246_4 {S0 : dS} {s : Int} (hc : cityOK V) (hs : skyOK V 109) (hM : MN S0 V) (hq : ∀ σ', (∀ k, k ≠ 191 → σ' k = S0 k) → Q (.inl (some (.inl (stn V s (V 5 3).toNat).2))) σ') : ∀ (c p : Nat) (S : dS), (p : Int) + c = V 5 3 → (∀ k, k ≠ 191 → S k = S0 k) → (∀ j, 0 ≤ j → j < 40 → S 191 j = (stn V s p).1 j) → B246_4 (d + 4) Q s (stn V s p).2 (p : Int) S
  | 0, p, S, hp, hF, hB => by
    have e4 : S 153 4 = V 5 3 := by rw [hF 153 (by decide)]; exact hM.1.2.2.1
    have ep : p = (V 5 3).toNat := by omega
    refine b246_4 ⟨fun _ => b246_10 ?_, fun z => absurd (by omega) z⟩
    rw [ep]; exact hq S hF
  | c + 1, p, S, hp, hF, hB => by
    have hP := hc.2.2.1
    have hM' : MN S V := MN_k (fun k h1 h2 => hF k (by omega)) hM
    have e4 : S 153 4 = V 5 3 := hM'.1.2.2.1
    have e6 : S 153 6 = V 5 4 := hM'.1.2.2.2.2.1
    have ew : wr ((p : Int) + 1) = ((p + 1 : Nat) : Int) := by rw [wr_id (by omega) (by omega)]; omega
    have sr := stn_r V s p
    have pp0 : (0 : Int) ≤ (p : Int) := by omega
    have pp1 : (p : Int) < V 5 3 := by omega
    have e42 : wr (wr (4 * (p : Int)) + 2) = 4 * (p : Int) + 2 := by rw [wr_id (x := 4 * (p : Int)) (by omega) (by omega), wr_id (by omega) (by omega)]
    have b1 : 0 ≤ 4 * (p : Int) + 2 := by omega
    have b2 : 4 * (p : Int) + 2 < 32 := by omega
    have ww : ∀ x, 0 ≤ x → x ≤ 1 → wr ((stn V s p).2 + x) = (stn V s p).2 + x := fun x x0 x1 => wr_id (by omega) (by omega)
    refine b246_4 ⟨fun z => absurd z (by omega), fun _ => w212 hc hM'.1 pp0 pp1 ?_⟩
    by_cases z : V 19 (p : Int) = V 21 (p : Int)
    · rw [if_pos z]
      have es : stn V s (p + 1) = ((stn V s p).1, (stn V s p).2 + (if V 23 (p : Int) ≤ V 5 4 then 1 else 0)) := by rw [stn, if_pos z]
      have ih := l246_4 hc hs hM hq c (p + 1) S (by omega) hF (fun j j0 j1 => by rw [es]; exact hB j j0 j1)
      rw [es] at ih
      refine ⟨fun q => absurd q (by decide), fun _ => ?_⟩
      rw [e42, (hM'.1.2.2.2.2.2.2.2.1 (p : Int) pp0 pp1).2.2.1, e6]
      refine ⟨b1, b2, fun y => b246_5 (b246_7 ⟨fun _ => b246_8 (b246_9 ?_), fun q => absurd rfl q⟩), fun y => b246_7 ⟨fun q => absurd q (by decide), fun _ => b246_9 ?_⟩⟩
      · rw [if_neg (by omega)] at ih
        rw [ew, ww 0 (by decide) (by decide)]; exact ih
      · rw [if_pos (by omega)] at ih
        rw [ew, ww 1 (by decide) (by decide)]; exact ih
    · rw [if_neg z]
      refine ⟨fun _ => b246_6 (w245 (L := (stn V s p).1) hc hs hM' pp0 pp1 hB (fun j => by have := sr.2 j; omega) (fun σ1 g1 g2 => ?_)), fun q => absurd rfl q⟩
      have es : stn V s (p + 1) = if sbt V (stn V s p).1 (p : Int) s (8 * (V 5 2).toNat) = -1 then stn V s p else (lod (stn V s p).1 (8 * (sbt V (stn V s p).1 (p : Int) s (8 * (V 5 2).toNat) / 8) + onf V (p : Int) (sbt V (stn V s p).1 (p : Int) s (8 * (V 5 2).toNat) / 8) (sbt V (stn V s p).1 (p : Int) s (8 * (V 5 2).toNat) % 8).toNat) (sbt V (stn V s p).1 (p : Int) s (8 * (V 5 2).toNat)), (stn V s p).2 + 1) := by rw [stn, if_neg z]
      unfold stL at g2
      have F1 : ∀ k, k ≠ 191 → σ1 k = S0 k := fun k hk => by rw [g1 k hk]; exact hF k hk
      by_cases y : sbt V (stn V s p).1 (p : Int) s (8 * (V 5 2).toNat) = -1
      · rw [if_pos y] at es g2 ⊢
        have ih := l246_4 hc hs hM hq c (p + 1) σ1 (by omega) F1 (fun j j0 j1 => by rw [es]; exact g2 j j0 j1)
        rw [es] at ih
        refine b246_7 ⟨fun _ => b246_8 (b246_9 ?_), fun q => absurd rfl q⟩
        have w0 := ww 0 (by decide) (by decide)
        rw [Int.add_zero] at w0
        rw [ew, Int.add_zero, w0]; exact ih
      · rw [if_neg y] at es g2 ⊢
        have ih := l246_4 hc hs hM hq c (p + 1) σ1 (by omega) F1 (fun j j0 j1 => by rw [es]; exact g2 j j0 j1)
        rw [es] at ih
        refine b246_7 ⟨fun q => absurd q (by decide), fun _ => b246_9 ?_⟩
        rw [ew, ww 1 (by decide) (by decide)]; exact ih
theorem l246_2 {s : Int} (hq : ∀ σ', (∀ k, k ≠ 191 → σ' k = S k) → (∀ r, 0 ≤ r → r < 40 → σ' 191 r = 0) → B246_3 d Q s σ') : ∀ (c : Nat) (x : Int) (σ : dS), 0 ≤ x → x + c = 40 → (∀ k, k ≠ 191 → σ k = S k) → (∀ r, 0 ≤ r → r < x → σ 191 r = 0) → B246_2 d Q s x σ
  | 0, x, σ, x0, hx, hF, hB => b246_2 ⟨fun _ => hq σ hF (fun r r0 r1 => hB r r0 (by omega)), fun z => absurd (by omega) z⟩
  | c + 1, x, σ, x0, hx, hF, hB => by
    refine b246_2 ⟨fun z => absurd z (by omega), fun _ => ⟨x0, by omega, fun σ1 f1 => ?_⟩⟩
    rw [wr_id (by omega) (by omega)]
    refine l246_2 hq c (x + 1) σ1 (by omega) (by omega) (fun k hk => by rw [f1, up_k hk]; exact hF k hk) (fun r r0 r1 => ?_)
    rw [f1]
    by_cases e : r = x
    · subst e; rw [up_same]
    · rw [up_i e]; exact hB r r0 (by omega)
theorem m_straps {K : Int → dS → Prop} {s : Int} (hI : INV σ) (h1 : 1 ≤ s → s ≤ 8 → ∀ σ', FRM σ σ' → σ' 153 0 = 0 → K (stn (nrm σ 70) s (σ 5 3).toNat).2 σ') (h2 : ¬ (1 ≤ s ∧ s ≤ 8) → ∀ σ', FRM σ σ' → σ' 153 0 = 1 → K 0 σ') : wI (d + 9) 246 [.inr (.inr 153), .inl s] σ Q K := by
  have hP := (INV_vc hI).2.2.1
  have e5' : nrm σ 70 5 3 = σ 5 3 := by rw [nrm_c (k := 5) (by decide)]
  refine c246 (b246_0 ?_)
  intro σ1 f1
  obtain ⟨hT, hF1, hI1, en, e5, e1, e3, e4⟩ := m_begin hI f1
  refine w159 (fun s1 s8 => w158 hT (by decide) (fun _ => ⟨fun _ => b246_1 ?_, fun q => absurd (by decide) q⟩) (fun q => absurd q (by decide))) (fun z => w158 hT (by decide) (fun q => absurd rfl q) (fun _ => ⟨fun q => absurd rfl q, fun _ => h2 z _ (FRM_tr hF1 FRM_153) (up_same _ _ _ _)⟩))
  refine v205 hI1 (fun σ2 g1 g2 g3 => ?_)
  rw [en] at g3
  refine l246_2 (fun σ3 g4 g5 => b246_3 ?_) 40 0 σ2 (by omega) (by omega) (fun _ _ => rfl) (fun r r0 r1 => absurd r1 (by omega))
  have hM3 : MN σ3 (nrm σ 70) := MN_k (fun k q1 q2 => g4 k (by omega)) g3
  refine l246_4 (d := d + 3) (S0 := σ3) (V := nrm σ 70) (s := s) (INV_vc hI) (INV_vs hI) hM3 (fun σ' g6 => ?_) (nrm σ 70 5 3).toNat 0 σ3 (by omega) (fun _ _ => rfl) (fun j j0 j1 => by rw [g5 j j0 j1]; rfl)
  rw [e5']
  refine h1 s1 s8 σ' (FRM_tr (FRM_tr hF1 g1) (FRM_m (fun k hk _ => by rw [g6 k (by omega), g4 k (by omega)]) (fun j _ => by rw [g6 153 (by decide), g4 153 (by decide)]))) ?_
  rw [g6 153 (by decide), g4 153 (by decide), g2 153 (by decide)]; exact hT
end STRAPM
