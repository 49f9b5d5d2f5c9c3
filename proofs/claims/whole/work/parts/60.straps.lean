/-! STRAPS -/
def onf (V : dS) (p o : Int) : Nat → Int
  | 0 => -1
  | k + 1 => if V 17 (8 * o + (k : Int)) = V 19 p ∧ V 23 p ≤ NF V 109 5 (8 * o + (k : Int)) then (k : Int) else onf V p o k
theorem onf_r (V : dS) (p o : Int) : ∀ k : Nat, onf V p o k = -1 ∨ (0 ≤ onf V p o k ∧ onf V p o k < k)
  | 0 => Or.inl rfl
  | k + 1 => by
    have := onf_r V p o k
    unfold onf
    by_cases z : V 17 (8 * o + (k : Int)) = V 19 p ∧ V 23 p ≤ NF V 109 5 (8 * o + (k : Int))
    · rw [if_pos z]; omega
    · rw [if_neg z]; omega
def cnd (V : dS) (L : Int → Int) (p s c : Int) : Prop := ¬ nestb V 109 (c / 8) ∧ c % 8 < V 15 (c / 8) ∧ V 17 c = V 21 p ∧ NF V 109 4 c ≤ V 5 4 ∧ onf V p (c / 8) (c % 8).toNat ≠ -1 ∧ ∀ k, onf V p (c / 8) (c % 8).toNat ≤ k → k < c % 8 → L (8 * (c / 8) + k) < s
noncomputable def cnv (V : dS) (L : Int → Int) (p s c : Int) : Int := @ite Int (cnd V L p s c) (Classical.propDecidable _) 1 0
theorem cnv_y {V : dS} {L : Int → Int} {p s c : Int} (h : cnd V L p s c) : cnv V L p s c = 1 := by unfold cnv; exact if_pos h
theorem cnv_n {V : dS} {L : Int → Int} {p s c : Int} (h : ¬ cnd V L p s c) : cnv V L p s c = 0 := by unfold cnv; exact if_neg h
noncomputable def sbt (V : dS) (L : Int → Int) (p s : Int) : Nat → Int
  | 0 => -1
  | c + 1 => if cnv V L p s (c : Int) = 1 ∧ (sbt V L p s c = -1 ∨ NF V 109 4 (c : Int) < NF V 109 4 (sbt V L p s c)) then (c : Int) else sbt V L p s c
theorem sbt_r (V : dS) (L : Int → Int) (p s : Int) : ∀ c : Nat, sbt V L p s c = -1 ∨ (0 ≤ sbt V L p s c ∧ sbt V L p s c < c ∧ cnd V L p s (sbt V L p s c))
  | 0 => Or.inl rfl
  | c + 1 => by
    have ih := sbt_r V L p s c
    unfold sbt
    by_cases z : cnv V L p s (c : Int) = 1 ∧ (sbt V L p s c = -1 ∨ NF V 109 4 (c : Int) < NF V 109 4 (sbt V L p s c))
    · rw [if_pos z]
      refine Or.inr ⟨by omega, by omega, ?_⟩
      refine Decidable.byContradiction (dec := Classical.propDecidable _) (fun q => ?_)
      have := z.1
      rw [cnv_n q] at this
      exact absurd this (by decide)
    · rw [if_neg z]
      rcases ih with q | q
      · exact Or.inl q
      · exact Or.inr ⟨q.1, by omega, q.2.2⟩
theorem sbt_skip {V : dS} {L : Int → Int} {p s : Int} {a : Nat} : ∀ m : Nat, (∀ c : Nat, a ≤ c → c < a + m → ¬ cnd V L p s (c : Int)) → sbt V L p s (a + m) = sbt V L p s a
  | 0, _ => rfl
  | m + 1, h => by
    have ih := sbt_skip m (fun c h1 h2 => h c h1 (by omega))
    show sbt V L p s (a + m + 1) = _
    rw [sbt, if_neg, ih]
    intro q
    have := q.1
    rw [cnv_n (h (a + m) (by omega) (by omega))] at this
    exact absurd this (by decide)
def lod (L : Int → Int) (a b : Int) : Int → Int := fun c => if a ≤ c ∧ c < b then L c + 1 else L c
noncomputable def stn (V : dS) (s : Int) : Nat → (Int → Int) × Int
  | 0 => (fun _ => 0, 0)
  | p + 1 => if V 19 (p : Int) = V 21 (p : Int) then ((stn V s p).1, (stn V s p).2 + (if V 23 (p : Int) ≤ V 5 4 then 1 else 0)) else if sbt V (stn V s p).1 (p : Int) s (8 * (V 5 2).toNat) = -1 then stn V s p else (lod (stn V s p).1 (8 * (sbt V (stn V s p).1 (p : Int) s (8 * (V 5 2).toNat) / 8) + onf V (p : Int) (sbt V (stn V s p).1 (p : Int) s (8 * (V 5 2).toNat) / 8) (sbt V (stn V s p).1 (p : Int) s (8 * (V 5 2).toNat) % 8).toNat) (sbt V (stn V s p).1 (p : Int) s (8 * (V 5 2).toNat)), (stn V s p).2 + 1)
theorem stn_r (V : dS) (s : Int) : ∀ p : Nat, (0 ≤ (stn V s p).2 ∧ (stn V s p).2 ≤ p) ∧ ∀ c, 0 ≤ (stn V s p).1 c ∧ (stn V s p).1 c ≤ p
  | 0 => ⟨⟨Int.le_refl _, Int.le_refl _⟩, fun c => ⟨Int.le_refl _, Int.le_refl _⟩⟩
  | p + 1 => by
    obtain ⟨h1, h2⟩ := stn_r V s p
    rw [stn]
    by_cases z : V 19 (p : Int) = V 21 (p : Int)
    · rw [if_pos z]
      refine ⟨?_, fun c => by have := h2 c; show 0 ≤ (stn V s p).1 c ∧ (stn V s p).1 c ≤ _; omega⟩
      by_cases y : V 23 (p : Int) ≤ V 5 4
      · rw [if_pos y]
        show 0 ≤ (stn V s p).2 + 1 ∧ (stn V s p).2 + 1 ≤ _
        omega
      · rw [if_neg y]
        show 0 ≤ (stn V s p).2 + 0 ∧ (stn V s p).2 + 0 ≤ _
        omega
    · rw [if_neg z]
      by_cases y : sbt V (stn V s p).1 (p : Int) s (8 * (V 5 2).toNat) = -1
      · rw [if_pos y]
        exact ⟨by omega, fun c => by have := h2 c; omega⟩
      · rw [if_neg y]
        refine ⟨?_, fun c => ?_⟩
        · show 0 ≤ (stn V s p).2 + 1 ∧ (stn V s p).2 + 1 ≤ _
          omega
        · have := h2 c
          show 0 ≤ lod _ _ _ c ∧ lod _ _ _ c ≤ _
          unfold lod
          split
          · omega
          · omega
section STRAPS
variable {d : Nat} {Q : dR → dS → Prop} {σ V S : dS} {p : Int}
/-! the class -/
theorem l89 {o j : Int} (hc : cityOK V) (hs : skyOK V 109) (hV : ∀ k, cty k → S k = V k) (hR : RC S V (NF V 109)) (p0 : 0 ≤ p) (p1 : p < V 5 3) (hj : okc V o j) (hq : Q (.inl (some (.inl (if onf V p o j.toNat = -1 then -1 else 8 * o + onf V p o j.toNat)))) S) : ∀ k : Nat, (k : Int) ≤ j → onf V p o j.toNat = onf V p o k → B89_1 d Q p (8 * o + j) (8 * o + (k : Int) - 1) S
  | 0, hk, he => by
    have hO := hc.2.1
    have kb := hc.2.2.2.2.2.1 o hj.1 hj.2.1
    have := hj
    unfold okc at this
    have e8 : irm (8 * o + j) 8 = j := by rw [irm_pos (by omega) (by omega) (by omega) (by omega)]; omega
    rw [he, onf, if_pos rfl] at hq
    refine b89_1 ⟨by decide, fun _ => b89_3 hq, fun z => absurd ?_ z⟩
    rw [e8, wr_id (by omega) (by omega)]
    omega
  | k + 1, hk, he => by
    have hO := hc.2.1
    have hP := hc.2.2.1
    have kb := hc.2.2.2.2.2.1 o hj.1 hj.2.1
    have bj := hj
    unfold okc at bj
    have e8 : irm (8 * o + j) 8 = j := by rw [irm_pos (by omega) (by omega) (by omega) (by omega)]; omega
    have ek : 8 * o + ((k + 1 : Nat) : Int) - 1 = 8 * o + (k : Int) := by omega
    have cl := hR.2.2.1 o (k : Int) hj.1 hj.2.1 hj.2.2.1 (by omega) (by rw [(NF_done hc hs).2 o hj.1 hj.2.1]; omega)
    have e17 : rat S 17 40 (8 * o + (k : Int)) = V 17 (8 * o + (k : Int)) := by rw [rat_in (by omega) (by omega), hV 17 (by decide)]
    have e118 : rat S 118 40 (8 * o + (k : Int)) = NF V 109 5 (8 * o + (k : Int)) := by rw [rat_in (by omega) (by omega), cl.2]
    have e19 : rat S 19 8 p = V 19 p := by rw [rat_in p0 (by omega), hV 19 (by decide)]
    have e23 : rat S 23 8 p = V 23 p := by rw [rat_in p0 (by omega), hV 23 (by decide)]
    rw [onf] at he
    have next : ¬ (V 17 (8 * o + (k : Int)) = V 19 p ∧ V 23 p ≤ NF V 109 5 (8 * o + (k : Int))) → B89_2 d Q p (8 * o + j) (8 * o + (k : Int)) S := by
      intro z
      rw [if_neg z] at he
      refine b89_2 ?_
      rw [wr_id (by omega) (by omega)]
      exact l89 hc hs hV hR p0 p1 hj hq k (by omega) he
    rw [ek]
    refine b89_1 ⟨by decide, fun z => absurd z ?_, fun _ => ?_⟩
    · rw [e8, wr_id (by omega) (by omega)]; omega
    rw [e17, e19, e118, e23]
    refine ⟨fun z => next (fun q => z q.1), fun z => ⟨fun y => next (fun q => by omega), fun y => ?_⟩⟩
    rw [if_pos ⟨Decidable.of_not_not z, by omega⟩] at he
    rw [he, if_neg (by omega)] at hq
    exact hq
theorem w89 {K : Int → dS → Prop} {o j : Int} (hc : cityOK V) (hs : skyOK V 109) (hV : ∀ k, cty k → S k = V k) (hR : RC S V (NF V 109)) (p0 : 0 ≤ p) (p1 : p < V 5 3) (hj : okc V o j) (h : K (if onf V p o j.toNat = -1 then -1 else 8 * o + onf V p o j.toNat) S) : wI (d + 2) 89 [.inr (.inr 133), .inl p, .inl (8 * o + j)] S Q K := by
  have hO := hc.2.1
  have kb := hc.2.2.2.2.2.1 o hj.1 hj.2.1
  have bj := hj
  unfold okc at bj
  refine c89 (b89_0 ?_)
  rw [wr_id (by omega) (by omega)]
  have := l89 (d := d) (Q := fun res σ1 => match res with | .inl (some (.inl v)) => K v σ1 | .inl _ => False | .inr e => Q (.inr e) σ1) hc hs hV hR p0 p1 hj h j.toNat (by omega) rfl
  have e : ((j.toNat : Nat) : Int) = j := by omega
  rw [e] at this
  exact this
theorem l90 {L : Int → Int} {s a b : Int} (a0 : 0 ≤ a) (b40 : b ≤ 40) (hL : ∀ c, 0 ≤ c → c < 40 → S 141 c = L c) (h1 : (∀ c, a ≤ c → c < b → L c < s) → Q (.inl (some (.inl 1))) S) (h0 : ¬ (∀ c, a ≤ c → c < b → L c < s) → Q (.inl (some (.inl 0))) S) : ∀ (m : Nat) (x : Int), a ≤ x → b ≤ x + m → (∀ c, a ≤ c → c < x → c < b → L c < s) → B90_1 d Q b s x S
  | 0, x, ax, hx, hk => b90_1 ⟨fun _ => b90_3 ⟨Or.inr rfl, h1 (fun c c0 c1 => hk c c0 (by omega) c1)⟩, fun z => absurd (by omega) z⟩
  | m + 1, x, ax, hx, hk => by
    refine b90_1 ⟨fun z => b90_3 ⟨Or.inr rfl, h1 (fun c c0 c1 => hk c c0 (by omega) c1)⟩, fun z => ?_⟩
    rw [rat_in (by omega) (by omega), hL x (by omega) (by omega)]
    refine ⟨fun y => b90_2 ?_, fun y => ⟨Or.inl rfl, h0 (fun q => y (q x ax (by omega)))⟩⟩
    rw [wr_id (by omega) (by omega)]
    refine l90 a0 b40 hL h1 h0 m (x + 1) (by omega) (by omega) (fun c c0 c1 c2 => ?_)
    by_cases e : c = x
    · subst e; exact y
    · exact hk c c0 (by omega) c2
theorem w90 {K : Int → dS → Prop} {L : Int → Int} {s a b : Int} (a0 : 0 ≤ a) (b40 : b ≤ 40) (hL : ∀ c, 0 ≤ c → c < 40 → S 141 c = L c) (h1 : (∀ c, a ≤ c → c < b → L c < s) → K 1 S) (h0 : ¬ (∀ c, a ≤ c → c < b → L c < s) → K 0 S) : wI (d + 2) 90 [.inr (.inr 133), .inl a, .inl b, .inl s] S Q K :=
  c90 (b90_0 (l90 a0 b40 hL h1 h0 40 a (Int.le_refl _) (by omega) (fun c c0 c1 _ => absurd c1 (by omega))))
theorem l88_4 {L : Int → Int} {a b : Int} (a0 : -1 ≤ a) (ab : a ≤ b) (a1 : a = -1 → b = -1) (b40 : b ≤ 40) (hL : ∀ c, 0 ≤ c → c < 40 → S 141 c = L c) (h8 : ∀ c, 0 ≤ L c ∧ L c ≤ 100) (hq : ∀ σ', (∀ k, k ≠ 141 → σ' k = S k) → (∀ c, 0 ≤ c → c < 40 → σ' 141 c = lod L a b c) → Q (.inl (some (.inl (if a = -1 then 0 else 1)))) σ') : ∀ (m : Nat) (x : Int) (σ : dS), a ≤ x → b ≤ x + m → (x ≤ b) → (∀ k, k ≠ 141 → σ k = S k) → (∀ c, 0 ≤ c → c < 40 → σ 141 c = lod L a x c) → B88_4 d Q a b x σ
  | m, x, σ, ax, hx, xb, hF, hB => by
    have fin : b = x → B88_5 d Q a σ := by
      intro e
      subst e
      have := hq σ hF hB
      refine b88_5 ⟨fun z => b88_6 (b88_7 ⟨Or.inl rfl, ?_⟩), fun z => b88_7 ⟨Or.inr rfl, ?_⟩⟩
      · rw [if_pos z] at this; exact this
      · rw [if_neg z] at this; exact this
    match m, hx with
    | 0, hx => exact b88_4 ⟨fun _ => fin (by omega), fun z => absurd (by omega) z⟩
    | m + 1, hx =>
      refine b88_4 ⟨fun z => fin (by omega), fun z σ1 f1 => ?_⟩
      have x0 : 0 ≤ x := by
        by_cases e : a = -1
        · have := a1 e; omega
        · omega
      have e0 := hB x x0 (by omega)
      have ex : lod L a x x = L x := by unfold lod; rw [if_neg (by omega)]
      have l8 := h8 x
      rw [rput_in x0 (by omega), rat_in x0 (by omega), e0, ex, wr_id (by omega) (by omega)] at f1
      rw [wr_id (by omega) (by omega)]
      refine l88_4 a0 ab a1 b40 hL h8 hq m (x + 1) σ1 (by omega) (by omega) (by omega) (fun k hk => by rw [f1, up_k hk]; exact hF k hk) (fun c c0 c1 => ?_)
      rw [f1]
      by_cases e : c = x
      · subst e
        rw [up_same]
        unfold lod
        rw [if_pos ⟨ax, by omega⟩]
      · rw [up_i e, hB c c0 c1]
        unfold lod
        by_cases w : a ≤ c ∧ c < x
        · rw [if_pos w, if_pos ⟨w.1, by omega⟩]
        · rw [if_neg w, if_neg (by omega)]
theorem l88_1 {L : Int → Int} {s : Int} (hc : cityOK V) (hs : skyOK V 109) (hV : ∀ k, cty k → S k = V k) (hR : RC S V (NF V 109)) (p0 : 0 ≤ p) (p1 : p < V 5 3) (hL : ∀ c, 0 ≤ c → c < 40 → S 141 c = L c) (hq : B88_3 (d + 2) Q (if sbt V L p s (8 * (V 5 2).toNat) = -1 then -1 else 8 * (sbt V L p s (8 * (V 5 2).toNat) / 8) + onf V p (sbt V L p s (8 * (V 5 2).toNat) / 8) (sbt V L p s (8 * (V 5 2).toNat) % 8).toNat) (sbt V L p s (8 * (V 5 2).toNat)) S) : ∀ (m c : Nat), c + m = 8 * (V 5 2).toNat → B88_1 (d + 2) Q p s (if sbt V L p s c = -1 then V 5 4 + 1 else NF V 109 4 (sbt V L p s c)) (if sbt V L p s c = -1 then -1 else 8 * (sbt V L p s c / 8) + onf V p (sbt V L p s c / 8) (sbt V L p s c % 8).toNat) (sbt V L p s c) (c : Int) S
  | 0, c, hm => by
    have hO := hc.2.1
    have e5 : S 5 2 = V 5 2 := by rw [hV 5 (by decide)]
    have ec : c = 8 * (V 5 2).toNat := by omega
    subst ec
    refine b88_1 ⟨fun _ => hq, fun z => absurd ?_ z⟩
    rw [e5, wr_id (by omega) (by omega)]; omega
  | m + 1, c, hm => by
    have hO := hc.2.1
    have hRo := hc.1
    have hP := hc.2.2.1
    have e5 : S 5 2 = V 5 2 := by rw [hV 5 (by decide)]
    have ih := l88_1 hc hs hV hR p0 p1 hL hq m (c + 1) (by omega)
    have ew : wr ((c : Int) + 1) = ((c + 1 : Nat) : Int) := by rw [wr_id (by omega) (by omega)]; omega
    have ed : idv (c : Int) 8 = (c : Int) / 8 := idv_pos (by omega) (by omega) (by omega) (by omega)
    have er : irm (c : Int) 8 = (c : Int) % 8 := irm_pos (by omega) (by omega) (by omega) (by omega)
    have o0 : 0 ≤ (c : Int) / 8 := by omega
    have o1 : (c : Int) / 8 < V 5 2 := by omega
    have kb := hc.2.2.2.2.2.1 _ o0 o1
    have ecc : 8 * ((c : Int) / 8) + (c : Int) % 8 = (c : Int) := by omega
    have e124 : rat S 124 5 ((c : Int) / 8) = (if nestb V 109 ((c : Int) / 8) then 0 else V 15 ((c : Int) / 8)) := by rw [rat_in o0 (by omega), (hR.2.1 _ o0 o1).2, (NF_done hc hs).2 _ o0 o1]
    have no : ¬ (cnv V L p s (c : Int) = 1 ∧ (sbt V L p s c = -1 ∨ NF V 109 4 (c : Int) < NF V 109 4 (sbt V L p s c))) → B88_2 (d + 2) Q p s (if sbt V L p s c = -1 then V 5 4 + 1 else NF V 109 4 (sbt V L p s c)) (if sbt V L p s c = -1 then -1 else 8 * (sbt V L p s c / 8) + onf V p (sbt V L p s c / 8) (sbt V L p s c % 8).toNat) (sbt V L p s c) (c : Int) S := by
      intro z
      rw [sbt, if_neg z] at ih
      refine b88_2 ?_
      rw [ew]; exact ih
    have non : ¬ cnd V L p s (c : Int) → B88_2 (d + 2) Q p s (if sbt V L p s c = -1 then V 5 4 + 1 else NF V 109 4 (sbt V L p s c)) (if sbt V L p s c = -1 then -1 else 8 * (sbt V L p s c / 8) + onf V p (sbt V L p s c / 8) (sbt V L p s c % 8).toNat) (sbt V L p s c) (c : Int) S := fun z => no (fun q => by have := q.1; rw [cnv_n z] at this; exact absurd this (by decide))
    refine b88_1 ⟨fun z => absurd z ?_, fun _ => ⟨by decide, by decide, ?_⟩⟩
    · rw [e5, wr_id (by omega) (by omega)]; omega
    rw [ed, er, e124]
    refine ⟨fun z => non (fun q => ?_), fun z => ?_⟩
    · rw [if_neg q.1] at z
      have := q.2.1; omega
    have hn : ¬ nestb V 109 ((c : Int) / 8) := by
      intro q
      rw [if_pos q] at z; omega
    rw [if_neg hn] at z
    have hk : okc V ((c : Int) / 8) ((c : Int) % 8) := ⟨o0, o1, hn, by omega, by omega⟩
    have cl := hR.2.2.1 _ ((c : Int) % 8) o0 o1 hn (by omega) (by rw [(NF_done hc hs).2 _ o0 o1]; omega)
    rw [ecc] at cl
    have e17 : rat S 17 40 (c : Int) = V 17 (c : Int) := by rw [rat_in (by omega) (by omega), hV 17 (by decide)]
    have e116 : rat S 116 40 (c : Int) = NF V 109 4 (c : Int) := by rw [rat_in (by omega) (by omega), cl.1]
    have e21 : rat S 21 8 p = V 21 p := by rw [rat_in p0 (by omega), hV 21 (by decide)]
    rw [e17, e21, e116]
    have sr := sbt_r V L p s c
    refine ⟨fun y => non (fun q => y q.2.2.1), fun y => ⟨fun x => no (fun q => ?_), fun x => ?_⟩⟩
    · rcases q.2 with w | w
      · rw [if_pos w] at x
        have cc : cnd V L p s (c : Int) := Decidable.byContradiction (dec := Classical.propDecidable _) (fun u => by have := q.1; rw [cnv_n u] at this; exact absurd this (by decide))
        have := cc.2.2.2.1
        omega
      · by_cases w2 : sbt V L p s c = -1
        · rw [if_pos w2] at x
          have cc : cnd V L p s (c : Int) := Decidable.byContradiction (dec := Classical.propDecidable _) (fun u => by have := q.1; rw [cnv_n u] at this; exact absurd this (by decide))
          have := cc.2.2.2.1
          omega
        · rw [if_neg w2] at x; omega
    have better : sbt V L p s c = -1 ∨ NF V 109 4 (c : Int) < NF V 109 4 (sbt V L p s c) := by
      by_cases w2 : sbt V L p s c = -1
      · exact Or.inl w2
      · rw [if_neg w2] at x; exact Or.inr (by omega)
    have dawn : NF V 109 4 (c : Int) ≤ V 5 4 := by
      by_cases w2 : sbt V L p s c = -1
      · rw [if_pos w2] at x; omega
      · rw [if_neg w2] at x
        have := (sr.resolve_left w2).2.2.2.2.2.1
        omega
    have w89' := fun K h => w89 (d := d + 1) (Q := Q) (K := K) (p := p) hc hs hV hR p0 p1 hk h
    rw [ecc] at w89'
    refine w89' _ ?_
    have onr := onf_r V p ((c : Int) / 8) ((c : Int) % 8).toNat
    by_cases w : onf V p ((c : Int) / 8) ((c : Int) % 8).toNat = -1
    · rw [if_pos w]
      exact ⟨fun _ => non (fun q => q.2.2.2.2.1 w), fun q => absurd rfl q⟩
    · rw [if_neg w]
      refine ⟨fun q => absurd q (by omega), fun _ => w90 (L := L) (by omega) (by omega) hL (fun q => ⟨fun u => absurd u (by decide), fun _ => b88_2 ?_⟩) (fun q => ⟨fun _ => non (fun u => q (fun c' a b => ?_)), fun u => absurd rfl u⟩)⟩
      · have cc : cnd V L p s (c : Int) := ⟨hn, by omega, Decidable.of_not_not y, dawn, w, fun k k0 k1 => q _ (by omega) (by omega)⟩
        have es : sbt V L p s (c + 1) = (c : Int) := by rw [sbt]; exact if_pos ⟨cnv_y cc, better⟩
        have cn : ¬ (c : Int) = -1 := by omega
        rw [es, if_neg cn, if_neg cn] at ih
        rw [ew, e116]
        exact ih
      · have := u.2.2.2.2.2 (c' - 8 * ((c : Int) / 8)) (by omega) (by omega)
        have e : 8 * ((c : Int) / 8) + (c' - 8 * ((c : Int) / 8)) = c' := by omega
        rw [e] at this
        exact this
def stL (V : dS) (L : Int → Int) (p b : Int) : Int → Int := if b = -1 then L else lod L (8 * (b / 8) + onf V p (b / 8) (b % 8).toNat) b
theorem w88 {K : Int → dS → Prop} {L : Int → Int} {s : Int} (hc : cityOK V) (hs : skyOK V 109) (hV : ∀ k, cty k → S k = V k) (hR : RC S V (NF V 109)) (p0 : 0 ≤ p) (p1 : p < V 5 3) (hL : ∀ c, 0 ≤ c → c < 40 → S 141 c = L c) (h8 : ∀ c, 0 ≤ L c ∧ L c ≤ 100) (h : ∀ σ', (∀ k, k ≠ 141 → σ' k = S k) → (∀ c, 0 ≤ c → c < 40 → σ' 141 c = stL V L p (sbt V L p s (8 * (V 5 2).toNat)) c) → K (if sbt V L p s (8 * (V 5 2).toNat) = -1 then 0 else 1) σ') : wI (d + 4) 88 [.inr (.inr 133), .inl p, .inl s] S Q K := by
  have hO := hc.2.1
  have hD := hc.2.2.2.1
  have e5 : S 5 4 = V 5 4 := by rw [hV 5 (by decide)]
  refine c88 (b88_0 ?_)
  rw [e5, wr_id (by omega) (by omega)]
  have sr := sbt_r V L p s (8 * (V 5 2).toNat)
  refine l88_1 (L := L) (s := s) hc hs hV hR p0 p1 hL (b88_3 ?_) (8 * (V 5 2).toNat) 0 (by omega)
  unfold stL at h
  by_cases z : sbt V L p s (8 * (V 5 2).toNat) = -1
  · rw [if_pos z, z] at h
    rw [if_pos z, z]
    refine l88_4 (L := L) (by decide) (by decide) (fun _ => rfl) (by decide) hL h8 (fun σ' g1 g2 => ?_) 0 (-1) S (by decide) (by decide) (by decide) (fun _ _ => rfl) (fun c c0 c1 => ?_)
    · refine h σ' g1 (fun c c0 c1 => ?_)
      rw [g2 c c0 c1]
      unfold lod
      rw [if_neg (by omega)]
    · unfold lod
      rw [if_neg (by omega)]; exact hL c c0 c1
  · rw [if_neg z] at h
    rw [if_neg z]
    have q := sr.resolve_left z
    have onr := onf_r V p (sbt V L p s (8 * (V 5 2).toNat) / 8) (sbt V L p s (8 * (V 5 2).toNat) % 8).toNat
    have onn := q.2.2.2.2.2.2.1
    refine l88_4 (L := L) (by omega) (by omega) (fun e => by omega) (by omega) hL h8 (fun σ' g1 g2 => ?_) 40 _ S (Int.le_refl _) (by omega) (by omega) (fun _ _ => rfl) (fun c c0 c1 => ?_)
    · rw [if_neg (by omega)]
      have hh := h σ' g1 (fun c c0 c1 => g2 c c0 c1)
      rw [if_neg z] at hh
      exact hh
    · unfold lod
      rw [if_neg (by omega)]; exact hL c c0 c1
theorem RC_141 {S' n : dS} (hF : ∀ k, k ≠ 141 → S' k = S k) (h : RC S V n) : RC S' V n := by
  unfold RC
  rw [hF 120 (by decide), hF 122 (by decide), hF 124 (by decide), hF 116 (by decide), hF 118 (by decide), hF 114 (by decide), hF 126 (by decide)]
  exact h
theorem l87 {S0 : dS} {s : Int} (hc : cityOK V) (hs : skyOK V 109) (hV : ∀ k, cty k → S0 k = V k) (hR : RC S0 V (NF V 109)) (hq : ∀ σ', (∀ k, k ≠ 141 → σ' k = S0 k) → Q (.inl (some (.inl (stn V s (V 5 3).toNat).2))) σ') : ∀ (c p : Nat) (S : dS), (p : Int) + c = V 5 3 → (∀ k, k ≠ 141 → S k = S0 k) → (∀ j, 0 ≤ j → j < 40 → S 141 j = (stn V s p).1 j) → B87_1 (d + 3) Q s (stn V s p).2 (p : Int) S
  | 0, p, S, hp, hF, hB => by
    have e5 : S 5 3 = V 5 3 := by rw [hF 5 (by decide), hV 5 (by decide)]
    have ep : p = (V 5 3).toNat := by omega
    refine b87_1 ⟨fun _ => b87_8 ?_, fun z => absurd (by omega) z⟩
    rw [ep]; exact hq S hF
  | c + 1, p, S, hp, hF, hB => by
    have hP := hc.2.2.1
    have e5 : S 5 = V 5 := by rw [hF 5 (by decide), hV 5 (by decide)]
    have hV' : ∀ k, cty k → S k = V k := fun k hk => by rw [hF k (by rintro rfl; exact absurd hk (by decide))]; exact hV k hk
    have ew : wr ((p : Int) + 1) = ((p + 1 : Nat) : Int) := by rw [wr_id (by omega) (by omega)]; omega
    have sr := stn_r V s p
    have e19 : rat S 19 8 (p : Int) = V 19 (p : Int) := by rw [rat_in (by omega) (by omega), hV' 19 (by decide)]
    have e21 : rat S 21 8 (p : Int) = V 21 (p : Int) := by rw [rat_in (by omega) (by omega), hV' 21 (by decide)]
    have e23 : rat S 23 8 (p : Int) = V 23 (p : Int) := by rw [rat_in (by omega) (by omega), hV' 23 (by decide)]
    refine b87_1 ⟨fun z => absurd z (by rw [e5]; omega), fun _ => ?_⟩
    rw [e19, e21, e23, e5]
    refine ⟨fun z => b87_4 (w88 (L := (stn V s p).1) hc hs hV' (RC_141 hF hR) (by omega) (by omega) hB (fun j => by have := sr.2 j; omega) (fun σ1 g1 g2 => ?_)), fun z => ?_⟩
    · have es : stn V s (p + 1) = if sbt V (stn V s p).1 (p : Int) s (8 * (V 5 2).toNat) = -1 then stn V s p else (lod (stn V s p).1 (8 * (sbt V (stn V s p).1 (p : Int) s (8 * (V 5 2).toNat) / 8) + onf V (p : Int) (sbt V (stn V s p).1 (p : Int) s (8 * (V 5 2).toNat) / 8) (sbt V (stn V s p).1 (p : Int) s (8 * (V 5 2).toNat) % 8).toNat) (sbt V (stn V s p).1 (p : Int) s (8 * (V 5 2).toNat)), (stn V s p).2 + 1) := by rw [stn, if_neg z]
      unfold stL at g2
      have F1 : ∀ k, k ≠ 141 → σ1 k = S0 k := fun k hk => by rw [g1 k hk]; exact hF k hk
      by_cases y : sbt V (stn V s p).1 (p : Int) s (8 * (V 5 2).toNat) = -1
      · rw [if_pos y] at es g2 ⊢
        have ih := l87 hc hs hV hR hq c (p + 1) σ1 (by omega) F1 (fun j j0 j1 => by rw [es]; exact g2 j j0 j1)
        rw [es] at ih
        refine ⟨fun _ => b87_5 (b87_6 (b87_7 ?_)), fun q => absurd rfl q⟩
        rw [ew, Int.add_zero, wr_id (by omega) (by omega)]; exact ih
      · rw [if_neg y] at es g2 ⊢
        have ih := l87 hc hs hV hR hq c (p + 1) σ1 (by omega) F1 (fun j j0 j1 => by rw [es]; exact g2 j j0 j1)
        rw [es] at ih
        refine ⟨fun q => absurd q (by decide), fun _ => b87_6 (b87_7 ?_)⟩
        rw [ew, wr_id (by omega) (by omega)]; exact ih
    · have es : stn V s (p + 1) = ((stn V s p).1, (stn V s p).2 + (if V 23 (p : Int) ≤ V 5 4 then 1 else 0)) := by rw [stn, if_pos (Decidable.of_not_not z)]
      have ih := l87 hc hs hV hR hq c (p + 1) S (by omega) hF (fun j j0 j1 => by rw [es]; exact hB j j0 j1)
      rw [es] at ih
      refine ⟨fun y => b87_2 (b87_3 (b87_7 ?_)), fun y => b87_3 (b87_7 ?_)⟩
      · rw [if_neg (by omega)] at ih
        rw [ew, wr_id (by omega) (by omega)]; exact ih
      · rw [if_pos (by omega)] at ih
        rw [ew, wr_id (by omega) (by omega)]; exact ih
theorem x_straps {K : Int → dS → Prop} {s : Int} (hI : INV σ) (h1 : 1 ≤ s → s ≤ 8 → ∀ σ', FRM σ σ' → K (stn (nrm σ 70) s (σ 5 3).toNat).2 σ') (h2 : ¬ (1 ≤ s ∧ s ≤ 8) → Q (.inr 1) σ) : wI (d + 9) 133 [.inr (.inr 0), .inl s] σ Q K := by
  have hP := (INV_vc hI).2.2.1
  have e5 : nrm σ 70 5 3 = σ 5 3 := by rw [nrm_c (k := 5) (by decide)]
  refine c133 (b133_0 ⟨fun z => b133_1 (h2 (by omega)), fun s1 => ⟨fun s8 => b133_2 (v70 hI (fun σ1 g1 g2 g3 g4 => c87 (b87_0 (fun σ2 f2 => ?_)))), fun z => b133_1 (h2 (by omega))⟩⟩)
  have F2 : ∀ k, k ≠ 141 → σ2 k = σ1 k := by
    intro k hk
    funext j
    rw [f2]
    unfold rfill
    rw [if_neg (fun q => hk q.1)]
  refine l87 (d := d + 3) (S0 := σ1) (V := nrm σ 70) (s := s) (INV_vc hI) (INV_vs hI) g3 g4 (fun σ' g5 => ?_) (nrm σ 70 5 3).toNat 0 σ2 (by omega) F2 (fun j j0 j1 => ?_)
  · rw [e5]
    exact h1 (by omega) s8 σ' (FRM_tr g1 (FRM_c (fun k hk => g5 k (by rintro rfl; exact hk (by decide)))))
  · rw [f2]
    unfold rfill
    rw [if_pos ⟨rfl, j0, by omega⟩]; rfl
end STRAPS
