/-! THE VIEW: what a night depends on, its sky laid at 109 -/
abbrev cty (k : Nat) : Prop := k = 5 ∨ k = 9 ∨ k = 11 ∨ k = 15 ∨ k = 17 ∨ k = 19 ∨ k = 21 ∨ k = 23 ∨ k = 25 ∨ k = 26 ∨ k = 28 ∨ k = 30 ∨ k = 159 ∨ k = 160
def nrm (S : dS) (t : Nat) : dS := fun k j => if k = 109 then (if 0 ≤ j ∧ j < 4 then S t j else 0) else if k = 111 then (if 0 ≤ j ∧ j < S 5 0 then S (t + 2) j else 0) else if k = 113 then (if 0 ≤ j ∧ j < S 5 2 then S (t + 4) j else 0) else if cty k then S k j else 0
section VIEW
variable {S : dS} {t : Nat}
theorem nrm_c {k : Nat} (h : cty k) : nrm S t k = S k := by
  funext j
  unfold nrm
  rw [if_neg (by omega), if_neg (by omega), if_neg (by omega), if_pos h]
theorem nrm_s {j : Int} (h0 : 0 ≤ j) (h4 : j < 4) : nrm S t 109 j = S t j := by
  unfold nrm
  rw [if_pos rfl, if_pos ⟨h0, h4⟩]
theorem nrm_g {j : Int} (h0 : 0 ≤ j) (h4 : j < S 5 0) : nrm S t 111 j = S (t + 2) j := by
  unfold nrm
  rw [if_neg (by omega), if_pos rfl, if_pos ⟨h0, h4⟩]
theorem nrm_b {j : Int} (h0 : 0 ≤ j) (h4 : j < S 5 2) : nrm S t 113 j = S (t + 4) j := by
  unfold nrm
  rw [if_neg (by omega), if_neg (by omega), if_pos rfl, if_pos ⟨h0, h4⟩]
theorem nrm_nest (o : Int) : nestb (nrm S t) 109 o = nestb S t o := by
  unfold nestb
  rw [nrm_s (by omega) (by omega)]
theorem evR_congr {V : dS} (h28 : V 28 = S 28) (h30 : V 30 = S 30) (r : Int) (w : Int → Int) : evR V r w = evR S r w := by
  unfold evR cof beg
  rw [h28, h30]
theorem ruleOK_congr {V : dS} (h28 : V 28 = S 28) (h30 : V 30 = S 30) (h159 : V 159 = S 159) (h160 : V 160 = S 160) {r : Int} (h : ruleOK S r) : ruleOK V r := by
  have e1 : cof V r = cof S r := by unfold cof beg; rw [h28, h30]
  have e2 : beg V 30 r = beg S 30 r := by unfold beg; rw [h30]
  unfold ruleOK
  rw [e1, e2, h30, h159]
  refine ⟨h.1, h.2.1, h.2.2.1, h.2.2.2.1, h.2.2.2.2.1, h.2.2.2.2.2.1, ?_⟩
  exact seg_k h160 h.2.2.2.2.2.2
theorem cityOK_congr {V : dS} (h : ∀ k, cty k → V k = S k) (hc : cityOK S) : cityOK V := by
  unfold cityOK
  rw [h 5 (by decide), h 26 (by decide), h 11 (by decide), h 15 (by decide), h 17 (by decide), h 9 (by decide), h 19 (by decide), h 21 (by decide), h 23 (by decide), h 25 (by decide)]
  obtain ⟨c1, c2, c3, c4, c5, c6, c7, c8⟩ := hc
  exact ⟨c1, c2, c3, c4, c5, c6, c7, fun r r0 r1 => ruleOK_congr (h 28 (by decide)) (h 30 (by decide)) (h 159 (by decide)) (h 160 (by decide)) (c8 r r0 r1)⟩
theorem cityOK_nrm (hc : cityOK S) : cityOK (nrm S t) := cityOK_congr (fun _ hk => nrm_c hk) hc
theorem skyOK_nrm (hs : skyOK S t) : skyOK (nrm S t) 109 := by
  unfold skyOK
  rw [nrm_s (by omega) (by omega), nrm_s (by omega) (by omega), nrm_s (by omega) (by omega), nrm_s (by omega) (by omega), nrm_c (k := 26) (by decide), nrm_c (k := 5) (by decide)]
  obtain ⟨s1, s2, s3, s4, s5, s6⟩ := hs
  refine ⟨s1, s2, s3, s4, fun r r0 r1 => ?_, fun o o0 o1 => ?_⟩
  · rw [show (109 + 2 : Nat) = 111 from rfl, nrm_g r0 r1]; exact s5 r r0 r1
  · rw [show (109 + 4 : Nat) = 113 from rfl, nrm_b o0 o1]; exact s6 o o0 o1
/-- nights that show the same -/
def NE (S : dS) (t : Nat) (n n' : dS) : Prop := (∀ r, 0 ≤ r → r < S 5 0 → n 0 r = n' 0 r) ∧ (∀ o, 0 ≤ o → o < S 5 2 → n 1 o = n' 1 o ∧ n 2 o = n' 2 o ∧ n 3 o = n' 3 o) ∧ (∀ o i, 0 ≤ o → o < S 5 2 → ¬ nestb S t o → 0 ≤ i → i < n 2 o → n 4 (8 * o + i) = n' 4 (8 * o + i) ∧ n 5 (8 * o + i) = n' 5 (8 * o + i)) ∧ n 7 0 = n' 7 0 ∧ (∀ j, 0 ≤ j → j < n 7 0 → n 6 j = n' 6 j)
theorem pk_congr {f g : Int → Int} : ∀ N : Nat, (∀ o, 0 ≤ o → o < (N : Int) → f o = g o) → pk f N = pk g N
  | 0, _ => rfl
  | N + 1, h => by
    have ih := pk_congr N (fun o o0 o1 => h o o0 (by omega))
    have e : f (N : Int) = g (N : Int) := h _ (by omega) (by omega)
    unfold pk
    rw [ih, e]
    rcases pk_r g N with q | q
    · rw [q]; rfl
    · rw [h (pk g N) q.1 (by omega)]
theorem hvl_nrm (hc : cityOK S) {o i m mi : Int} (o0 : 0 ≤ o) (o1 : o < S 5 2) (i0 : 0 ≤ i) (i1 : i < S 15 o) : hvl (nrm S t) 109 mi o i m = hvl S t mi o i m := by
  have kb := hc.2.2.2.2.2.1 o o0 o1
  have hw := kb.2.2.1 i i0 i1
  have ew : wls (nrm S t) 109 mi o i m = wls S t mi o i m := by
    funext j
    unfold wls
    rw [nrm_c (k := 17) (by decide), nrm_c (k := 11) (by decide), nrm_s (by omega) (by omega), nrm_s (by omega) (by omega), show (109 + 2 : Nat) = 111 from rfl, nrm_g hw.1 hw.2]
  unfold hvl
  rw [ew, nrm_s (by omega) (by omega), evR_congr (nrm_c (k := 28) (by decide)) (nrm_c (k := 30) (by decide))]
theorem fly_nrm {o c : Int} : fly (nrm S t) 109 o c = fly S t o c := by
  unfold fly fly1
  rw [nrm_c (k := 17) (by decide), nrm_c (k := 11) (by decide), nrm_c (k := 9) (by decide), nrm_s (by omega) (by omega), nrm_s (by omega) (by omega)]
theorem NE_step (hc : cityOK S) {n n' : dS} (hn : NI S t n) (h : NE S t n n') : NE S t (nstep S t n) (nstep (nrm S t) 109 n') := by
  obtain ⟨h1, h2, h3, h4, h5⟩ := h
  have hO := hc.2.1
  have eb : best (nrm S t) n' = best S n := by
    unfold best
    rw [nrm_c (k := 5) (by decide)]
    refine pk_congr _ (fun o o0 o1 => ?_)
    have q := h2 o o0 (by omega)
    unfold fu
    rw [nrm_c (k := 15) (by decide), q.2.1, q.2.2]
  unfold nstep
  rw [eb]
  by_cases hb : best S n = -1
  · rw [if_pos hb, if_pos hb]
    exact ⟨h1, h2, h3, h4, h5⟩
  rw [if_neg hb, if_neg hb]
  rcases best_r (n := n) hO.1 with e | e
  · exact absurd e hb
  generalize best S n = b at e hb
  obtain ⟨b0, b1, b2⟩ := e
  have kb := hc.2.2.2.2.2.1 b b0 b1
  have nb := hn.2 b b0 b1
  have hw := kb.2.2.1 (n 2 b) nb.1.1 b2
  have q := h2 b b0 b1
  have em : n' 0 (S 17 (8 * b + n 2 b)) = n 0 (S 17 (8 * b + n 2 b)) := (h1 _ hw.1 hw.2).symm
  have ehu : hu (nrm S t) 109 n' b = hu S t n b := by
    unfold hu
    rw [nrm_c (k := 17) (by decide), ← q.2.1, ← q.2.2, em, hvl_nrm hc b0 b1 nb.1.1 b2]
  refine ⟨fun r r0 r1 => ?_, fun o o0 o1 => ⟨?_, ?_, ?_⟩, fun o i o0 o1 hno i0 i1 => ?_, ?_, fun j j0 j1 => ?_⟩
  · rw [ns_0, ns_0, ehu, nrm_c (k := 17) (by decide), ← q.2.1, em, h1 r r0 r1]
  · rw [ns_1, ns_1, ehu, nrm_c (k := 17) (by decide), ← q.2.1, em, (h2 o o0 o1).1]
  · rw [ns_2, ns_2, (h2 o o0 o1).2.1]
  · rw [ns_3, ns_3, ehu, fly_nrm, nrm_c (k := 15) (by decide), ← q.2.1, ← q.2.2, (h2 o o0 o1).2.2]
  · rw [ns_4, ns_4, ns_5, ns_5, ehu, ← q.2.1, ← q.2.2]
    rw [ns_2] at i1
    by_cases z : 8 * o + i = 8 * b + n 2 b
    · rw [if_pos z, if_pos z, if_pos z, if_pos z]; exact ⟨rfl, rfl⟩
    · rw [if_neg z, if_neg z, if_neg z, if_neg z]
      refine h3 o i o0 o1 hno i0 ?_
      by_cases y : o = b
      · subst y; rw [if_pos rfl] at i1; omega
      · rw [if_neg y] at i1; exact i1
  · rw [ns_7, ns_7, if_pos rfl, if_pos rfl, h4]
  · rw [ns_7, if_pos rfl] at j1
    rw [ns_6, ns_6, ← q.2.1, ← h4]
    by_cases z : j = n 7 0
    · rw [if_pos z, if_pos z]
    · rw [if_neg z, if_neg z]; exact h5 j j0 (by omega)
theorem NE_nit (hc : cityOK S) : ∀ (m : Nat) {n n' : dS}, NI S t n → NE S t n n' → NE S t (nit S t m n) (nit (nrm S t) 109 m n')
  | 0, _, _, _, h => h
  | m + 1, _, _, hn, h => NE_nit hc m (NI_step hc hn) (NE_step hc hn h)
theorem NE_0 (hc : cityOK S) : NE S t (N0 S t) (N0 (nrm S t) 109) := by
  refine ⟨fun r r0 r1 => ?_, fun o o0 o1 => ⟨rfl, ?_, ?_⟩, fun o i o0 o1 hno i0 i1 => ⟨rfl, rfl⟩, rfl, fun j j0 j1 => rfl⟩
  · show 2 * S (t + 2) r = 2 * nrm S t 111 r
    rw [nrm_g r0 r1]
  · show (if nestb S t o then S 15 o else 0) = (if nestb (nrm S t) 109 o then nrm S t 15 o else 0)
    rw [nrm_c (k := 15) (by decide)]
    unfold nestb
    rw [nrm_s (by omega) (by omega)]
  · show S (t + 4) o = nrm S t 113 o
    rw [nrm_b o0 o1]
theorem NE_F (hc : cityOK S) (hs : skyOK S t) : NE S t (NF S t) (NF (nrm S t) 109) := NE_nit hc 40 (N0_I hc hs) (NE_0 hc)
end VIEW
/-- what the class's night shows, by the view V: mice, caught, stops come to, comes and leaves, the order -/
def RC (σ V : dS) (n : dS) : Prop := (∀ r, 0 ≤ r → r < V 5 0 → σ 120 r = n 0 r) ∧ (∀ o, 0 ≤ o → o < V 5 2 → σ 122 o = n 1 o ∧ σ 124 o = (if nestb V 109 o then 0 else n 2 o)) ∧ (∀ o i, 0 ≤ o → o < V 5 2 → ¬ nestb V 109 o → 0 ≤ i → i < n 2 o → σ 116 (8 * o + i) = n 4 (8 * o + i) ∧ σ 118 (8 * o + i) = n 5 (8 * o + i)) ∧ σ 114 7 = n 7 0 ∧ (∀ j, 0 ≤ j → j < n 7 0 → σ 126 j = n 6 j)
theorem RC_of {σ S : dS} {t : Nat} (hc : cityOK S) (hs : skyOK S t) (h : RCN σ S t (NF S t)) : RC σ (nrm S t) (NF (nrm S t) 109) := by
  obtain ⟨r1, r2, r3, r4, r5, r6⟩ := h
  obtain ⟨h1, h2, h3, h4, h5⟩ := NE_F hc hs
  unfold RC
  rw [nrm_c (k := 5) (by decide)]
  refine ⟨fun r r0 q1 => ?_, fun o o0 o1 => ⟨?_, ?_⟩, fun o i o0 o1 hno i0 i1 => ?_, ?_, fun j j0 j1 => ?_⟩
  · rw [r3 r r0 q1, h1 r r0 q1]
  · rw [(r4 o o0 o1).1, (h2 o o0 o1).1]
  · rw [(r4 o o0 o1).2.1, (h2 o o0 o1).2.1]
    unfold nestb
    rw [nrm_s (by omega) (by omega)]
  · have hno' : ¬ nestb S t o := by rw [← nrm_nest]; exact hno
    have i1' : i < NF S t 2 o := by rw [(h2 o o0 o1).2.1]; exact i1
    have q := h3 o i o0 o1 hno' i0 i1'
    have p := r5 o i o0 o1 hno' i0 i1'
    rw [p.1, p.2, q.1, q.2]
    exact ⟨rfl, rfl⟩
  · rw [r2, h4]
  · rw [← h4] at j1
    rw [r6 j j0 j1, h5 j j0 j1]
/-- THE CLASS'S NIGHT over sky 70, by its view -/
theorem v68_70 {d : Nat} {Q : dR → dS → Prop} {K : dS → Prop} {S : dS} (hc : cityOK S) (hs : skyOK S 70) (hq : ∀ σ', (∀ k, ¬ ncl k → σ' k = S k) → RC σ' (nrm S 70) (NF (nrm S 70) 109) → K σ') : wV (d + 7) 68 [.inr (.inr 114), .inr (.inr 70)] S Q K :=
  w68_70 hc hs (fun σ' h => hq σ' h.1 (RC_of hc hs h))
/-- THE CLASS'S NIGHT over sky 109, by its view -/
theorem v68_109 {d : Nat} {Q : dR → dS → Prop} {K : dS → Prop} {S : dS} (hc : cityOK S) (hs : skyOK S 109) (hq : ∀ σ', (∀ k, ¬ ncl k → σ' k = S k) → RC σ' (nrm S 109) (NF (nrm S 109) 109) → K σ') : wV (d + 7) 68 [.inr (.inr 114), .inr (.inr 109)] S Q K :=
  w68_109 hc hs (fun σ' h => hq σ' h.1 (RC_of hc hs h))
