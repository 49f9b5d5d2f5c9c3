/-! THE CLASS PASSES A NIGHT: all comings -/
theorem nit_stop {S n : dS} {t : Nat} (h : best S n = -1) : ∀ m, nit S t m n = n
  | 0 => rfl
  | m + 1 => by
    have e : nstep S t n = n := by unfold nstep; rw [if_pos h]
    rw [nit, e]
    exact nit_stop h m
theorem l68_70_7 {d : Nat} {Q : dR → dS → Prop} {S : dS} (hc : cityOK S) (hs : skyOK S 70) : ∀ (m : Nat) (x2 : Int) (n σ : dS), 0 ≤ x2 → x2 + m = 40 → n 7 0 = x2 → NI S 70 n → RCN σ S 70 n → (∀ σ', RCN σ' S 70 (nit S 70 m n) → Q (.inl none) σ') → B68_70_7 (d + 5) Q x2 σ
  | 0, x2, n, σ, h0, hm, h7, hn, hR, hq => b68_70_7 ⟨fun _ => b68_70_9 (hq σ hR), fun z => absurd (by omega) z⟩
  | m + 1, x2, n, σ, h0, hm, h7, hn, hR, hq => by
    have hO := hc.2.1
    refine b68_70_7 ⟨fun z => absurd z (by omega), fun _ => ?_⟩
    have e5 : σ 5 = S 5 := hR.1 5 (by decide)
    refine w69 (f := fu S n) (by rw [e5]; omega) (by rw [e5]; omega) (fun o o0 o1 => (hR.2.2.2.1 o o0 (by rw [e5] at o1; exact o1)).2.2) ?_
    rw [e5]
    have eb : pk (fu S n) (S 5 2).toNat = best S n := rfl
    rw [eb]
    constructor
    · intro z
      rcases best_r (n := n) hO.1 with e | e
      · exact absurd e z
      · refine b68_70_8 (w70_70 hc hs hn e.1 e.2.1 e.2.2 (by omega) (by omega) hR (fun σ' hR' => ?_))
        rw [wr_id (by omega) (by omega)]
        have es : nstep S 70 n = ns S 70 n (best S n) := by unfold nstep; rw [if_neg z]
        refine l68_70_7 hc hs m (x2 + 1) (ns S 70 n (best S n)) σ' (by omega) (by omega) (by rw [ns_7, if_pos rfl, h7]) (by rw [← es]; exact NI_step hc hn) hR' (fun σ'' h'' => hq σ'' ?_)
        rw [nit, es]
        exact h''
    · intro z
      have z' : best S n = -1 := Decidable.of_not_not z
      refine hq σ ?_
      rw [nit_stop z']
      exact hR
theorem l68_70_3 {d : Nat} {Q : dR → dS → Prop} {S : dS} (hc : cityOK S) (hs : skyOK S 70) (hq : ∀ σ', RCN σ' S 70 (NF S 70) → Q (.inl none) σ') : ∀ (m : Nat) (x2 : Int) (σ : dS), 0 ≤ x2 → x2 + m = S 5 2 → (∀ k, ¬ ncl k → σ k = S k) → σ 114 7 = 0 → (∀ r, 0 ≤ r → r < S 5 0 → σ 120 r = 2 * S 72 r) → (∀ o, 0 ≤ o → o < x2 → σ 122 o = 0 ∧ σ 124 o = 0 ∧ σ 128 o = (if nestb S 70 o then 2147483647 else S 74 o)) → B68_70_3 (d + 5) Q x2 σ
  | 0, x2, σ, h0, hm, hF, h7, hmi, ho => by
    have e5 : σ 5 = S 5 := hF 5 (by decide)
    refine b68_70_3 ⟨fun _ => b68_70_6 ?_, fun z => absurd (by rw [e5]; omega) z⟩
    refine l68_70_7 hc hs 40 0 (N0 S 70) σ (by omega) (by omega) rfl (N0_I hc hs) ⟨hF, h7, hmi, fun o o0 o1 => ?_, fun o i o0 o1 hno i0 i1 => ?_, fun j j0 j1 => absurd j1 (by show ¬ j < 0; omega)⟩ hq
    · have q := ho o o0 (by omega)
      have kb := hc.2.2.2.2.2.1 o o0 o1
      refine ⟨q.1, ?_, ?_⟩
      · rw [q.2.1]
        show (0 : Int) = if nestb S 70 o then 0 else (if nestb S 70 o then S 15 o else 0)
        by_cases z : nestb S 70 o
        · rw [if_pos z]
        · rw [if_neg z, if_neg z]
      · rw [q.2.2]
        show (if nestb S 70 o then 2147483647 else S 74 o) = if (if nestb S 70 o then S 15 o else 0) < S 15 o then S 74 o else 2147483647
        by_cases z : nestb S 70 o
        · rw [if_pos z, if_pos z, if_neg (by omega)]
        · rw [if_neg z, if_neg z, if_pos (by omega)]
    · have : (if nestb S 70 o then S 15 o else 0) = 0 := if_neg hno
      exact absurd i1 (by show ¬ i < (if nestb S 70 o then S 15 o else 0); omega)
  | m + 1, x2, σ, h0, hm, hF, h7, hmi, ho => by
    have hO := hc.2.1
    have e5 : σ 5 = S 5 := hF 5 (by decide)
    refine b68_70_3 ⟨fun z => absurd z (by rw [e5]; omega), fun _ => ?_⟩
    intro σ1 f1 σ2 f2
    rw [rput_in (by omega) (by omega)] at f1
    rw [rput_in (by omega) (by omega), f1] at f2
    have eT : σ2 70 = S 70 := by rw [f2, up_k (by decide), up_k (by decide)]; exact hF _ (by decide)
    have eB : rat σ2 74 5 x2 = S 74 x2 := by rw [rat_in (by omega) (by omega), f2, up_k (by decide), up_k (by decide), hF 74 (by decide)]
    have fin : ∀ v : Int, v = (if nestb S 70 x2 then 2147483647 else S 74 x2) → B68_70_5 (d + 5) Q x2 v x2 σ2 := by
      intro v hv
      refine b68_70_5 ?_
      intro σ3 f3
      rw [rput_in (by omega) (by omega), f2] at f3
      rw [wr_id (by omega) (by omega)]
      refine l68_70_3 hc hs hq m (x2 + 1) σ3 (by omega) (by omega) (fun k hk => ?_) ?_ (fun r r0 r1 => ?_) (fun o o0 o1 => ?_)
      · have hne : ∀ x, ncl x → k ≠ x := fun x hx e => hk (e ▸ hx)
        rw [f3, up_k (hne _ (by decide)), up_k (hne _ (by decide)), up_k (hne _ (by decide))]
        exact hF k hk
      · rw [f3, up_k (by decide), up_k (by decide), up_k (by decide)]; exact h7
      · rw [f3, up_k (by decide), up_k (by decide), up_k (by decide)]; exact hmi r r0 r1
      · by_cases q : o = x2
        · subst q
          simp [f3, up, hv]
        · have := ho o o0 (by omega)
          rw [f3]
          simp [up, q]
          exact this
    refine w23_70 ?_
    show ((if nestb σ2 70 x2 then (1 : Int) else 0) = 0 → _) ∧ _
    have en : (if nestb σ2 70 x2 then (1 : Int) else 0) = (if nestb S 70 x2 then (1 : Int) else 0) := by unfold nestb; rw [eT]
    rw [en]
    constructor
    · intro z
      refine b68_70_4 ?_
      rw [eB]
      refine fin _ ?_
      by_cases y : nestb S 70 x2
      · rw [if_pos y] at z; omega
      · rw [if_neg y]
    · intro z
      refine fin _ ?_
      by_cases y : nestb S 70 x2
      · rw [if_pos y]
      · rw [if_neg y] at z; exact absurd rfl z
theorem l68_70_1 {d : Nat} {Q : dR → dS → Prop} {S : dS} (hc : cityOK S) (hs : skyOK S 70) (hq : ∀ σ', RCN σ' S 70 (NF S 70) → Q (.inl none) σ') : ∀ (m : Nat) (x2 : Int) (σ : dS), 0 ≤ x2 → x2 + m = S 5 0 → (∀ k, ¬ ncl k → σ k = S k) → σ 114 7 = 0 → (∀ r, 0 ≤ r → r < x2 → σ 120 r = 2 * S 72 r) → B68_70_1 (d + 5) Q x2 σ
  | 0, x2, σ, h0, hm, hF, h7, hmi => by
    have hO := hc.2.1
    have e5 : σ 5 = S 5 := hF 5 (by decide)
    refine b68_70_1 ⟨fun _ => b68_70_2 (l68_70_3 hc hs hq (S 5 2).toNat 0 σ (by omega) (by omega) hF h7 (fun r r0 r1 => hmi r r0 (by omega)) (fun o o0 o1 => absurd o1 (by omega))), fun z => absurd (by rw [e5]; omega) z⟩
  | m + 1, x2, σ, h0, hm, hF, h7, hmi => by
    have hO := hc.1
    have hg : 0 ≤ S 72 x2 ∧ S 72 x2 ≤ 9 := hs.2.2.2.2.1 x2 h0 (by omega)
    have e5 : σ 5 = S 5 := hF 5 (by decide)
    refine b68_70_1 ⟨fun z => absurd z (by rw [e5]; omega), fun _ => ?_⟩
    intro σ1 f1
    have eg : rat σ 72 10 x2 = S 72 x2 := by rw [rat_in (by omega) (by omega), hF 72 (by decide)]
    rw [eg, wr_id (by omega) (by omega), rput_in (by omega) (by omega)] at f1
    rw [wr_id (by omega) (by omega)]
    refine l68_70_1 hc hs hq m (x2 + 1) σ1 (by omega) (by omega) (fun k hk => ?_) ?_ (fun r r0 r1 => ?_)
    · have hne : ∀ x, ncl x → k ≠ x := fun x hx e => hk (e ▸ hx)
      rw [f1, up_k (hne _ (by decide))]
      exact hF k hk
    · rw [f1, up_k (by decide)]; exact h7
    · rw [f1]
      by_cases q : r = x2
      · rw [q, up_same]
      · rw [up_i q]; exact hmi r r0 (by omega)
/-- THE CLASS'S NIGHT over sky 70 -/
theorem w68_70 {d : Nat} {Q : dR → dS → Prop} {K : dS → Prop} {S : dS} (hc : cityOK S) (hs : skyOK S 70) (hq : ∀ σ', RCN σ' S 70 (NF S 70) → K σ') : wV (d + 7) 68 [.inr (.inr 114), .inr (.inr 70)] S Q K := by
  have hO := hc.1
  refine c68_70 (b68_70_0 ?_)
  intro σ1 f1
  refine l68_70_1 hc hs hq (S 5 0).toNat 0 σ1 (by omega) (by omega) (fun k hk => ?_) ?_ (fun r r0 r1 => absurd r1 (by omega))
  · have hne : ∀ x, ncl x → k ≠ x := fun x hx e => hk (e ▸ hx)
    rw [f1, up_k (hne _ (by decide))]
  · rw [f1, up_same]
theorem l68_109_7 {d : Nat} {Q : dR → dS → Prop} {S : dS} (hc : cityOK S) (hs : skyOK S 109) : ∀ (m : Nat) (x2 : Int) (n σ : dS), 0 ≤ x2 → x2 + m = 40 → n 7 0 = x2 → NI S 109 n → RCN σ S 109 n → (∀ σ', RCN σ' S 109 (nit S 109 m n) → Q (.inl none) σ') → B68_109_7 (d + 5) Q x2 σ
  | 0, x2, n, σ, h0, hm, h7, hn, hR, hq => b68_109_7 ⟨fun _ => b68_109_9 (hq σ hR), fun z => absurd (by omega) z⟩
  | m + 1, x2, n, σ, h0, hm, h7, hn, hR, hq => by
    have hO := hc.2.1
    refine b68_109_7 ⟨fun z => absurd z (by omega), fun _ => ?_⟩
    have e5 : σ 5 = S 5 := hR.1 5 (by decide)
    refine w69 (f := fu S n) (by rw [e5]; omega) (by rw [e5]; omega) (fun o o0 o1 => (hR.2.2.2.1 o o0 (by rw [e5] at o1; exact o1)).2.2) ?_
    rw [e5]
    have eb : pk (fu S n) (S 5 2).toNat = best S n := rfl
    rw [eb]
    constructor
    · intro z
      rcases best_r (n := n) hO.1 with e | e
      · exact absurd e z
      · refine b68_109_8 (w70_109 hc hs hn e.1 e.2.1 e.2.2 (by omega) (by omega) hR (fun σ' hR' => ?_))
        rw [wr_id (by omega) (by omega)]
        have es : nstep S 109 n = ns S 109 n (best S n) := by unfold nstep; rw [if_neg z]
        refine l68_109_7 hc hs m (x2 + 1) (ns S 109 n (best S n)) σ' (by omega) (by omega) (by rw [ns_7, if_pos rfl, h7]) (by rw [← es]; exact NI_step hc hn) hR' (fun σ'' h'' => hq σ'' ?_)
        rw [nit, es]
        exact h''
    · intro z
      have z' : best S n = -1 := Decidable.of_not_not z
      refine hq σ ?_
      rw [nit_stop z']
      exact hR
theorem l68_109_3 {d : Nat} {Q : dR → dS → Prop} {S : dS} (hc : cityOK S) (hs : skyOK S 109) (hq : ∀ σ', RCN σ' S 109 (NF S 109) → Q (.inl none) σ') : ∀ (m : Nat) (x2 : Int) (σ : dS), 0 ≤ x2 → x2 + m = S 5 2 → (∀ k, ¬ ncl k → σ k = S k) → σ 114 7 = 0 → (∀ r, 0 ≤ r → r < S 5 0 → σ 120 r = 2 * S 111 r) → (∀ o, 0 ≤ o → o < x2 → σ 122 o = 0 ∧ σ 124 o = 0 ∧ σ 128 o = (if nestb S 109 o then 2147483647 else S 113 o)) → B68_109_3 (d + 5) Q x2 σ
  | 0, x2, σ, h0, hm, hF, h7, hmi, ho => by
    have e5 : σ 5 = S 5 := hF 5 (by decide)
    refine b68_109_3 ⟨fun _ => b68_109_6 ?_, fun z => absurd (by rw [e5]; omega) z⟩
    refine l68_109_7 hc hs 40 0 (N0 S 109) σ (by omega) (by omega) rfl (N0_I hc hs) ⟨hF, h7, hmi, fun o o0 o1 => ?_, fun o i o0 o1 hno i0 i1 => ?_, fun j j0 j1 => absurd j1 (by show ¬ j < 0; omega)⟩ hq
    · have q := ho o o0 (by omega)
      have kb := hc.2.2.2.2.2.1 o o0 o1
      refine ⟨q.1, ?_, ?_⟩
      · rw [q.2.1]
        show (0 : Int) = if nestb S 109 o then 0 else (if nestb S 109 o then S 15 o else 0)
        by_cases z : nestb S 109 o
        · rw [if_pos z]
        · rw [if_neg z, if_neg z]
      · rw [q.2.2]
        show (if nestb S 109 o then 2147483647 else S 113 o) = if (if nestb S 109 o then S 15 o else 0) < S 15 o then S 113 o else 2147483647
        by_cases z : nestb S 109 o
        · rw [if_pos z, if_pos z, if_neg (by omega)]
        · rw [if_neg z, if_neg z, if_pos (by omega)]
    · have : (if nestb S 109 o then S 15 o else 0) = 0 := if_neg hno
      exact absurd i1 (by show ¬ i < (if nestb S 109 o then S 15 o else 0); omega)
  | m + 1, x2, σ, h0, hm, hF, h7, hmi, ho => by
    have hO := hc.2.1
    have e5 : σ 5 = S 5 := hF 5 (by decide)
    refine b68_109_3 ⟨fun z => absurd z (by rw [e5]; omega), fun _ => ?_⟩
    intro σ1 f1 σ2 f2
    rw [rput_in (by omega) (by omega)] at f1
    rw [rput_in (by omega) (by omega), f1] at f2
    have eT : σ2 109 = S 109 := by rw [f2, up_k (by decide), up_k (by decide)]; exact hF _ (by decide)
    have eB : rat σ2 113 5 x2 = S 113 x2 := by rw [rat_in (by omega) (by omega), f2, up_k (by decide), up_k (by decide), hF 113 (by decide)]
    have fin : ∀ v : Int, v = (if nestb S 109 x2 then 2147483647 else S 113 x2) → B68_109_5 (d + 5) Q x2 v x2 σ2 := by
      intro v hv
      refine b68_109_5 ?_
      intro σ3 f3
      rw [rput_in (by omega) (by omega), f2] at f3
      rw [wr_id (by omega) (by omega)]
      refine l68_109_3 hc hs hq m (x2 + 1) σ3 (by omega) (by omega) (fun k hk => ?_) ?_ (fun r r0 r1 => ?_) (fun o o0 o1 => ?_)
      · have hne : ∀ x, ncl x → k ≠ x := fun x hx e => hk (e ▸ hx)
        rw [f3, up_k (hne _ (by decide)), up_k (hne _ (by decide)), up_k (hne _ (by decide))]
        exact hF k hk
      · rw [f3, up_k (by decide), up_k (by decide), up_k (by decide)]; exact h7
      · rw [f3, up_k (by decide), up_k (by decide), up_k (by decide)]; exact hmi r r0 r1
      · by_cases q : o = x2
        · subst q
          simp [f3, up, hv]
        · have := ho o o0 (by omega)
          rw [f3]
          simp [up, q]
          exact this
    refine w23_109 ?_
    show ((if nestb σ2 109 x2 then (1 : Int) else 0) = 0 → _) ∧ _
    have en : (if nestb σ2 109 x2 then (1 : Int) else 0) = (if nestb S 109 x2 then (1 : Int) else 0) := by unfold nestb; rw [eT]
    rw [en]
    constructor
    · intro z
      refine b68_109_4 ?_
      rw [eB]
      refine fin _ ?_
      by_cases y : nestb S 109 x2
      · rw [if_pos y] at z; omega
      · rw [if_neg y]
    · intro z
      refine fin _ ?_
      by_cases y : nestb S 109 x2
      · rw [if_pos y]
      · rw [if_neg y] at z; exact absurd rfl z
theorem l68_109_1 {d : Nat} {Q : dR → dS → Prop} {S : dS} (hc : cityOK S) (hs : skyOK S 109) (hq : ∀ σ', RCN σ' S 109 (NF S 109) → Q (.inl none) σ') : ∀ (m : Nat) (x2 : Int) (σ : dS), 0 ≤ x2 → x2 + m = S 5 0 → (∀ k, ¬ ncl k → σ k = S k) → σ 114 7 = 0 → (∀ r, 0 ≤ r → r < x2 → σ 120 r = 2 * S 111 r) → B68_109_1 (d + 5) Q x2 σ
  | 0, x2, σ, h0, hm, hF, h7, hmi => by
    have hO := hc.2.1
    have e5 : σ 5 = S 5 := hF 5 (by decide)
    refine b68_109_1 ⟨fun _ => b68_109_2 (l68_109_3 hc hs hq (S 5 2).toNat 0 σ (by omega) (by omega) hF h7 (fun r r0 r1 => hmi r r0 (by omega)) (fun o o0 o1 => absurd o1 (by omega))), fun z => absurd (by rw [e5]; omega) z⟩
  | m + 1, x2, σ, h0, hm, hF, h7, hmi => by
    have hO := hc.1
    have hg : 0 ≤ S 111 x2 ∧ S 111 x2 ≤ 9 := hs.2.2.2.2.1 x2 h0 (by omega)
    have e5 : σ 5 = S 5 := hF 5 (by decide)
    refine b68_109_1 ⟨fun z => absurd z (by rw [e5]; omega), fun _ => ?_⟩
    intro σ1 f1
    have eg : rat σ 111 10 x2 = S 111 x2 := by rw [rat_in (by omega) (by omega), hF 111 (by decide)]
    rw [eg, wr_id (by omega) (by omega), rput_in (by omega) (by omega)] at f1
    rw [wr_id (by omega) (by omega)]
    refine l68_109_1 hc hs hq m (x2 + 1) σ1 (by omega) (by omega) (fun k hk => ?_) ?_ (fun r r0 r1 => ?_)
    · have hne : ∀ x, ncl x → k ≠ x := fun x hx e => hk (e ▸ hx)
      rw [f1, up_k (hne _ (by decide))]
      exact hF k hk
    · rw [f1, up_k (by decide)]; exact h7
    · rw [f1]
      by_cases q : r = x2
      · rw [q, up_same]
      · rw [up_i q]; exact hmi r r0 (by omega)
/-- THE CLASS'S NIGHT over sky 109 -/
theorem w68_109 {d : Nat} {Q : dR → dS → Prop} {K : dS → Prop} {S : dS} (hc : cityOK S) (hs : skyOK S 109) (hq : ∀ σ', RCN σ' S 109 (NF S 109) → K σ') : wV (d + 7) 68 [.inr (.inr 114), .inr (.inr 109)] S Q K := by
  have hO := hc.1
  refine c68_109 (b68_109_0 ?_)
  intro σ1 f1
  refine l68_109_1 hc hs hq (S 5 0).toNat 0 σ1 (by omega) (by omega) (fun k hk => ?_) ?_ (fun r r0 r1 => absurd r1 (by omega))
  · have hne : ∀ x, ncl x → k ≠ x := fun x hx e => hk (e ▸ hx)
    rw [f1, up_k (hne _ (by decide))]
  · rw [f1, up_same]
