/-! watch, the reference -/
section WATCHM
variable {d : Nat} {Q : dR → dS → Prop} {σ V S : dS}
theorem w160 {K : Int → dS → Prop} {a b : Int} (a0 : 0 ≤ a) (a1 : a ≤ 100000) (b0 : 0 ≤ b) (b1 : b ≤ 100000) (h : K (if a - b < 0 then -(a - b) else a - b) σ) : wI (d + 2) 160 [.inl a, .inl b] σ Q K := by
  refine c160 (b160_0 ⟨fun z => b160_1 (b160_2 ?_), fun z => b160_2 ?_⟩)
  · rw [if_neg (by omega)] at h
    rw [wr_id (by omega) (by omega)]; exact h
  · rw [if_pos (by omega)] at h
    rw [wr_id (by omega) (by omega)]
    have e : b - a = -(a - b) := by omega
    rw [e]; exact h
theorem l260_16 {S0 : dS} {m : Int} (hR : 0 ≤ V 5 0 ∧ V 5 0 ≤ 10) (e1 : σ 153 1 = V 5 0) (h193 : ∀ r, 0 ≤ r → r < V 5 0 → σ 193 r = oft S0 V m r 5) (hq : Q (.inl (some (.inl (wbs (ofd S0 V m) (V 5 0).toNat)))) σ) : ∀ (c k : Nat), (k : Int) + c = V 5 0 → B260_16 (d + 2) Q (nft S0 V 5) (wbs (ofd S0 V m) k) (k : Int) σ
  | 0, k, hk => by
    have ek : k = (V 5 0).toNat := by omega
    refine b260_16 ⟨fun _ => b260_19 ?_, fun z => absurd (by omega) z⟩
    rw [ek]; exact hq
  | c + 1, k, hk => by
    have ih := l260_16 hR e1 h193 hq c (k + 1) (by omega)
    have ew : wr ((k : Int) + 1) = ((k + 1 : Nat) : Int) := by rw [wr_id (by omega) (by omega)]; omega
    have n5 := nft_r S0 V 5
    have wr_ := wbs_r (ofd S0 V m) k
    have o5 := oft_r S0 V m (k : Int) 5
    have o6 := oft_r S0 V m (wbs (ofd S0 V m) k) 5
    have yes : (wbs (ofd S0 V m) k = -1 ∨ ofd S0 V m (k : Int) < ofd S0 V m (wbs (ofd S0 V m) k)) → B260_17 (d + 2) Q (nft S0 V 5) (k : Int) σ := by
      intro z
      rw [wbs, if_pos z] at ih
      refine b260_17 (b260_18 ?_)
      rw [ew]; exact ih
    refine b260_16 ⟨fun z => absurd z (by omega), fun _ => ⟨fun z => yes (Or.inl z), fun z => ⟨by omega, by omega, ?_⟩⟩⟩
    rw [h193 _ (by omega) (by omega), wr_id (x := 2 * oft S0 V m (k : Int) 5) (by omega) (by omega)]
    refine w160 (by omega) (by omega) (by omega) (by omega) ⟨by omega, by omega, ?_⟩
    rw [h193 _ (by omega) (by omega), wr_id (x := 2 * oft S0 V m (wbs (ofd S0 V m) k) 5) (by omega) (by omega)]
    refine w160 (by omega) (by omega) (by omega) (by omega) ?_
    have ea : (if 2 * oft S0 V m (k : Int) 5 - nft S0 V 5 < 0 then -(2 * oft S0 V m (k : Int) 5 - nft S0 V 5) else 2 * oft S0 V m (k : Int) 5 - nft S0 V 5) = ofd S0 V m (k : Int) := rfl
    have eb : (if 2 * oft S0 V m (wbs (ofd S0 V m) k) 5 - nft S0 V 5 < 0 then -(2 * oft S0 V m (wbs (ofd S0 V m) k) 5 - nft S0 V 5) else 2 * oft S0 V m (wbs (ofd S0 V m) k) 5 - nft S0 V 5) = ofd S0 V m (wbs (ofd S0 V m) k) := rfl
    rw [ea, eb]
    refine ⟨fun y => b260_18 ?_, fun y => yes (Or.inr (by omega))⟩
    rw [wbs, if_neg (fun q => q.elim z (fun w => by omega))] at ih
    rw [ew]; exact ih
theorem l260_7 {m r x2 x3 x4 : Int} (hc : cityOK V) (hs : skyOK V 109) (hM : MN S V) (hq : B260_11 (d + 3) Q m x2 x3 x4 r (ano V m r (V 5 2).toNat) S) : ∀ (c o : Nat), (o : Int) + c = V 5 2 → B260_7 (d + 3) Q m x2 x3 x4 r (ano V m r o) (o : Int) S
  | 0, o, ho => by
    have e3 := hM.1.2.1
    have eo : o = (V 5 2).toNat := by omega
    refine b260_7 ⟨fun _ => ?_, fun z => absurd (by omega) z⟩
    rw [eo]; exact hq
  | c + 1, o, ho => by
    have hO := hc.2.1
    have e3 := hM.1.2.1
    have ih := l260_7 hc hs hM hq c (o + 1) (by omega)
    have ew : wr ((o : Int) + 1) = ((o + 1 : Nat) : Int) := by rw [wr_id (by omega) (by omega)]; omega
    have yes : (ano V m r o ≠ 0 ∨ whr V (o : Int) m = r) → B260_8 (d + 3) Q m x2 x3 x4 r (o : Int) S := by
      intro z
      rw [ano, if_pos z] at ih
      refine b260_8 (b260_10 ?_)
      rw [ew]; exact ih
    refine b260_7 ⟨fun z => absurd z (by omega), fun _ => ⟨fun z => yes (Or.inl z), fun z => w206 hc hs hM (by omega) (by omega) ⟨fun y => b260_9 (b260_10 ?_), fun y => yes (Or.inr (Decidable.of_not_not y))⟩⟩⟩
    rw [ano, if_neg (fun q => q.elim z y)] at ih
    rw [ew]; exact ih
theorem l260_6 {m x2 x3 x4 : Int} (hc : cityOK V) (hs : skyOK V 109) (hM : MN S V) (h100 : ∀ r, 0 ≤ r → r < V 5 0 → 0 ≤ S 193 r ∧ S 193 r ≤ 100) (hq : ∀ σ', (∀ k, k ≠ 193 → σ' k = S k) → (∀ r, 0 ≤ r → r < V 5 0 → σ' 193 r = S 193 r + ano V m r (V 5 2).toNat) → B260_14 (d + 3) Q m x2 x3 x4 σ') : ∀ (c : Nat) (r : Int) (σ : dS), 0 ≤ r → r + c = V 5 0 → (∀ k, k ≠ 193 → σ k = S k) → (∀ j, 0 ≤ j → j < V 5 0 → σ 193 j = S 193 j + (if j < r then ano V m j (V 5 2).toNat else 0)) → B260_6 (d + 3) Q m x2 x3 x4 r σ
  | 0, r, σ, r0, hr, hF, h193 => by
    have e1 : σ 153 1 = V 5 0 := by rw [hF 153 (by decide)]; exact hM.1.1
    refine b260_6 ⟨fun _ => hq σ hF (fun j j0 j1 => ?_), fun z => absurd (by omega) z⟩
    rw [h193 j j0 j1, if_pos (by omega)]
  | c + 1, r, σ, r0, hr, hF, h193 => by
    have hRo := hc.1
    have hO := hc.2.1
    have e1 : σ 153 1 = V 5 0 := by rw [hF 153 (by decide)]; exact hM.1.1
    have hM' : MN σ V := MN_k (fun k h1 h2 => hF k (by omega)) hM
    have a := ano_r V m r (V 5 2).toNat
    have e := h193 r r0 (by omega)
    rw [if_neg (by omega), Int.add_zero] at e
    have b := h100 r r0 (by omega)
    refine b260_6 ⟨fun z => absurd z (by omega), fun _ => l260_7 hc hs hM' (b260_11 ⟨r0, by omega, ?_⟩) (V 5 2).toNat 0 (by omega)⟩
    rw [e]
    have go : ∀ v, v = ano V m r (V 5 2).toNat → B260_13 (d + 3) Q m x2 x3 x4 r v (S 193 r) r σ := by
      intro v hv
      refine b260_13 ⟨r0, by omega, fun σ1 f1 => ?_⟩
      rw [wr_id (x := S 193 r + v) (by omega) (by omega)] at f1
      rw [wr_id (by omega) (by omega)]
      refine l260_6 hc hs hM h100 hq c (r + 1) σ1 (by omega) (by omega) (fun k hk => by rw [f1, up_k hk]; exact hF k hk) (fun j j0 j1 => ?_)
      rw [f1]
      by_cases w : j = r
      · rw [w, up_same, if_pos (by omega), hv]
      · rw [up_i w, h193 j j0 j1]
        by_cases q : j < r
        · rw [if_pos q, if_pos (by omega)]
        · rw [if_neg q, if_neg (by omega)]
    exact ⟨fun z => b260_12 (go 0 z.symm), fun z => go 1 (a.resolve_left z).symm⟩
theorem l260_3 {S0 : dS} {m x2 : Int} (hI : INV S0) (hW : VWK V) (h5 : V 5 = S0 5) (e26 : V 26 0 = S0 26 0) (hMc : MVc S0 V) (hq : ∀ σ', (∀ k, k ≠ 174 → ¬ nml k → k ≠ 193 → σ' k = S0 k) → (∀ i, i ≠ 0 → σ' 174 i = S0 174 i) → σ' 174 0 = x2 → Q (.inl (some (.inl (wbs (ofd S0 V m) (V 5 0).toNat)))) σ') : ∀ (c k : Nat) (a : Int) (S : dS), k + c = 5 → (∀ k, k ≠ 174 → ¬ nml k → k ≠ 193 → S k = S0 k) → (∀ i, i ≠ 0 → S 174 i = S0 174 i) → MVc S (up V 109 0 a) → MVs S (up V 109 0 a) → (∀ r, 0 ≤ r → r < V 5 0 → S 193 r = oft S0 V m r k) → B260_3 (d + 8) Q m x2 (nft S0 V k) (k : Int) S
  | 0, k, a, S, hk, hF, h174, m1, m2, h193 => by
    have ek : k = 5 := by omega
    subst ek
    have hRo := hW.1.1
    refine b260_3 ⟨fun _ => b260_15 ⟨by decide, by decide, fun σ1 f1 => ?_⟩, fun z => absurd (by decide) z⟩
    refine l260_16 (d := d + 6) (m := m) hRo ?_ (fun r r0 r1 => by rw [f1, up_k (by decide)]; exact h193 r r0 r1) (hq σ1 (fun k q1 q2 q3 => by rw [f1, up_k q1]; exact hF k q1 q2 q3) (fun i hi => by rw [f1, up_i hi]; exact h174 i hi) (by rw [f1, up_same])) (V 5 0).toNat 0 (by omega)
    rw [f1, up_k (by decide), hF 153 (by decide) (by decide) (by decide)]; exact hMc.1
  | c + 1, k, a, S, hk, hF, h174, m1, m2, h193 => by
    have hRo := hW.1.1
    have ew : wr ((k : Int) + 1) = ((k + 1 : Nat) : Int) := by rw [wr_id (by omega) (by omega)]; omega
    have e5 : S 153 5 = S0 26 0 := by rw [hF 153 (by decide) (by decide) (by decide), hMc.2.2.2.1]; exact e26
    have n5 := nft_r S0 V k
    have no : ¬ fq S0 V (k : Int) → ∀ a' S', (∀ k, k ≠ 174 → ¬ nml k → k ≠ 193 → S' k = S0 k) → (∀ i, i ≠ 0 → S' 174 i = S0 174 i) → MVc S' (up V 109 0 a') → MVs S' (up V 109 0 a') → (∀ r, 0 ≤ r → r < V 5 0 → S' 193 r = oft S0 V m r k) → B260_14 (d + 8) Q m x2 (nft S0 V k) (k : Int) S' := by
      intro z a' S' q1 q2 q3 q4 q5
      have ih := l260_3 hI hW h5 e26 hMc hq c (k + 1) a' S' (by omega) q1 q2 q3 q4 (fun r r0 r1 => by rw [oft, if_neg (by rw [fqv_n z]; decide), Int.add_zero]; exact q5 r r0 r1)
      rw [nft, fqv_n z, Int.add_zero] at ih
      refine b260_14 ?_
      rw [ew]; exact ih
    have try_ : ((k : Int) < S0 26 0 ∨ (k : Int) = 4) → B260_4 (d + 8) Q m x2 (nft S0 V k) (k : Int) S := by
      intro hb
      have W2 := fv_W hW (b := (k : Int)) (by rw [e26]; exact hb) (by omega)
      have e5v : fvw V (k : Int) 5 = V 5 := fv_k (by decide)
      refine b260_4 (w258 hI hW h5 e26 (by omega) hb hF m1 m2 (fun z σ' g1 g2 g3 => ⟨fun _ => b260_5 ?_, fun q => absurd (by decide) q⟩) (fun z σ' g1 g2 g3 => ⟨fun q => absurd rfl q, fun _ => no z _ σ' (fun k q1 q2 q3 => by rw [g1 k q1 q2]; exact hF k q1 q2 q3) (fun i hi => by rw [g2 i hi]; exact h174 i hi) g3.1 g3.2.1 (fun r r0 r1 => by rw [g1 193 (by decide) (by decide)]; exact h193 r r0 r1)⟩))
      have h1 : ∀ r, 0 ≤ r → r < V 5 0 → σ' 193 r = oft S0 V m r k := fun r r0 r1 => by rw [g1 193 (by decide) (by decide)]; exact h193 r r0 r1
      rw [wr_id (by omega) (by omega)]
      refine l260_6 (d := d + 5) (S := σ') W2.1 W2.2.1 g3 (fun r r0 r1 => ?_) (fun σ2 g4 g5 => b260_14 ?_) (V 5 0).toNat 0 σ' (by omega) (by rw [e5v]; omega) (fun _ _ => rfl) (fun j j0 j1 => by rw [if_neg (by omega), Int.add_zero])
      · rw [e5v] at r1
        rw [h1 r r0 r1]
        have := oft_r S0 V m r k
        omega
      · have ih := l260_3 hI hW h5 e26 hMc hq c (k + 1) (if (k : Int) = 4 then -1 else (k : Int)) σ2 (by omega) (fun k q1 q2 q3 => by rw [g4 k q3, g1 k q1 q2]; exact hF k q1 q2 q3) (fun i hi => by rw [g4 174 (by decide), g2 i hi]; exact h174 i hi) (MVc_k (fun x hx => g4 x (by omega)) g3.1) (MVs_k (g4 174 (by decide)) g3.2.1) (fun r r0 r1 => by rw [oft, if_pos (fqv_y z), g5 r r0 (by rw [e5v]; exact r1), h1 r r0 r1, e5v])
        rw [nft, fqv_y z] at ih
        rw [ew]; exact ih
    refine b260_3 ⟨fun z => absurd z (by omega), fun _ => ⟨fun z => try_ (Or.inl (by rw [← e5]; exact z)), fun z => ⟨fun y => no (fun q => ?_) a S hF h174 m1 m2 h193, fun y => try_ (Or.inr (by omega))⟩⟩⟩
    rw [e5] at z
    rcases q.1 with q | q
    · exact z q
    · exact y q
theorem l260_1 {S0 : dS} {m x2 x3 : Int} (hR : 0 ≤ V 5 0 ∧ V 5 0 ≤ 10) (e1 : S0 153 1 = V 5 0) (hq : ∀ σ', (∀ k, k ≠ 193 → σ' k = S0 k) → (∀ r, 0 ≤ r → r < V 5 0 → σ' 193 r = 0) → B260_2 d Q m x2 x3 σ') : ∀ (c : Nat) (r : Int) (S : dS), 0 ≤ r → r + c = V 5 0 → (∀ k, k ≠ 193 → S k = S0 k) → (∀ j, 0 ≤ j → j < r → S 193 j = 0) → B260_1 d Q m x2 x3 r S
  | 0, r, S, r0, hr, hF, h0 => by
    have e : S 153 1 = V 5 0 := by rw [hF 153 (by decide)]; exact e1
    exact b260_1 ⟨fun _ => hq S hF (fun j j0 j1 => h0 j j0 (by omega)), fun z => absurd (by omega) z⟩
  | c + 1, r, S, r0, hr, hF, h0 => by
    have e : S 153 1 = V 5 0 := by rw [hF 153 (by decide)]; exact e1
    refine b260_1 ⟨fun z => absurd z (by omega), fun _ => ⟨r0, by omega, fun σ1 f1 => ?_⟩⟩
    rw [wr_id (by omega) (by omega)]
    refine l260_1 hR e1 hq c (r + 1) σ1 (by omega) (by omega) (fun k hk => by rw [f1, up_k hk]; exact hF k hk) (fun j j0 j1 => ?_)
    rw [f1]
    by_cases w : j = r
    · rw [w, up_same]
    · rw [up_i w]; exact h0 j j0 (by omega)
theorem nft_k {σ' : dS} (h26 : σ' 26 = σ 26) (h82 : σ' 82 = σ 82) (h84 : σ' 84 = σ 84) (h86 : σ' 86 = σ 86) (h88 : σ' 88 = σ 88) : ∀ k, nft σ' V k = nft σ V k
  | 0 => rfl
  | k + 1 => by rw [nft, nft, nft_k h26 h82 h84 h86 h88 k, fts_k h26 h82 h84 h86 h88]
theorem oft_k {σ' : dS} (h26 : σ' 26 = σ 26) (h82 : σ' 82 = σ 82) (h84 : σ' 84 = σ 84) (h86 : σ' 86 = σ 86) (h88 : σ' 88 = σ 88) (m r : Int) : ∀ k, oft σ' V m r k = oft σ V m r k
  | 0 => rfl
  | k + 1 => by rw [oft, oft, oft_k h26 h82 h84 h86 h88 m r k, fts_k h26 h82 h84 h86 h88]
theorem m_watch {K : Int → dS → Prop} {m : Int} (hI : INV σ) (h : ∀ σ', FRM σ σ' → K (wbs (ofd σ (nrm σ 70) m) (σ 5 0).toNat) σ') : wI (d + 13) 260 [.inr (.inr 153), .inl m] σ Q K := by
  refine c260 (b260_0 ?_)
  intro σ1 f1
  obtain ⟨hT, hF1, hI1, en, e5, e1, e3, e4⟩ := m_begin hI f1
  have hW := VW_now hI
  have mc := INV_mc hI1
  have ms := INV_ms hI1
  rw [en] at mc ms
  have g26 : σ1 26 = σ 26 := hF1.1 26 (by decide) (by decide) (by decide)
  have g82 := hF1.1 82 (by decide) (by decide) (by decide)
  have g84 := hF1.1 84 (by decide) (by decide) (by decide)
  have g86 := hF1.1 86 (by decide) (by decide) (by decide)
  have g88 := hF1.1 88 (by decide) (by decide) (by decide)
  have hRo := hW.1.1
  have e50 : nrm σ 70 5 = σ 5 := nrm_c (k := 5) (by decide)
  refine ⟨by decide, by decide, ?_⟩
  refine l260_1 (V := nrm σ 70) (S0 := σ1) hRo (by rw [e1, e50]) (fun σ2 p1 p2 => b260_2 ?_) (nrm σ 70 5 0).toNat 0 σ1 (by omega) (by omega) (fun _ _ => rfl) (fun j j0 j1 => absurd j1 (by omega))
  refine l260_3 (d := d + 3) (V := nrm σ 70) (S0 := σ1) hI1 hW (by rw [e50, e5]) (by rw [nrm_c (k := 26) (by decide), g26]) mc (fun σ' q1 q2 q3 => ?_) 5 0 (nrm σ 70 109 0) σ2 (by omega) (fun k _ _ q => p1 k q) (fun i _ => by rw [p1 174 (by decide)]) (by rw [up_self]; exact MVc_k (fun k hk => p1 k (by omega)) mc) (by rw [up_self]; exact MVs_k (p1 174 (by decide)) ms) (fun r r0 r1 => p2 r r0 r1)
  have eo : ofd σ1 (nrm σ 70) m = ofd σ (nrm σ 70) m := by
    funext r
    unfold ofd
    rw [nft_k g26 g82 g84 g86 g88, oft_k g26 g82 g84 g86 g88]
  rw [eo, e50]
  refine h σ' (FRM_tr hF1 ⟨fun k w1 w2 w3 => q1 k w3 (fun z => w1 (Or.inr (by omega))) (fun z => w1 (Or.inr (by omega))), fun j _ => by rw [q1 153 (by decide) (by decide) (by decide)], fun j j0 j1 => ?_⟩)
  by_cases e : j = 0
  · subst e; exact q3
  · exact q2 j e
end WATCHM
