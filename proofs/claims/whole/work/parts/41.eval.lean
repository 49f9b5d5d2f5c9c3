/-! A RULE'S CODE: both evaluations -/
def enc (s : Int) : List Int := if 0 ≤ s then [1, s] else if 140 ≤ -s then [2, -s - 140] else if s = -139 then [3] else [en (-s)]
def flt : List Int → List Int
  | [] => [0]
  | s :: cs => enc s ++ flt cs
theorem seg_app {σ : dS} {k : Nat} : ∀ {xs ys : List Int} {a : Int}, seg σ k a (xs ++ ys) ↔ seg σ k a xs ∧ seg σ k (a + xs.length) ys
  | [], ys, a => by simp [seg]
  | x :: xs, ys, a => by
    simp only [List.cons_append, seg, List.length_cons]
    rw [seg_app, show a + 1 + (xs.length : Int) = a + ((xs.length + 1 : Nat) : Int) by omega]
    exact and_assoc.symm
theorem en_r (s : Int) : 4 ≤ en s ∧ en s ≤ 11 := by
  unfold en
  by_cases n1 : s = 42
  · rw [if_pos n1]; omega
  rw [if_neg n1]
  by_cases n2 : s = 43
  · rw [if_pos n2]; omega
  rw [if_neg n2]
  by_cases n3 : s = 45
  · rw [if_pos n3]; omega
  rw [if_neg n3]
  by_cases n4 : s = 47
  · rw [if_pos n4]; omega
  rw [if_neg n4]
  by_cases n5 : s = 60
  · rw [if_pos n5]; omega
  rw [if_neg n5]
  by_cases n6 : s = 61
  · rw [if_pos n6]; omega
  rw [if_neg n6]
  by_cases n7 : s = 138
  · rw [if_pos n7]; omega
  rw [if_neg n7]; omega
theorem l201 {d : Nat} {Q : dR → dS → Prop} {w : Int → Int} {S : dS} : ∀ (cs : List Int) (st : List Int) (x3 : Int) (σ : dS), 0 ≤ x3 → x3 + (flt cs).length ≤ 2800 → vl cs st.length → st.length ≤ 64 → seg S 160 x3 (flt cs) → stk σ 179 st → (∀ j, 0 ≤ j → j < 7 → S 178 j = w j) → (∀ k, k ≠ 179 → σ k = S k) → (∀ σ', (∀ k, k ≠ 179 → σ' k = S k) → Q (.inl (some (.inl (hd (evs w cs st))))) σ') → B201_1 (d + 1) Q (st.length : Int) x3 σ
  | [], st, x3, σ, h0, hl, hv, hs, hg, hk, hw, hf, hq => by
    simp only [flt, List.length_cons, List.length_nil] at hl
    have e : σ 160 x3 = 0 := by rw [hf 160 (by decide)]; exact hg.1
    refine b201_1 ⟨h0, by omega, fun _ => b201_10 ⟨by omega, by omega, ?_⟩, fun n => absurd e n⟩
    match st, hv, hk with
    | [v], hv, hk =>
      have e : σ 179 0 = v := hk.1
      rw [e]
      exact hq σ hf
  | s :: cs, st, x3, σ, h0, hl, hv, hs, hg, hk, hw, hf, hq => by
    simp only [flt] at hl hg
    rw [seg_app] at hg
    rw [List.length_append] at hl
    unfold vl at hv
    have go : ∀ (st' : List Int) (x3' : Int) (σ' : dS), x3' = x3 + (enc s).length → st' = ev1 w s st → vl cs st'.length → st'.length ≤ 64 → stk σ' 179 st' → (∀ k, k ≠ 179 → σ' k = S k) → B201_9 (d + 1) Q (st'.length : Int) x3' σ' := by
      intro st' x3' σ' ex e v1 v2 v3 v4
      refine b201_9 ?_
      refine l201 cs st' x3' σ' (by omega) (by omega) v1 v2 (by rw [ex]; exact hg.2) v3 hw v4 ?_
      rw [e]
      exact hq
    by_cases hpos : 0 ≤ s
    · rw [if_pos hpos] at hv
      have he : enc s = [1, s] := by unfold enc; rw [if_pos hpos]
      rw [he] at hg hl go
      simp only [List.length_cons, List.length_nil] at hl
      have g1 : σ 160 x3 = 1 := by rw [hf 160 (by decide)]; exact hg.1.1
      have g2 : σ 160 (x3 + 1) = s := by rw [hf 160 (by decide)]; exact hg.1.2.1
      refine b201_1 ⟨h0, by omega, fun q => absurd q (by omega), fun _ => ⟨h0, by omega, fun _ => ?_, fun n => absurd g1 n⟩⟩
      rw [g1, wr_id (by omega) (by omega)]
      refine b201_2 ⟨fun n => absurd rfl n, fun _ => ⟨by omega, by omega, ?_⟩⟩
      rw [g2]
      refine b201_4 ⟨by omega, by omega, ?_⟩
      intro σ1 e1
      rw [wr_id (by omega) (by omega), wr_id (by omega) (by omega)]
      have := go (s :: st) (x3 + 1 + 1) σ1 (by simp only [List.length_cons, List.length_nil]; omega) (by unfold ev1; rw [if_pos (by omega)]) (by simpa using hv.2.2) (by simp; omega) (by rw [e1]; exact ⟨up_same _ _ _ _, (stk_up (by omega)).mpr hk⟩) (fun k hk' => by rw [e1, up_k hk']; exact hf k hk')
      simpa using this
    · rw [if_neg hpos] at hv
      by_cases c1 : 140 ≤ -s
      · rw [if_pos c1] at hv
        have he : enc s = [2, -s - 140] := by unfold enc; rw [if_neg hpos, if_pos c1]
        rw [he] at hg hl go
        simp only [List.length_cons, List.length_nil] at hl
        have g1 : σ 160 x3 = 2 := by rw [hf 160 (by decide)]; exact hg.1.1
        have g2 : σ 160 (x3 + 1) = -s - 140 := by rw [hf 160 (by decide)]; exact hg.1.2.1
        have g3 : σ 178 (-s - 140) = w (-s - 140) := by rw [hf 178 (by decide)]; exact hw _ (by omega) (by omega)
        refine b201_1 ⟨h0, by omega, fun q => absurd q (by omega), fun _ => ⟨h0, by omega, fun q => absurd q (by omega), fun _ => ⟨fun n => absurd g1 n, fun _ => ?_⟩⟩⟩
        rw [g1, wr_id (by omega) (by omega)]
        refine b201_2 ⟨fun _ => b201_3 ⟨by omega, by omega, by omega, by omega, ?_⟩, fun n => absurd (by omega) n⟩
        rw [g2, g3]
        refine b201_4 ⟨by omega, by omega, ?_⟩
        intro σ1 e1
        rw [wr_id (by omega) (by omega), wr_id (by omega) (by omega)]
        have := go (w (-s - 140) :: st) (x3 + 1 + 1) σ1 (by simp only [List.length_cons, List.length_nil]; omega) (by unfold ev1; rw [if_neg (by omega), if_pos c1]) (by simpa using hv.2.2) (by simp; omega) (by rw [e1]; exact ⟨up_same _ _ _ _, (stk_up (by omega)).mpr hk⟩) (fun k hk' => by rw [e1, up_k hk']; exact hf k hk')
        simpa using this
      · rw [if_neg c1] at hv
        by_cases c2 : s = -139
        · rw [if_pos c2] at hv
          have he : enc s = [3] := by unfold enc; rw [if_neg hpos, if_neg c1, if_pos c2]
          rw [he] at hg hl go
          simp only [List.length_cons, List.length_nil] at hl
          have g1 : σ 160 x3 = 3 := by rw [hf 160 (by decide)]; exact hg.1.1
          refine b201_1 ⟨h0, by omega, fun q => absurd q (by omega), fun _ => ⟨h0, by omega, fun q => absurd q (by omega), fun _ => ⟨fun _ => ?_, fun n => absurd (by omega) n⟩⟩⟩
          rw [g1, wr_id (by omega) (by omega)]
          match st, hk, hv, hs, go with
          | a :: r, hk, hv, hs, go =>
            simp only [List.length_cons] at hs hv
            have e2 : wr (((a :: r).length : Int) - 1) = (r.length : Int) := by
              rw [wr_id (by simp only [List.length_cons]; omega) (by simp only [List.length_cons]; omega)]
              simp only [List.length_cons]; omega
            have e3 : σ 179 (r.length : Int) = a := hk.1
            refine b201_5 ⟨fun n => absurd rfl n, fun _ => ?_⟩
            rw [e2, e3]
            have fin : ∀ v, v = (if a = 0 then 1 else 0) → B201_7 (d + 1) Q ((a :: r).length : Int) (x3 + 1) v (r.length : Int) σ := by
              intro v hvv
              refine b201_7 ⟨by omega, by omega, ?_⟩
              intro σ1 e1
              exact go (v :: r) (x3 + 1) σ1 (by simp only [List.length_cons, List.length_nil]; omega) (by unfold ev1; rw [if_neg (by omega), if_neg c1, if_pos c2, hvv]) (by simpa using hv.2) (by simpa using hs) (by rw [e1]; exact ⟨up_same _ _ _ _, (stk_up (by omega)).mpr hk.2⟩) (fun k hk' => by rw [e1, up_k hk']; exact hf k hk')
            refine ⟨by omega, by omega, fun z => b201_6 (fin _ ?_), fun z => fin _ ?_⟩
            · rw [if_neg z]
            · rw [if_pos (by omega)]
        · rw [if_neg c2] at hv
          have he : enc s = [en (-s)] := by unfold enc; rw [if_neg hpos, if_neg c1, if_neg c2]
          rw [he] at hg hl go
          simp only [List.length_cons, List.length_nil] at hl
          have g1 : σ 160 x3 = en (-s) := by rw [hf 160 (by decide)]; exact hg.1.1
          have er := en_r (-s)
          refine b201_1 ⟨h0, by omega, fun q => absurd q (by omega), fun _ => ⟨h0, by omega, fun q => absurd q (by omega), fun _ => ⟨fun _ => ?_, fun n => absurd (by omega) n⟩⟩⟩
          rw [g1, wr_id (by omega) (by omega)]
          match st, hk, hv, hs, go with
          | [], _, hv, _, _ => simp at hv
          | [_], _, hv, _, _ => simp at hv
          | b :: a :: r, hk, hv, hs, go =>
            simp only [List.length_cons] at hs hv
            have e1 : wr (((b :: a :: r).length : Int) + (-1)) = (r.length : Int) + 1 := by
              rw [wr_id (by simp only [List.length_cons]; omega) (by simp only [List.length_cons]; omega)]
              simp only [List.length_cons]; omega
            have e2 : wr ((r.length : Int) + 1 - 1) = (r.length : Int) := by
              rw [wr_id (by omega) (by omega)]; omega
            have ea : σ 179 (r.length : Int) = a := hk.2.1
            have eb : σ 179 ((r.length : Int) + 1) = b := by
              have := hk.1
              simpa using this
            refine b201_5 ⟨fun _ => b201_8 ?_, fun n => absurd (by omega) n⟩
            rw [e1, e2, ea, eb]
            refine ⟨by omega, by omega, by omega, by omega, w200 ⟨by omega, by omega, ?_⟩⟩
            intro σ1 e3
            have := go (jn (-s) a b :: r) (x3 + 1) σ1 (by simp only [List.length_cons, List.length_nil]; omega) (by unfold ev1; rw [if_neg (by omega), if_neg c1, if_neg c2]) (by simpa using hv.2.2) (by simp; omega) (by rw [e3]; exact ⟨up_same _ _ _ _, (stk_up (by omega)).mpr hk.2.2⟩) (fun k hk' => by rw [e3, up_k hk']; exact hf k hk')
            simpa using this
/-- where the code of a rule begins, over the city at cell ends e -/
def beg (σ : dS) (e : Nat) (r : Int) : Int := if r = 0 then 0 else σ e (r - 1)
/-- the code of rule r of the class's city -/
def cof (σ : dS) (r : Int) : List Int := (List.range (σ 30 r - beg σ 30 r).toNat).map (fun (j : Nat) => σ 28 (beg σ 30 r + (j : Int)))
theorem seg_map {σ : dS} {k : Nat} : ∀ (n : Nat) (a : Int), seg σ k a ((List.range n).map (fun (j : Nat) => σ k (a + (j : Int))))
  | 0, _ => trivial
  | n + 1, a => by
    rw [List.range_succ, List.map_append, seg_app]
    refine ⟨seg_map n a, ?_, trivial⟩
    simp
def ruleOK (σ : dS) (r : Int) : Prop := 0 ≤ beg σ 30 r ∧ beg σ 30 r ≤ σ 30 r ∧ σ 30 r ≤ 700 ∧ vl (cof σ r) 0 ∧ 0 ≤ σ 159 r ∧ σ 159 r + (flt (cof σ r)).length ≤ 2800 ∧ seg σ 160 (σ 159 r) (flt (cof σ r))
/-- what rule r is worth where the values are w -/
def evR (σ : dS) (r : Int) (w : Int → Int) : Int := hd (evs w (cof σ r) [])
theorem w18 {d : Nat} {Q : dR → dS → Prop} {K : Int → dS → Prop} {σ S : dS} {r : Int} {w : Int → Int} (h0 : 0 ≤ r) (h3 : r < 4) (hr : ruleOK S r) (hS : ∀ k, k = 28 ∨ k = 30 → σ k = S k) (hw : ∀ j, 0 ≤ j → j < 7 → σ 130 j = w j) (hq : ∀ σ', (∀ k, k ≠ 32 → σ' k = σ k) → K (evR S r w) σ') : wI (d + 3) 18 [.inr (.inr 26), .inl r, .inr (.inr 129)] σ Q K := by
  obtain ⟨q1, q2, q3, q4, _⟩ := hr
  have h30 : σ 30 = S 30 := hS 30 (Or.inr rfl)
  have h28 : σ 28 = S 28 := hS 28 (Or.inl rfl)
  have hg : seg σ 28 (beg S 30 r) (cof S r) := seg_k h28 (seg_map _ _)
  have hlen : beg S 30 r + ((cof S r).length : Int) = S 30 r := by
    unfold cof
    rw [List.length_map, List.length_range]
    omega
  have main := l18 (d := d) (Q := fun res σ1 => match res with | .inl (some (.inl v)) => K v σ1 | .inl _ => False | .inr e => Q (.inr e) σ1) (w := w) (S := σ) (cof S r) [] (S 30 r) (beg S 30 r) σ q1 hlen q3 q4 (by simp) hg trivial hw (fun _ _ => rfl) hq
  have e1 : rat σ 30 4 r = S 30 r := by rw [rat_in h0 (by omega), h30]
  refine c18 (b18_0 ?_)
  rw [e1]
  by_cases hz : r = 0
  · refine ⟨fun n => absurd hz n, fun _ => b18_2 ?_⟩
    have eb : beg S 30 r = 0 := by unfold beg; rw [if_pos hz]
    rw [eb] at main
    exact main
  · refine ⟨fun _ => b18_1 (b18_2 ?_), fun n => absurd hz n⟩
    have eb : beg S 30 r = S 30 (r - 1) := by unfold beg; rw [if_neg hz]
    rw [wr_id (by omega) (by omega), rat_in (by omega) (by omega), h30, ← eb]
    exact main
theorem w201 {d : Nat} {Q : dR → dS → Prop} {K : Int → dS → Prop} {σ S : dS} {r : Int} {w : Int → Int} (hr : ruleOK S r) (hS : σ 160 = S 160) (hw : ∀ j, 0 ≤ j → j < 7 → σ 178 j = w j) (hq : ∀ σ', (∀ k, k ≠ 179 → σ' k = σ k) → K (evR S r w) σ') : wI (d + 3) 201 [.inr (.inr 153), .inl (S 159 r)] σ Q K := by
  obtain ⟨q1, q2, q3, q4, q5, q6, q7⟩ := hr
  exact c201 (b201_0 (l201 (d := d) (Q := fun res σ1 => match res with | .inl (some (.inl v)) => K v σ1 | .inl _ => False | .inr e => Q (.inr e) σ1) (w := w) (S := σ) (cof S r) [] (S 159 r) σ q5 q6 q4 (by simp) (seg_k hS q7) trivial hw (fun _ _ => rfl) hq))
