/-! PURE BASE: reading and writing in range -/
theorem wr_id {x : Int} (h1 : -2147483648 ≤ x) (h2 : x < 2147483648) : wr x = x := wr_eq ⟨h1, h2⟩
theorem rat_in {σ : dS} {k n : Nat} {i : Int} (h0 : 0 ≤ i) (h1 : i < (n : Int)) : rat σ k n i = σ k i := if_pos ⟨h0, h1⟩
theorem rput_in {σ : dS} {k n : Nat} {i v : Int} (h0 : 0 ≤ i) (h1 : i < (n : Int)) : rput σ k n i v = up σ k i v := if_pos ⟨h0, h1⟩
theorem up_k {σ : dS} {k k' : Nat} {i v : Int} (h : k' ≠ k) : up σ k i v k' = σ k' := by
  funext j
  exact up_ne σ (fun q => h q.1)
theorem up_i {σ : dS} {k : Nat} {i i' v : Int} (h : i' ≠ i) : up σ k i v k i' = σ k i' := up_ne σ (fun q => h q.2)
/-! WHAT A RULE'S CODE IS WORTH -/
def jn (x0 x1 x2 : Int) : Int := if x0 = 42 then wr (x1 * x2) else if x0 = 43 then wr (x1 + x2) else if x0 = 45 then wr (x1 - x2) else if x0 = 47 then (if x2 ≠ 0 then idv x1 x2 else 0) else if x0 = 60 then (if x2 ≤ x1 then 0 else 1) else if x0 = 61 then (if x1 ≠ x2 then 0 else 1) else if x0 = 138 then (if x1 = 0 then 0 else if x2 = 0 then 0 else 1) else (if x1 ≠ 0 then 1 else if x2 = 0 then 0 else 1)
theorem w19 {d : Nat} {Q : dR → dS → Prop} {K : Int → dS → Prop} {x0 x1 x2 : Int} {σ : dS} (h : K (jn x0 x1 x2) σ) : wI (d + 2) 19 [.inl x0, .inl x1, .inl x2] σ Q K := by
  unfold jn at h
  refine c19 (b19_0 ⟨fun e => b19_3 ?_, fun n1 => ⟨fun e => b19_1 ?_, fun n2 => ⟨fun e => b19_2 ?_, fun n3 => ⟨fun e => b19_4 ⟨fun z => b19_5 ⟨z, b19_6 ?_⟩, fun z => b19_6 ?_⟩, fun n4 => ⟨fun e => b19_7 ⟨fun z => b19_8 (b19_9 ?_), fun z => b19_9 ?_⟩, fun n5 => ⟨fun e => b19_10 ⟨fun z => b19_11 (b19_12 ?_), fun z => b19_12 ?_⟩, fun n6 => ⟨fun e => b19_13 ⟨fun z => b19_14 (b19_15 ?_), fun z => ⟨fun y => b19_14 (b19_15 ?_), fun y => b19_15 ?_⟩⟩, fun n7 => b19_16 ⟨fun z => b19_17 (b19_19 ?_), fun z => ⟨fun y => b19_18 (b19_19 ?_), fun y => b19_17 (b19_19 ?_)⟩⟩⟩⟩⟩⟩⟩⟩⟩)
  · rw [if_pos e] at h; exact h
  · rw [if_neg n1, if_pos e] at h; exact h
  · rw [if_neg n1, if_neg n2, if_pos e] at h; exact h
  · rw [if_neg n1, if_neg n2, if_neg n3, if_pos e, if_pos z] at h; exact h
  · rw [if_neg n1, if_neg n2, if_neg n3, if_pos e, if_neg z] at h; exact h
  · rw [if_neg n1, if_neg n2, if_neg n3, if_neg n4, if_pos e, if_pos z] at h; exact h
  · rw [if_neg n1, if_neg n2, if_neg n3, if_neg n4, if_pos e, if_neg z] at h; exact h
  · rw [if_neg n1, if_neg n2, if_neg n3, if_neg n4, if_neg n5, if_pos e, if_pos z] at h; exact h
  · rw [if_neg n1, if_neg n2, if_neg n3, if_neg n4, if_neg n5, if_pos e, if_neg z] at h; exact h
  · rw [if_neg n1, if_neg n2, if_neg n3, if_neg n4, if_neg n5, if_neg n6, if_pos e, if_pos z] at h; exact h
  · rw [if_neg n1, if_neg n2, if_neg n3, if_neg n4, if_neg n5, if_neg n6, if_pos e, if_neg z, if_pos y] at h; exact h
  · rw [if_neg n1, if_neg n2, if_neg n3, if_neg n4, if_neg n5, if_neg n6, if_pos e, if_neg z, if_neg y] at h; exact h
  · rw [if_neg n1, if_neg n2, if_neg n3, if_neg n4, if_neg n5, if_neg n6, if_neg n7, if_pos z] at h; exact h
  · rw [if_neg n1, if_neg n2, if_neg n3, if_neg n4, if_neg n5, if_neg n6, if_neg n7, if_neg z, if_pos y] at h; exact h
  · rw [if_neg n1, if_neg n2, if_neg n3, if_neg n4, if_neg n5, if_neg n6, if_neg n7, if_neg z, if_neg y] at h; exact h
/-- the reference's word for an operator of the class -/
def en (s : Int) : Int := if s = 42 then 10 else if s = 43 then 8 else if s = 45 then 9 else if s = 47 then 11 else if s = 60 then 6 else if s = 61 then 7 else if s = 138 then 4 else 5
theorem w200 {d : Nat} {Q : dR → dS → Prop} {K : Int → dS → Prop} {x0 x1 x2 : Int} {σ : dS} (h : K (jn x0 x1 x2) σ) : wI (d + 2) 200 [.inl (en x0), .inl x1, .inl x2] σ Q K := by
  refine c200 (b200_0 ?_)
  unfold jn at h
  unfold en
  by_cases n1 : x0 = 42
  · rw [if_pos n1] at h ⊢
    exact ⟨fun e => absurd e (by omega), fun _ => ⟨fun e => absurd e (by omega), fun _ => ⟨fun e => absurd e (by omega), fun _ => ⟨fun e => absurd e (by omega), fun _ => ⟨fun e => absurd e (by omega), fun _ => ⟨fun e => absurd e (by omega), fun _ => ⟨fun _ => b200_16 h, fun q => absurd rfl q⟩⟩⟩⟩⟩⟩⟩
  rw [if_neg n1] at h ⊢
  by_cases n2 : x0 = 43
  · rw [if_pos n2] at h ⊢
    exact ⟨fun e => absurd e (by omega), fun _ => ⟨fun e => absurd e (by omega), fun _ => ⟨fun e => absurd e (by omega), fun _ => ⟨fun e => absurd e (by omega), fun _ => ⟨fun _ => b200_14 h, fun q => absurd rfl q⟩⟩⟩⟩⟩
  rw [if_neg n2] at h ⊢
  by_cases n3 : x0 = 45
  · rw [if_pos n3] at h ⊢
    exact ⟨fun e => absurd e (by omega), fun _ => ⟨fun e => absurd e (by omega), fun _ => ⟨fun e => absurd e (by omega), fun _ => ⟨fun e => absurd e (by omega), fun _ => ⟨fun e => absurd e (by omega), fun _ => ⟨fun _ => b200_15 h, fun q => absurd rfl q⟩⟩⟩⟩⟩⟩
  rw [if_neg n3] at h ⊢
  by_cases n4 : x0 = 47
  · rw [if_pos n4] at h ⊢
    refine ⟨fun e => absurd e (by omega), fun _ => ⟨fun e => absurd e (by omega), fun _ => ⟨fun e => absurd e (by omega), fun _ => ⟨fun e => absurd e (by omega), fun _ => ⟨fun e => absurd e (by omega), fun _ => ⟨fun e => absurd e (by omega), fun _ => ⟨fun e => absurd e (by omega), fun _ => b200_17 ⟨fun z => b200_18 ⟨z, b200_19 ?_⟩, fun z => b200_19 ?_⟩⟩⟩⟩⟩⟩⟩⟩
    · rw [if_pos z] at h; exact h
    · rw [if_neg z] at h; exact h
  rw [if_neg n4] at h ⊢
  by_cases n5 : x0 = 60
  · rw [if_pos n5] at h ⊢
    refine ⟨fun e => absurd e (by omega), fun _ => ⟨fun e => absurd e (by omega), fun _ => ⟨fun _ => b200_8 ⟨fun z => b200_9 (b200_10 ?_), fun z => b200_10 ?_⟩, fun q => absurd rfl q⟩⟩⟩
    · rw [if_pos z] at h; exact h
    · rw [if_neg z] at h; exact h
  rw [if_neg n5] at h ⊢
  by_cases n6 : x0 = 61
  · rw [if_pos n6] at h ⊢
    refine ⟨fun e => absurd e (by omega), fun _ => ⟨fun e => absurd e (by omega), fun _ => ⟨fun e => absurd e (by omega), fun _ => ⟨fun _ => b200_11 ⟨fun z => b200_12 (b200_13 ?_), fun z => b200_13 ?_⟩, fun q => absurd rfl q⟩⟩⟩⟩
    · rw [if_pos z] at h; exact h
    · rw [if_neg z] at h; exact h
  rw [if_neg n6] at h ⊢
  by_cases n7 : x0 = 138
  · rw [if_pos n7] at h ⊢
    refine ⟨fun _ => b200_1 ⟨fun z => b200_2 (b200_3 ?_), fun z => ⟨fun y => b200_2 (b200_3 ?_), fun y => b200_3 ?_⟩⟩, fun q => absurd rfl q⟩
    · rw [if_pos z] at h; exact h
    · rw [if_neg z, if_pos y] at h; exact h
    · rw [if_neg z, if_neg y] at h; exact h
  rw [if_neg n7] at h ⊢
  refine ⟨fun e => absurd e (by omega), fun _ => ⟨fun _ => b200_4 ⟨fun z => b200_5 (b200_7 ?_), fun z => ⟨fun y => b200_6 (b200_7 ?_), fun y => b200_5 (b200_7 ?_)⟩⟩, fun q => absurd rfl q⟩⟩
  · rw [if_pos z] at h; exact h
  · rw [if_neg z, if_pos y] at h; exact h
  · rw [if_neg z, if_neg y] at h; exact h
/-- one step of a rule over a stack, its top first -/
def ev1 (w : Int → Int) (s : Int) (st : List Int) : List Int :=
  if 0 ≤ s then s :: st else if 140 ≤ -s then w (-s - 140) :: st else if s = -139 then (match st with
    | a :: r => (if a = 0 then 1 else 0) :: r
    | [] => []) else (match st with
    | b :: a :: r => jn (-s) a b :: r
    | _ => [])
def evs (w : Int → Int) (cs : List Int) (st : List Int) : List Int := cs.foldl (fun st s => ev1 w s st) st
/-- code that runs from n numbers on the stack to one, never above 64 -/
def vl : List Int → Nat → Prop
  | [], n => n = 1
  | s :: cs, n => if 0 ≤ s then s ≤ 9999 ∧ n < 64 ∧ vl cs (n + 1) else if 140 ≤ -s then -s ≤ 146 ∧ n < 64 ∧ vl cs (n + 1) else if s = -139 then 1 ≤ n ∧ vl cs n else (s = -42 ∨ s = -43 ∨ s = -45 ∨ s = -47 ∨ s = -60 ∨ s = -61 ∨ s = -138 ∨ s = -137) ∧ 2 ≤ n ∧ vl cs (n - 1)
def stk (σ : dS) (c : Nat) : List Int → Prop
  | [] => True
  | v :: r => σ c (r.length : Int) = v ∧ stk σ c r
theorem stk_up {σ : dS} {c : Nat} {i v : Int} : ∀ {st : List Int}, (st.length : Int) ≤ i → (stk (up σ c i v) c st ↔ stk σ c st)
  | [], _ => Iff.rfl
  | a :: r, h => by
    simp only [List.length_cons] at h
    unfold stk
    rw [stk_up (by omega), up_i (by omega)]
def seg (σ : dS) (k : Nat) (a : Int) : List Int → Prop
  | [] => True
  | v :: r => σ k a = v ∧ seg σ k (a + 1) r
theorem seg_k {σ σ' : dS} {k : Nat} (h : σ' k = σ k) : ∀ {cs : List Int} {a : Int}, seg σ k a cs → seg σ' k a cs
  | [], _, _ => trivial
  | _ :: _, _, q => ⟨by rw [h]; exact q.1, seg_k h q.2⟩
def hd : List Int → Int
  | v :: _ => v
  | [] => 0
theorem l18 {d : Nat} {Q : dR → dS → Prop} {w : Int → Int} {S : dS} : ∀ (cs : List Int) (st : List Int) (x4 x5 : Int) (σ : dS), 0 ≤ x5 → x5 + cs.length = x4 → x4 ≤ 700 → vl cs st.length → st.length ≤ 64 → seg S 28 x5 cs → stk σ 32 st → (∀ j, 0 ≤ j → j < 7 → S 130 j = w j) → (∀ k, k ≠ 32 → σ k = S k) → (∀ σ', (∀ k, k ≠ 32 → σ' k = S k) → Q (.inl (some (.inl (hd (evs w cs st))))) σ') → B18_3 (d + 1) Q (st.length : Int) x4 x5 σ
  | [], st, x4, x5, σ, h0, hl, h7, hv, hs, hg, hk, hw, hf, hq => by
    simp only [List.length_nil] at hl
    refine b18_3 ⟨fun _ => b18_10 ?_, fun n => absurd (by omega) n⟩
    match st, hv, hk with
    | [v], hv, hk =>
      rw [rat_in (by omega) (by omega)]
      have e : σ 32 0 = v := hk.1
      rw [e]
      exact hq σ hf
  | s :: cs, st, x4, x5, σ, h0, hl, h7, hv, hs, hg, hk, hw, hf, hq => by
    simp only [List.length_cons] at hl
    have hs28 : rat σ 28 700 x5 = s := by
      rw [rat_in (by omega) (by omega), hf 28 (by decide)]
      exact hg.1
    have hx : wr (x5 + 1) = x5 + 1 := wr_id (by omega) (by omega)
    refine b18_3 ⟨fun q => absurd q (by omega), fun _ => ?_⟩
    rw [hs28]
    unfold vl at hv
    have go : ∀ (st' : List Int) (σ' : dS), st' = ev1 w s st → vl cs st'.length → st'.length ≤ 64 → stk σ' 32 st' → (∀ k, k ≠ 32 → σ' k = S k) → B18_9 (d + 1) Q (st'.length : Int) x4 x5 σ' := by
      intro st' σ' e v1 v2 v3 v4
      refine b18_9 ?_
      rw [hx]
      refine l18 cs st' x4 (x5 + 1) σ' (by omega) (by omega) h7 v1 v2 hg.2 v3 hw v4 ?_
      rw [e]
      exact hq
    constructor
    · intro hneg
      rw [if_neg (by omega)] at hv
      by_cases c1 : 140 ≤ -s
      · rw [if_pos c1] at hv
        refine b18_4 ⟨fun q => absurd q (by rw [wr_id (by omega) (by omega)]; omega), fun _ => ?_⟩
        intro σ1 e1
        rw [wr_id (x := -s) (by omega) (by omega), wr_id (by omega) (by omega), rat_in (by omega) (by omega), rput_in (by omega) (by omega), hf 130 (by decide), hw _ (by omega) (by omega)] at e1
        rw [wr_id (by omega) (by omega)]
        have := go (w (-s - 140) :: st) σ1 (by unfold ev1; rw [if_neg (by omega), if_pos c1]) (by simpa using hv.2.2) (by simp; omega) (by rw [e1]; exact ⟨up_same _ _ _ _, (stk_up (by omega)).mpr hk⟩) (fun k hk' => by rw [e1, up_k hk']; exact hf k hk')
        simpa using this
      · rw [if_neg c1] at hv
        by_cases c2 : s = -139
        · rw [if_pos c2] at hv
          refine b18_4 ⟨fun _ => b18_5 ⟨fun q => absurd (by rw [wr_id (by omega) (by omega)]; omega) q, fun _ => ?_⟩, fun q => absurd (by rw [wr_id (by omega) (by omega)]; omega) q⟩
          match st, hk, hv, hs, go with
          | a :: r, hk, hv, hs, go =>
            simp only [List.length_cons] at hs hv
            have e2 : wr (((a :: r).length : Int) - 1) = (r.length : Int) := by
              rw [wr_id (by simp only [List.length_cons]; omega) (by simp only [List.length_cons]; omega)]
              simp only [List.length_cons]; omega
            have e3 : rat σ 32 64 (r.length : Int) = a := by
              rw [rat_in (by omega) (by omega)]; exact hk.1
            rw [e2, e3]
            have fin : ∀ v, v = (if a = 0 then 1 else 0) → B18_7 (d + 1) Q ((a :: r).length : Int) x4 x5 v (r.length : Int) σ := by
              intro v hvv
              refine b18_7 ?_
              intro σ1 e1
              rw [rput_in (by omega) (by omega)] at e1
              exact go (v :: r) σ1 (by unfold ev1; rw [if_neg (by omega), if_neg c1, if_pos c2, hvv]) (by simpa using hv.2) (by simpa using hs) (by rw [e1]; exact ⟨up_same _ _ _ _, (stk_up (by omega)).mpr hk.2⟩) (fun k hk' => by rw [e1, up_k hk']; exact hf k hk')
            refine ⟨fun z => b18_6 (fin _ ?_), fun z => fin _ ?_⟩
            · rw [if_neg z]
            · rw [if_pos (by omega)]
        · rw [if_neg c2] at hv
          refine b18_4 ⟨fun _ => b18_5 ⟨fun _ => ?_, fun q => absurd (by rw [wr_id (by omega) (by omega)]; omega) q⟩, fun q => absurd (by rw [wr_id (by omega) (by omega)]; omega) q⟩
          match st, hk, hv, hs, go with
          | [], _, hv, _, _ => simp at hv
          | [_], _, hv, _, _ => simp at hv
          | b :: a :: r, hk, hv, hs, go =>
            simp only [List.length_cons] at hs hv
            have e1 : wr (((b :: a :: r).length : Int) + (-1)) = (r.length : Int) + 1 := by
              rw [wr_id (by simp only [List.length_cons]; omega) (by simp only [List.length_cons]; omega)]
              simp only [List.length_cons]; omega
            have e2 : wr ((r.length : Int) + 1 - 1) = (r.length : Int) := by
              rw [wr_id (by omega) (by omega)]; omega
            have ea : σ 32 (r.length : Int) = a := hk.2.1
            have eb : σ 32 ((r.length : Int) + 1) = b := by
              have := hk.1
              simpa using this
            refine b18_8 ?_
            rw [e1, e2, rat_in (by omega) (by omega), rat_in (by omega) (by omega), ea, eb, wr_id (x := -s) (by omega) (by omega)]
            refine w19 ?_
            intro σ1 e3
            rw [rput_in (by omega) (by omega)] at e3
            have := go (jn (-s) a b :: r) σ1 (by unfold ev1; rw [if_neg (by omega), if_neg c1, if_neg c2]) (by simpa using hv.2.2) (by simp; omega) (by rw [e3]; exact ⟨up_same _ _ _ _, (stk_up (by omega)).mpr hk.2.2⟩) (fun k hk' => by rw [e3, up_k hk']; exact hf k hk')
            simpa using this
    · intro hpos
      rw [if_pos (by omega)] at hv
      intro σ1 e1
      rw [rput_in (by omega) (by omega)] at e1
      rw [wr_id (by omega) (by omega)]
      have := go (s :: st) σ1 (by unfold ev1; rw [if_pos (by omega)]) (by simpa using hv.2.2) (by simp; omega) (by rw [e1]; exact ⟨up_same _ _ _ _, (stk_up (by omega)).mpr hk⟩) (fun k hk' => by rw [e1, up_k hk']; exact hf k hk')
      simpa using this
