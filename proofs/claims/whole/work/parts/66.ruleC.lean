/-! THE CLASS READS a rule -/
def TK (c q v : Nat → Int) (N : Nat) (S : dS) : Prop := c N = 0 ∧ N ≤ 700 ∧ (∀ k, 0 ≤ v k ∧ v k ≤ 10000) ∧ ∀ k : Nat, k ≤ N → S 63 k = c k ∧ S 65 k = q k ∧ S 67 k = v k
def XA (S : dS) (k : Nat) (o : List Int) (σ : dS) : Prop := (∀ x, x ≠ 68 → x ≠ 54 → x ≠ 56 → σ x = S x) ∧ (∀ j, j ≠ 2 → σ 68 j = S 68 j) ∧ σ 68 2 = (k : Int) ∧ (∀ j, j ≠ 1 → σ 54 j = S 54 j) ∧ σ 54 1 = (o.length : Int) ∧ seg σ 56 0 o
def XB (S : dS) (f p : Int) (σ : dS) : Prop := (∀ x, x ≠ 68 → x ≠ 54 → x ≠ 56 → σ x = S x) ∧ (∀ j, j < 2 ∨ 4 < j → σ 68 j = S 68 j) ∧ σ 68 3 = f ∧ σ 68 4 = p
def PO (q : Nat → Int) (S : dS) (r : Int × Nat × List Int) (b : Int) (σ : dS) : Prop := (r.1 = 0 ∧ b = 1 ∧ XA S r.2.1 r.2.2 σ) ∨ (r.1 ≠ 0 ∧ b = 0 ∧ XB S r.1 (q r.2.1) σ)
def XSb (q : Nat → Int) (N : Nat) (S : dS) (d y : Nat) (a : Int) (sub : Nat → List Int → Int × Nat × List Int) : Prop :=
  ∀ (Q : dR → dS → Prop) (K : Int → dS → Prop) (σ : dS) (k : Nat) (o : List Int), k ≤ N → o.length ≤ k → XA S k o σ → (∀ b σ', PO q S (sub k o) b σ' → K b σ') → wI d y [.inr (.inr 68), .inl a] σ Q K
theorem seg_up {σ : dS} {c : Nat} {i v : Int} : ∀ {cs : List Int} {a : Int}, seg σ c a cs → a + cs.length ≤ i → seg (up σ c i v) c a cs
  | [], _, _, _ => trivial
  | x :: xs, a, h, hi => by
    simp only [List.length_cons] at hi
    refine ⟨?_, seg_up h.2 (by omega)⟩
    rw [up_i (by omega)]; exact h.1
theorem gbd_0 {r : Int × Nat × List Int} {K : Nat → List Int → Int × Nat × List Int} (h : r.1 = 0) : gbd r K = K r.2.1 r.2.2 := if_pos h
theorem gbd_f {r : Int × Nat × List Int} {K : Nat → List Int → Int × Nat × List Int} (h : r.1 ≠ 0) : gbd r K = r := if_neg h
theorem PO_1 {q : Nat → Int} {S : dS} {r : Int × Nat × List Int} {b : Int} {σ : dS} (h : PO q S r b σ) (hb : b ≠ 0) : r.1 = 0 ∧ XA S r.2.1 r.2.2 σ := by
  rcases h with ⟨a1, _, a3⟩ | ⟨_, a2, _⟩
  · exact ⟨a1, a3⟩
  · exact absurd a2 hb
theorem PO_0 {q : Nat → Int} {S : dS} {r : Int × Nat × List Int} {b : Int} {σ : dS} (h : PO q S r b σ) (hb : b = 0) : r.1 ≠ 0 ∧ XB S r.1 (q r.2.1) σ := by
  rcases h with ⟨_, a2, _⟩ | ⟨a1, _, a3⟩
  · omega
  · exact ⟨a1, a3⟩
theorem PO_b {q : Nat → Int} {S : dS} {r : Int × Nat × List Int} {b : Int} {σ : dS} (h : PO q S r b σ) : b = 0 ∨ b = 1 := by
  rcases h with ⟨_, a2, _⟩ | ⟨_, a2, _⟩
  · exact Or.inr a2
  · exact Or.inl a2
section RC
variable {c q v : Nat → Int} {N : Nat} {S : dS} {d : Nat} {Q : dR → dS → Prop} {σ : dS} {k : Nat} {o : List Int}
theorem XA_nx (hk : k ≤ 700) (h : XA S k o σ) : XA S (k + 1) o (up σ 68 2 (wr ((σ 68 2) + 1))) := by
  obtain ⟨a1, a2, a3, a4, a5, a6⟩ := h
  refine ⟨fun x h1 h2 h3 => by rw [up_k h1]; exact a1 x h1 h2 h3, fun j hj => by rw [up_i hj]; exact a2 j hj, ?_, fun j hj => by rw [up_k (by decide)]; exact a4 j hj, by rw [up_k (by decide)]; exact a5, seg_k (up_k (by decide)) a6⟩
  rw [up_same, a3, wr_id (by omega) (by omega)]
  omega
theorem XA_em {x : Int} (ho : o.length < 700) (h : XA S k o σ) : XA S k (o ++ [x]) (up (rput σ 56 700 (σ 54 1) x) 54 1 (wr ((rput σ 56 700 (σ 54 1) x) 54 1 + 1))) := by
  obtain ⟨a1, a2, a3, a4, a5, a6⟩ := h
  rw [a5, rput_in (by omega) (by omega), up_k (k' := 54) (by decide), a5, wr_id (by omega) (by omega)]
  refine ⟨fun x h1 h2 h3 => by rw [up_k h2, up_k h3]; exact a1 x h1 h2 h3, fun j hj => by rw [up_k (by decide), up_k (by decide)]; exact a2 j hj, by rw [up_k (by decide), up_k (by decide)]; exact a3, fun j hj => by rw [up_i hj, up_k (by decide)]; exact a4 j hj, by rw [up_same, List.length_append]; rfl, ?_⟩
  refine seg_k (up_k (by decide)) ?_
  rw [seg_app]
  refine ⟨seg_up a6 (by omega), ?_, trivial⟩
  rw [Int.zero_add, up_same]
theorem w16 {K : dS → Prop} {x : Int} (ho : o.length < 700) (h : XA S k o σ) (hq : ∀ σ', XA S k (o ++ [x]) σ' → K σ') : wV (d + 2) 16 [.inr (.inr 54), .inl x] σ Q K := by
  refine c16 (b16_0 fun σ1 e1 σ2 e2 => hq σ2 ?_)
  rw [e2, e1]
  exact XA_em ho h
theorem w16B {K : dS → Prop} {x f p : Int} (h : XB S f p σ) (hq : ∀ σ', XB S f p σ' → K σ') : wV (d + 2) 16 [.inr (.inr 54), .inl x] σ Q K := by
  refine c16 (b16_0 fun σ1 e1 σ2 e2 => hq σ2 ?_)
  have hr : ∀ y : Nat, y ≠ 56 → σ1 y = σ y := by
    intro y hy
    rw [e1]
    unfold rput
    split
    · exact up_k hy
    · rfl
  obtain ⟨a1, a2, a3, a4⟩ := h
  refine ⟨fun x h1 h2 h3 => by rw [e2, up_k h2, hr x h3]; exact a1 x h1 h2 h3, fun j hj => by rw [e2, up_k (by decide), hr 68 (by decide)]; exact a2 j hj, by rw [e2, up_k (by decide), hr 68 (by decide)]; exact a3, by rw [e2, up_k (by decide), hr 68 (by decide)]; exact a4⟩
theorem w47 {K : Int → dS → Prop} (hT : TK c q v N S) (hk : k ≤ N) (h : XA S k o σ) (hq : K (c k) σ) : wI (d + 2) 47 [.inr (.inr 68)] σ Q K := by
  obtain ⟨t1, t2, t3, t4⟩ := hT
  refine c47 (b47_0 ?_)
  rw [h.2.2.1, rat_in (by omega) (by omega), h.1 63 (by decide) (by decide) (by decide), (t4 k hk).1]
  exact hq
theorem w48 {K : Int → dS → Prop} {f : Int} (hT : TK c q v N S) (hk : k ≤ N) (h : XA S k o σ) (hq : ∀ σ', XB S f (q k) σ' → K 0 σ') : wI (d + 2) 48 [.inr (.inr 68), .inl f] σ Q K := by
  obtain ⟨t1, t2, t3, t4⟩ := hT
  refine c48 (b48_0 fun σ1 e1 σ2 e2 => ⟨Or.inl rfl, hq σ2 ?_⟩)
  obtain ⟨a1, a2, a3, a4, a5, a6⟩ := h
  have ep : rat σ1 65 701 (σ1 68 2) = q k := by
    rw [e1, up_i (by decide), a3, rat_in (by omega) (by omega), up_k (by decide), a1 65 (by decide) (by decide) (by decide)]
    exact (t4 k hk).2.1
  rw [ep] at e2
  refine ⟨fun x h1 h2 h3 => by rw [e2, e1, up_k h1, up_k h1]; exact a1 x h1 h2 h3, fun j hj => by rw [e2, e1, up_i (by omega), up_i (by omega)]; exact a2 j (by omega), by rw [e2, e1, up_i (by decide), up_same], by rw [e2, up_same]⟩
theorem w57 {K : Int → dS → Prop} {lo hi : Int} (hT : TK c q v N S) (hk : k ≤ N) (h : XA S k o σ) (h1 : c k ≠ 1 → ∀ σ', XB S 1 (q k) σ' → K (-1) σ') (h2 : c k = 1 → v k < lo ∨ hi < v k → ∀ σ', XB S 2 (q k) σ' → K (-1) σ') (h3 : c k = 1 → lo ≤ v k → v k ≤ hi → ∀ σ', XA S (k + 1) o σ' → K (v k) σ') : wI (d + 3) 57 [.inr (.inr 68), .inl lo, .inl hi] σ Q K := by
  have hT' := hT
  obtain ⟨t1, t2, t3, t4⟩ := hT'
  refine c57 (b57_0 (w47 hT hk h ⟨fun z => b57_1 ?_, fun z => w48 hT hk h (fun σ' g => h1 z σ' g)⟩))
  have ev : rat σ 67 701 (σ 68 2) = v k := by
    rw [h.2.2.1, rat_in (by omega) (by omega), h.1 67 (by decide) (by decide) (by decide)]
    exact (t4 k hk).2.2
  rw [ev]
  refine ⟨fun y => b57_2 (w48 hT hk h (fun σ' g => h2 z (Or.inl y) σ' g)), fun y => ⟨fun y2 => b57_3 fun σ1 e1 => ?_, fun y2 => b57_2 (w48 hT hk h (fun σ' g => h2 z (Or.inr (by omega)) σ' g))⟩⟩
  refine h3 z (by omega) y2 σ1 ?_
  rw [e1]
  exact XA_nx (by omega) h
theorem w49 {K : Int → dS → Prop} {s : Int} (hT : TK c q v N S) (hk : k ≤ N) (h : XA S k o σ) (h1 : c k = s → ∀ σ', XA S (k + 1) o σ' → K 1 σ') (h0 : c k ≠ s → ∀ σ', XB S 1 (q k) σ' → K 0 σ') : wI (d + 3) 49 [.inr (.inr 68), .inl s] σ Q K := by
  have hN := hT.2.1
  refine c49 (b49_0 (w47 hT hk h ⟨fun z => b49_1 fun σ1 e1 => ⟨Or.inr rfl, h1 z σ1 ?_⟩, fun z => w48 hT hk h (fun σ' g => ⟨Or.inl rfl, h0 z σ' g⟩)⟩))
  rw [e1]
  exact XA_nx (by omega) h
theorem x66 {a : Int} {B : Nat} {sub : Nat → List Int → Int × Nat × List Int} (a0 : 0 ≤ a) (a1 : a ≤ 10) (hT : TK c q v N S) (hs : GK B N sub) (hx : XSb q N S (d + 3) 60 (a + 1) sub) : XSb q N S (d + 4) 66 a (gpt c v sub) := by
  intro Q K σ k o hk ho h hq
  have hT' := hT
  obtain ⟨t1, t2, t3, t4⟩ := hT'
  have ne : c k ≠ 0 → k < N := by
    intro h
    rcases Nat.lt_or_ge k N with h' | h'
    · exact h'
    · have : k = N := by omega
      rw [this, t1] at h; omega
  refine c66 (b66_0 (w47 hT hk h ⟨fun z => b66_3 ⟨fun z2 => b66_6 ⟨fun z3 => b66_7 ⟨fun z4 => b66_8 ?_, fun z4 => ⟨fun z5 => b66_9 ?_, fun z5 => b66_8 ?_⟩⟩, fun z3 => ?_⟩, fun z2 => ?_⟩, fun z => ?_⟩))
  · refine w48 hT hk h (fun σ' g => ⟨Or.inl rfl, hq 0 σ' (Or.inr ?_)⟩)
    unfold gpt
    rw [if_neg z, if_neg z2, if_neg (by omega), if_pos (Or.inl z4)]
    exact ⟨ne_3, rfl, g⟩
  · rw [wr_id (by omega) (by omega)]
    have := ne (by omega)
    refine w16 (by omega) h (fun σ1 g1 σ2 e2 => ⟨Or.inr rfl, hq 1 σ2 (Or.inl ?_)⟩)
    unfold gpt
    rw [if_neg z, if_neg z2, if_neg (by omega), if_neg (by omega)]
    refine ⟨rfl, rfl, ?_⟩
    rw [e2]
    exact XA_nx (by omega) g1
  · refine w48 hT hk h (fun σ' g => ⟨Or.inl rfl, hq 0 σ' (Or.inr ?_)⟩)
    unfold gpt
    rw [if_neg z, if_neg z2, if_neg (by omega), if_pos (Or.inr (by omega))]
    exact ⟨ne_3, rfl, g⟩
  · refine w48 hT hk h (fun σ' g => ⟨Or.inl rfl, hq 0 σ' (Or.inr ?_)⟩)
    unfold gpt
    rw [if_neg z, if_neg z2, if_pos (by omega)]
    exact ⟨ne_1, rfl, g⟩
  · have ez : c k = 1 := by omega
    have hlt := ne (by omega)
    have v0 := (t3 k).1
    refine w57 hT hk h (fun y => absurd ez y) (fun _ y σ1 g1 => w16B g1 (fun σ2 g2 => ⟨fun _ => b66_4 (b66_5 ⟨Or.inl rfl, hq 0 σ2 (Or.inr ?_)⟩), fun y2 => absurd rfl y2⟩)) (fun _ y1 y2 σ1 g1 => w16 (by omega) g1 (fun σ2 g2 => ⟨fun y3 => absurd y3 (by omega), fun _ => b66_5 ⟨Or.inr rfl, hq 1 σ2 (Or.inl ?_)⟩⟩))
    · unfold gpt
      rw [if_neg z, if_pos ez, if_neg (by omega)]
      exact ⟨ne_2, rfl, g2⟩
    · unfold gpt
      rw [if_neg z, if_pos ez, if_pos y2]
      exact ⟨rfl, rfl, g2⟩
  · have ez : c k = 40 := by omega
    have hlt := ne (by omega)
    intro σ1 e1
    have g1 : XA S (k + 1) o σ1 := by rw [e1]; exact XA_nx (by omega) h
    rw [wr_id (by omega) (by omega)]
    obtain ⟨s1, s2, s3, s4⟩ := hs (k + 1) o (by omega)
    refine hx _ _ σ1 (k + 1) o (by omega) (by omega) g1 (fun b σ2 p => ⟨fun hb => b66_1 (b66_2 ⟨Or.inl rfl, hq 0 σ2 (Or.inr ?_)⟩), fun hb => ?_⟩)
    · obtain ⟨p1, p2⟩ := PO_0 p hb
      unfold gpt
      rw [if_pos ez, gbd_f p1]
      exact ⟨p1, rfl, p2⟩
    · obtain ⟨p1, p2⟩ := PO_1 p hb
      refine w49 hT s2 p2 (fun y σ3 g3 => ⟨fun u => absurd u (by decide), fun _ => b66_2 ⟨Or.inr rfl, hq 1 σ3 (Or.inl ?_)⟩⟩) (fun y σ3 g3 => ⟨fun _ => b66_1 (b66_2 ⟨Or.inl rfl, hq 0 σ3 (Or.inr ?_)⟩), fun u => absurd rfl u⟩)
      · unfold gpt
        rw [if_pos ez, gbd_0 p1, if_pos y]
        exact ⟨rfl, rfl, g3⟩
      · unfold gpt
        rw [if_pos ez, gbd_0 p1, if_neg y]
        exact ⟨ne_1, rfl, g3⟩
end RC
