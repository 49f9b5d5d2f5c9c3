/-! THE REFERENCE PASSES A NIGHT -/
abbrev nml (k : Nat) : Prop := 178 ≤ k ∧ k ≤ 185
/-- the reference's city is the view's -/
def MVc (σ V : dS) : Prop := σ 153 1 = V 5 0 ∧ σ 153 3 = V 5 2 ∧ σ 153 4 = V 5 3 ∧ σ 153 5 = V 26 0 ∧ σ 153 6 = V 5 4 ∧ (∀ k, 0 ≤ k → k < 100 → σ 154 k = V 9 k) ∧ (∀ o, 0 ≤ o → o < V 5 2 → σ 155 o = V 11 o ∧ σ 156 o = V 15 o ∧ (∀ i, 0 ≤ i → i < V 15 o → σ 157 (8 * o + i) = V 17 (8 * o + i))) ∧ (∀ p, 0 ≤ p → p < V 5 3 → σ 158 (4 * p) = V 19 p ∧ σ 158 (4 * p + 1) = V 21 p ∧ σ 158 (4 * p + 2) = V 23 p ∧ σ 158 (4 * p + 3) = V 25 p) ∧ σ 159 = V 159 ∧ σ 160 = V 160
/-- the reference's sky is the view's -/
def MVs (σ V : dS) : Prop := σ 174 0 = V 109 0 ∧ σ 174 1 = V 109 1 ∧ σ 174 2 = V 109 2 ∧ σ 174 3 = V 109 3 ∧ (∀ r, 0 ≤ r → r < V 5 0 → σ 174 (4 + r) = V 111 r) ∧ (∀ o, 0 ≤ o → o < V 5 2 → σ 174 (14 + o) = V 113 o)
def RM (σ V n : dS) : Prop := (∀ r, 0 ≤ r → r < V 5 0 → σ 182 r = n 0 r) ∧ (∀ o, 0 ≤ o → o < V 5 2 → σ 183 o = n 1 o ∧ σ 184 o = n 2 o ∧ σ 185 o = n 3 o) ∧ (∀ o i, 0 ≤ o → o < V 5 2 → ¬ nestb V 109 o → 0 ≤ i → i < n 2 o → σ 180 (8 * o + i) = n 4 (8 * o + i) ∧ σ 181 (8 * o + i) = n 5 (8 * o + i))
theorem MVc_k {σ σ' V : dS} (h : ∀ k, (153 ≤ k ∧ k ≤ 160) → σ' k = σ k) (q : MVc σ V) : MVc σ' V := by
  unfold MVc
  rw [h 153 (by decide), h 154 (by decide), h 155 (by decide), h 156 (by decide), h 157 (by decide), h 158 (by decide), h 159 (by decide), h 160 (by decide)]
  exact q
theorem MVs_k {σ σ' V : dS} (h : σ' 174 = σ 174) (q : MVs σ V) : MVs σ' V := by
  unfold MVs
  rw [h]
  exact q
def msum (f : Int → Int) : Nat → Int
  | 0 => 0
  | k + 1 => msum f k + f (k : Int)
theorem msum_le {f : Int → Int} {c : Int} : ∀ N : Nat, (∀ o, 0 ≤ o → o < (N : Int) → f o ≤ c) → msum f N ≤ c * N
  | 0, _ => by simp [msum]
  | N + 1, h => by
    have ih := msum_le N (fun o o0 o1 => h o o0 (by omega))
    have e := h (N : Int) (by omega) (by omega)
    rw [msum, show ((N + 1 : Nat) : Int) = (N : Int) + 1 by omega, Int.mul_add, Int.mul_one]
    omega
theorem msum_nn {f : Int → Int} : ∀ N : Nat, (∀ o, 0 ≤ o → o < (N : Int) → 0 ≤ f o) → 0 ≤ msum f N
  | 0, _ => by simp [msum]
  | N + 1, h => by
    have ih := msum_nn N (fun o o0 o1 => h o o0 (by omega))
    have e := h (N : Int) (by omega) (by omega)
    rw [msum]; omega
theorem msum_dec {f g : Int → Int} {b : Int} (hb : 0 ≤ b) : ∀ N : Nat, b < (N : Int) → g b = f b - 1 → (∀ o, o ≠ b → g o = f o) → msum g N = msum f N - 1
  | 0, h, _, _ => by omega
  | N + 1, h, e, q => by
    rw [msum, msum]
    by_cases z : b = (N : Int)
    · have : msum g N = msum f N := by
        have aux : ∀ M : Nat, (M : Int) ≤ b → msum g M = msum f M := by
          intro M
          induction M with
          | zero => intro _; rfl
          | succ M ih => intro hM; rw [msum, msum, ih (by omega), q _ (by omega)]
        exact aux N (by omega)
      rw [this, ← z, e]; omega
    · rw [msum_dec hb N (by omega) e q, q _ (by omega)]; omega
theorem msum_pos {f : Int → Int} {b : Int} (hb : 0 ≤ b) : ∀ N : Nat, b < (N : Int) → (∀ o, 0 ≤ o → o < (N : Int) → 0 ≤ f o) → 1 ≤ f b → 1 ≤ msum f N
  | 0, h, _, _ => by omega
  | N + 1, h, q, e => by
    rw [msum]
    have := msum_nn (f := f) N (fun o o0 o1 => q o o0 (by omega))
    by_cases z : b = (N : Int)
    · rw [← z]; omega
    · have := msum_pos hb N (by omega) (fun o o0 o1 => q o o0 (by omega)) e
      have := q (N : Int) (by omega) (by omega)
      omega
/-- the stops that are still ahead -/
def mu (V n : dS) : Int := msum (fun o => V 15 o - n 2 o) (V 5 2).toNat
theorem pk_none {f : Int → Int} : ∀ N : Nat, pk f N = -1 → ∀ o, 0 ≤ o → o < (N : Int) → 2147483647 ≤ f o
  | 0, _, o, o0, o1 => by omega
  | N + 1, h, o, o0, o1 => by
    unfold pk at h
    by_cases z : (if pk f N = -1 then 2147483647 else f (pk f N)) ≤ f (N : Int)
    · rw [if_pos z] at h
      rw [if_pos h] at z
      by_cases y : o = (N : Int)
      · rw [y]; exact z
      · exact pk_none N h o o0 (by omega)
    · rw [if_neg z] at h; omega
theorem mu_step {V n : dS} (hc : cityOK V) (hn : NI V 109 n) (hb : best V n ≠ -1) : 1 ≤ mu V n ∧ mu V (ns V 109 n (best V n)) = mu V n - 1 := by
  have hO := hc.2.1
  rcases best_r (n := n) hO.1 with e | e
  · exact absurd e hb
  generalize best V n = b at e hb
  refine ⟨msum_pos (b := b) e.1 _ (by omega) (fun o o0 o1 => ?_) (by show 1 ≤ V 15 b - n 2 b; omega), msum_dec (b := b) e.1 _ (by omega) ?_ (fun o ho => ?_)⟩
  · have := hn.2 o o0 (by omega)
    show 0 ≤ V 15 o - n 2 o
    omega
  · show V 15 b - ns V 109 n b 2 b = V 15 b - n 2 b - 1
    rw [ns_2, if_pos rfl]; omega
  · show V 15 o - ns V 109 n b 2 o = V 15 o - n 2 o
    rw [ns_2, if_neg ho]
theorem mu_0 {V : dS} (hc : cityOK V) : mu V (N0 V 109) ≤ 40 := by
  have hO := hc.2.1
  have := msum_le (f := fun o => V 15 o - N0 V 109 2 o) (c := 8) (V 5 2).toNat (fun o o0 o1 => by
    have kb := hc.2.2.2.2.2.1 o o0 (by omega)
    show V 15 o - (if nestb V 109 o then V 15 o else 0) ≤ 8
    by_cases z : nestb V 109 o
    · rw [if_pos z]; omega
    · rw [if_neg z]; omega)
  unfold mu
  omega
theorem NI_nit {V : dS} (hc : cityOK V) : ∀ (m : Nat) {n : dS}, NI V 109 n → NI V 109 (nit V 109 m n)
  | 0, _, h => h
  | m + 1, _, h => NI_nit hc m (NI_step hc h)
theorem nit_best {V : dS} (hc : cityOK V) : ∀ (m : Nat) {n : dS}, NI V 109 n → mu V n ≤ m → best V (nit V 109 m n) = -1
  | 0, n, hn, hm => by
    rw [nit]
    by_cases hb : best V n = -1
    · exact hb
    · have := (mu_step hc hn hb).1; omega
  | m + 1, n, hn, hm => by
    rw [nit]
    by_cases hb : best V n = -1
    · have e : nstep V 109 n = n := by unfold nstep; rw [if_pos hb]
      rw [e, nit_stop hb]; exact hb
    · have h2 := (mu_step hc hn hb).2
      have e : nstep V 109 n = ns V 109 n (best V n) := by unfold nstep; rw [if_neg hb]
      refine nit_best hc m (NI_step hc hn) ?_
      rw [e]; omega
/-- at a night's end all stops are come to -/
theorem NF_done {V : dS} (hc : cityOK V) (hs : skyOK V 109) : NI V 109 (NF V 109) ∧ ∀ o, 0 ≤ o → o < V 5 2 → NF V 109 2 o = V 15 o := by
  have hO := hc.2.1
  have h1 := NI_nit hc 40 (N0_I hc hs)
  refine ⟨h1, fun o o0 o1 => ?_⟩
  have hb := nit_best hc 40 (N0_I hc hs) (by have := mu_0 hc; omega)
  have h2 := pk_none _ hb o o0 (by omega)
  have h3 := h1.2 o o0 o1
  have h4 := hc.2.2.2.2.2.1 o o0 o1
  unfold fu at h2
  by_cases z : nit V 109 40 (N0 V 109) 2 o < V 15 o
  · rw [if_pos z] at h2; omega
  · show nit V 109 40 (N0 V 109) 2 o = V 15 o
    omega
section NM
variable {d : Nat} {Q : dR → dS → Prop} {σ V : dS}
theorem w202 {K : Int → dS → Prop} {o : Int} (hV : σ 174 3 = V 109 3) (h : K (if nestb V 109 o then 1 else 0) σ) : wI (d + 2) 202 [.inr (.inr 153), .inl o] σ Q K := by
  unfold nestb at h
  rw [← hV] at h
  refine c202 (b202_0 ⟨by decide, by decide, fun z => b202_1 (b202_2 ⟨Or.inl rfl, ?_⟩), fun z => b202_2 ⟨Or.inr rfl, ?_⟩⟩)
  · rw [if_neg z] at h; exact h
  · rw [if_pos (Decidable.of_not_not z)] at h; exact h
theorem w204 {K : Int → dS → Prop} {o i : Int} (hc : cityOK V) (hm : MVc σ V) (hs : MVs σ V) (hw : V 109 2 = 0 ∨ V 109 2 = 1) (o0 : 0 ≤ o) (o1 : o < V 5 2) (i0 : 0 ≤ i) (i1 : i + 1 < V 15 o) (h : K (fly V 109 o (8 * o + i)) σ) : wI (d + 2) 204 [.inr (.inr 153), .inl o, .inl (V 17 (8 * o + i)), .inl (V 17 (8 * o + i + 1))] σ Q K := by
  have kb := hc.2.2.2.2.2.1 o o0 o1
  have hO := hc.2.1
  have hR := hc.1
  have w1 := kb.2.2.1 i i0 (by omega)
  have w2 := kb.2.2.1 (i + 1) (by omega) (by omega)
  have m1 := kb.2.2.2 i i0 i1
  rw [← Int.add_assoc] at w2
  have e9 := hm.2.2.2.2.2.1 (10 * V 17 (8 * o + i) + V 17 (8 * o + i + 1)) (by omega) (by omega)
  have e11 := (hm.2.2.2.2.2.2.1 o o0 o1).1
  refine c204 (b204_0 ?_)
  rw [wr_id (x := 10 * V 17 (8 * o + i)) (by omega) (by omega), wr_id (by omega) (by omega), e9, e11, hs.2.1]
  generalize hmm : V 9 (10 * V 17 (8 * o + i) + V 17 (8 * o + i + 1)) = m at m1
  have fin : ∀ v : Int, v = fly1 V 109 o m → B204_1 d (fun res σ1 => match res with | .inl (some (.inl v)) => K v σ1 | .inl _ => False | .inr e => Q (.inr e) σ1) v σ := by
    intro v hv
    have hv2 : 0 ≤ v ∧ v ≤ 60 := by
      rw [hv]
      unfold fly1
      by_cases g : V 11 o = 1 ∧ 4 ≤ V 109 1
      · rw [if_pos g, idv_pos (by omega) (by omega) (by omega) (by omega)]; omega
      · rw [if_neg g]; omega
    unfold fly at h
    rw [hmm] at h
    refine b204_1 ⟨by decide, by decide, fun z => b204_2 (b204_3 ?_), fun z => b204_3 ?_⟩
    · rw [hs.2.2.1] at z
      rw [if_pos (by omega), ← hv] at h; exact h
    · rw [hs.2.2.1] at z
      rw [if_neg (by omega), ← hv] at h
      rw [wr_id (by omega) (by omega)]; exact h
  refine ⟨by omega, by omega, o0, by omega, fun z => fin m ?_, fun z => ⟨by decide, by decide, fun y => fin m ?_, fun y => ⟨by decide, ?_⟩⟩⟩
  · unfold fly1; rw [if_neg (fun q => z q.1)]
  · unfold fly1; rw [if_neg (fun q => by omega)]
  · rw [wr_id (by omega) (by omega)]
    exact fin _ (by unfold fly1; rw [if_pos ⟨by omega, by omega⟩])
theorem w203 {K : Int → dS → Prop} {n : dS} {o : Int} (hc : cityOK V) (hsk : skyOK V 109) (hm : MVc σ V) (hs : MVs σ V) (hn : NI V 109 n) (hR : RM σ V n) (o0 : 0 ≤ o) (o1 : o < V 5 2) (i1 : n 2 o < V 15 o) (h : ∀ σ', (∀ k, k ≠ 178 → k ≠ 179 → σ' k = σ k) → K (hu V 109 n o) σ') : wI (d + 5) 203 [.inr (.inr 153), .inl o, .inl (V 17 (8 * o + n 2 o))] σ Q K := by
  have kb := hc.2.2.2.2.2.1 o o0 o1
  have hO := hc.2.1
  have hRo := hc.1
  have nb := hn.2 o o0 o1
  have w1 := kb.2.2.1 (n 2 o) nb.1.1 i1
  have hmi := hR.1 _ w1.1 w1.2
  have hmr := hn.1 _ w1.1 w1.2
  have ho := hR.2.1 o o0 o1
  have hr3 := hc.2.2.2.2.1
  have clamp : ∀ (v : Int) (σ' : dS), K (max 0 (min 30 v)) σ' → B203_3 (d + 3) (fun res σ1 => match res with | .inl (some (.inl v)) => K v σ1 | .inl _ => False | .inr e => Q (.inr e) σ1) v σ' := by
    intro v σ' hk
    refine b203_3 ⟨fun z => b203_4 ⟨fun y => b203_5 (b203_6 ?_), fun y => b203_6 ?_⟩, fun z => b203_6 ?_⟩
    · rw [show max 0 (min 30 v) = v by omega] at hk; exact hk
    · rw [show max 0 (min 30 v) = 30 by omega] at hk; exact hk
    · rw [show max 0 (min 30 v) = 0 by omega] at hk; exact hk
  unfold hu hvl at h
  have fin : ∀ v : Int, v = (if n 0 (V 17 (8 * o + n 2 o)) ≤ 0 then 2 else 3) → B203_2 (d + 3) (fun res σ1 => match res with | .inl (some (.inl v)) => K v σ1 | .inl _ => False | .inr e => Q (.inr e) σ1) o (V 17 (8 * o + n 2 o)) v σ := by
    intro v hv
    refine b203_2 ⟨by decide, by decide, fun z => clamp v σ ?_, fun z => ?_⟩
    · rw [hs.1] at z
      have := h σ (fun _ _ _ => rfl)
      rw [if_pos z, ← hv] at this
      have e : max 0 (min 30 v) = v := by
        rw [hv]
        by_cases y : n 0 (V 17 (8 * o + n 2 o)) ≤ 0
        · rw [if_pos y]; rfl
        · rw [if_neg y]; rfl
      rw [e]; exact this
    · rw [hs.1] at z
      refine ⟨w1.1, by omega, by decide, by decide, ?_⟩
      intro σ1 f1
      rw [hmi] at f1
      rw [wr_id (by omega) (by omega)]
      refine ⟨by omega, by omega, by decide, by decide, ?_⟩
      intro σ2 f2
      rw [f1, up_k (by decide), hs.2.2.2.2.1 _ w1.1 w1.2] at f2
      refine ⟨o0, by omega, by decide, by decide, ?_⟩
      intro σ3 f3
      rw [f2, up_k (by decide), up_k (by decide), (hm.2.2.2.2.2.2.1 o o0 o1).1] at f3
      refine ⟨o0, by omega, by decide, by decide, ?_⟩
      intro σ4 f4
      rw [f3, up_k (by decide), up_k (by decide), up_k (by decide), ho.2.1] at f4
      refine ⟨by decide, by decide, by decide, by decide, ?_⟩
      intro σ5 f5
      rw [f4, up_k (by decide), up_k (by decide), up_k (by decide), up_k (by decide), hs.2.1] at f5
      refine ⟨by decide, by decide, by decide, by decide, ?_⟩
      intro σ6 f6
      rw [f5, up_k (by decide), up_k (by decide), up_k (by decide), up_k (by decide), up_k (by decide), hs.2.2.1] at f6
      refine ⟨o0, by omega, by decide, by decide, by decide, ?_⟩
      intro σ7 f7
      rw [f6, up_k (by decide), up_k (by decide), up_k (by decide), up_k (by decide), up_k (by decide), up_k (by decide), ho.2.2] at f7
      have k7 : ∀ k, k ≠ 178 → σ7 k = σ k := by
        intro k hk
        rw [f7, up_k hk, up_k hk, up_k hk, up_k hk, up_k hk, up_k hk, up_k hk]
      rw [k7 174 (by decide), k7 159 (by decide), hs.1]
      have hr1 : 0 ≤ V 109 0 := by have := hsk.1; omega
      have hr2 : V 109 0 < V 26 0 := hsk.1.2
      refine ⟨by decide, by decide, hr1, by omega, ?_⟩
      rw [hm.2.2.2.2.2.2.2.2.1]
      refine w201 (S := V) (w := wls V 109 (n 0 (V 17 (8 * o + n 2 o))) o (n 2 o) (n 3 o)) (hc.2.2.2.2.2.2.2 _ hr1 hr2) (by rw [k7 160 (by decide)]; exact hm.2.2.2.2.2.2.2.2.2) (fun j j0 j7 => ?_) (fun σ' hσ => clamp _ _ ?_)
      · have hj : j = 0 ∨ j = 1 ∨ j = 2 ∨ j = 3 ∨ j = 4 ∨ j = 5 ∨ j = 6 := by omega
        unfold wls
        rcases hj with e | e | e | e | e | e | e <;> subst e <;> simp [f7, up]
        rcases hsk.2.2.1 with e | e <;> rw [e] <;> rfl
      · have := h σ' (fun k q1 q2 => by rw [hσ k q2, k7 k q1])
        rw [if_neg z] at this
        exact this
  refine c203 (b203_0 ⟨w1.1, by omega, ?_⟩)
  rw [hmi]
  refine ⟨fun y => b203_1 (fin _ ?_), fun y => fin _ ?_⟩
  · rw [if_pos y]
  · rw [if_neg y]
end NM
