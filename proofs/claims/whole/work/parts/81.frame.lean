/-! A CALL LEAVES the law's own array and the count of cells, by program (wip/whole/gen/g81.py) -/
def nrx (v : dX) : Prop := v ≠ .inr (.inr 197)
def nrs (st : List dX) : Prop := ∀ v ∈ st, nrx v
def nrl (ls : dL) : Prop := ∀ v, some v ∈ ls → nrx v
theorem nrs_c {v : dX} {st : List dX} (h : nrx v) (hs : nrs st) : nrs (v :: st) := fun w hw => (List.mem_cons.mp hw).elim (fun e => e ▸ h) (hs w)
theorem nrs_t {v : dX} {st : List dX} (h : nrs (v :: st)) : nrs st := fun w hw => h w (List.mem_cons_of_mem _ hw)
theorem nrs_h {v : dX} {st : List dX} (h : nrs (v :: st)) : nrx v := h v List.mem_cons_self
theorem nrl_s {ls : dL} {i : Nat} {v : Option dX} (h : nrl ls) (hv : ∀ w, v = some w → nrx w) : nrl (ls.set i v) := by
  intro w hw
  rcases List.mem_or_eq_of_mem_set hw with z | z
  · exact h w z
  · exact hv w z.symm
theorem nrl_g {ls : dL} {i : Nat} {v : dX} (h : nrl ls) (hv : ls[i]? = some (some v)) : nrx v := h v (List.mem_of_getElem? hv)
theorem nrx_i {x : Int} : nrx (.inl x) := by intro z; cases z
theorem nrx_l {x : Int} : nrx (.inr (.inl x)) := by intro z; cases z
theorem nrx_t {t : Nat} (h : nrx (.inr (.inr t))) : t ≠ 197 := fun e => h (by rw [e])
theorem nrx_r {t : Nat} (h : t ≠ 197) : nrx (.inr (.inr t)) := by
  intro z
  injection z with z
  injection z with z
  exact h z
theorem spx_no : ((List.range 198).all (fun t => match spx t with | some (.inr (_, fs)) => !fs.contains 199 | _ => true)) = true := by decide +kernel
theorem spx_nr {t c : Nat} {fs : List Nat} (h : spx t = some (.inr (c, fs))) {j q : Nat} (hj : fs[j]? = some (q + 2)) : q ≠ 197 := by
  intro e
  have h1 := List.all_eq_true.mp spx_no t (List.mem_range.mpr (spx_lt h))
  rw [h] at h1
  have h2 : fs.contains 199 = true := List.contains_iff_mem.mpr (by rw [e] at hj; exact List.mem_of_getElem? hj)
  simp only [h2] at h1
  exact absurd h1 (by decide)
theorem spx_198 : spx 198 = none := by decide +kernel
def NN (V Z : Int → Int) (ls : dL) (st : List dX) (σ : dS) : Prop := nrl ls ∧ nrs st ∧ σ 197 = V ∧ σ 1000000 = Z
section NFR
variable {fr : Bool} {B : Nat × Nat} {C C' : dC} {P P' : Nat → dK} {Q Q' : dR → dS → Prop} {k k' : dK} {u : Nat × Nat} {ls : dL} {st : List dX} {σ : dS} {V Z : Int → Int}
theorem NN_up {t : Nat} {i v : Int} {ls : dL} {st : List dX} {s : dSh} (ht : t ≠ 197) (hs : spx t = some s) (h : NN V Z ls st σ) : NN V Z ls st (up σ t i v) := by
  refine ⟨h.1, h.2.1, ?_, ?_⟩
  · rw [up_row (Ne.symm ht)]; exact h.2.2.1
  · have := spx_lt hs
    rw [up_row (by unfold dN at this; omega)]; exact h.2.2.2
theorem s_push_n {v : dX} (hv : nrx v) (hk : ∀ u ls st σ, NN V Z ls st σ → k u ls st σ → k' u ls st σ) (hN : NN V Z ls st σ) (h : s_push v k u ls st σ) : s_push v k' u ls st σ := hk _ _ _ _ ⟨hN.1, nrs_c hv hN.2.1, hN.2.2⟩ h
theorem s_iload_n {i : Nat} (hk : ∀ u ls st σ, NN V Z ls st σ → k u ls st σ → k' u ls st σ) (hN : NN V Z ls st σ) (h : s_iload i k u ls st σ) : s_iload i k' u ls st σ := by
  obtain ⟨n1, n2, n3⟩ := hN
  unfold s_iload at h ⊢
  split at h
  · exact hk _ _ _ _ ⟨n1, nrs_c nrx_i n2, n3⟩ h
  · exact h.elim
theorem s_lload_n {i : Nat} (hk : ∀ u ls st σ, NN V Z ls st σ → k u ls st σ → k' u ls st σ) (hN : NN V Z ls st σ) (h : s_lload i k u ls st σ) : s_lload i k' u ls st σ := by
  obtain ⟨n1, n2, n3⟩ := hN
  unfold s_lload at h ⊢
  split at h
  · exact hk _ _ _ _ ⟨n1, nrs_c nrx_l n2, n3⟩ h
  · exact h.elim
theorem s_aload_n {i : Nat} (hk : ∀ u ls st σ, NN V Z ls st σ → k u ls st σ → k' u ls st σ) (hN : NN V Z ls st σ) (h : s_aload i k u ls st σ) : s_aload i k' u ls st σ := by
  obtain ⟨n1, n2, n3⟩ := hN
  unfold s_aload at h ⊢
  split at h
  · rename_i hs
    exact hk _ _ _ _ ⟨n1, nrs_c (nrl_g n1 hs) n2, n3⟩ h
  · exact h.elim
theorem s_istore_n {i : Nat} (hk : ∀ u ls st σ, NN V Z ls st σ → k u ls st σ → k' u ls st σ) (hN : NN V Z ls st σ) (h : s_istore i k u ls st σ) : s_istore i k' u ls st σ := by
  obtain ⟨n1, n2, n3⟩ := hN
  unfold s_istore at h ⊢
  split at h
  · exact ⟨h.1, hk _ _ _ _ ⟨nrl_s n1 (fun w hw => by cases hw; exact nrs_h n2), nrs_t n2, n3⟩ h.2⟩
  · exact h.elim
theorem s_astore_n {i : Nat} (hk : ∀ u ls st σ, NN V Z ls st σ → k u ls st σ → k' u ls st σ) (hN : NN V Z ls st σ) (h : s_astore i k u ls st σ) : s_astore i k' u ls st σ := by
  obtain ⟨n1, n2, n3⟩ := hN
  unfold s_astore at h ⊢
  split at h
  · exact ⟨h.1, hk _ _ _ _ ⟨nrl_s n1 (fun w hw => by cases hw; exact nrs_h n2), nrs_t n2, n3⟩ h.2⟩
  · exact h.elim
theorem s_lstore_n {i : Nat} (hk : ∀ u ls st σ, NN V Z ls st σ → k u ls st σ → k' u ls st σ) (hN : NN V Z ls st σ) (h : s_lstore i k u ls st σ) : s_lstore i k' u ls st σ := by
  obtain ⟨n1, n2, n3⟩ := hN
  unfold s_lstore at h ⊢
  split at h
  · exact ⟨h.1, h.2.1, hk _ _ _ _ ⟨nrl_s (nrl_s n1 (fun w hw => by cases hw; exact nrs_h n2)) (fun w hw => by cases hw), nrs_t n2, n3⟩ h.2.2⟩
  · exact h.elim
theorem s_iinc_n {i : Nat} {a : Int} (hk : ∀ u ls st σ, NN V Z ls st σ → k u ls st σ → k' u ls st σ) (hN : NN V Z ls st σ) (h : s_iinc i a k u ls st σ) : s_iinc i a k' u ls st σ := by
  obtain ⟨n1, n2, n3⟩ := hN
  unfold s_iinc at h ⊢
  split at h
  · exact ⟨h.1, hk _ _ _ _ ⟨nrl_s n1 (fun w hw => by cases hw; exact nrx_i), n2, n3⟩ h.2⟩
  · exact h.elim
theorem s_bin_n {f : Int → Int → Int} (hk : ∀ u ls st σ, NN V Z ls st σ → k u ls st σ → k' u ls st σ) (hN : NN V Z ls st σ) (h : s_bin f k u ls st σ) : s_bin f k' u ls st σ := by
  obtain ⟨n1, n2, n3⟩ := hN
  unfold s_bin at h ⊢
  split at h
  · exact hk _ _ _ _ ⟨n1, nrs_c nrx_i (nrs_t (nrs_t n2)), n3⟩ h
  · exact h.elim
theorem s_div_n {f : Int → Int → Int} (hk : ∀ u ls st σ, NN V Z ls st σ → k u ls st σ → k' u ls st σ) (hN : NN V Z ls st σ) (h : s_div f k u ls st σ) : s_div f k' u ls st σ := by
  obtain ⟨n1, n2, n3⟩ := hN
  unfold s_div at h ⊢
  split at h
  · exact ⟨h.1, hk _ _ _ _ ⟨n1, nrs_c nrx_i (nrs_t (nrs_t n2)), n3⟩ h.2⟩
  · exact h.elim
theorem s_un_n {f : Int → Int} (hk : ∀ u ls st σ, NN V Z ls st σ → k u ls st σ → k' u ls st σ) (hN : NN V Z ls st σ) (h : s_un f k u ls st σ) : s_un f k' u ls st σ := by
  obtain ⟨n1, n2, n3⟩ := hN
  unfold s_un at h ⊢
  split at h
  · exact hk _ _ _ _ ⟨n1, nrs_c nrx_i (nrs_t n2), n3⟩ h
  · exact h.elim
theorem s_i2l_n  (hk : ∀ u ls st σ, NN V Z ls st σ → k u ls st σ → k' u ls st σ) (hN : NN V Z ls st σ) (h : s_i2l  k u ls st σ) : s_i2l  k' u ls st σ := by
  obtain ⟨n1, n2, n3⟩ := hN
  unfold s_i2l at h ⊢
  split at h
  · exact hk _ _ _ _ ⟨n1, nrs_c nrx_l (nrs_t n2), n3⟩ h
  · exact h.elim
theorem s_lbin_n {f : Int → Int → Int} (hk : ∀ u ls st σ, NN V Z ls st σ → k u ls st σ → k' u ls st σ) (hN : NN V Z ls st σ) (h : s_lbin f k u ls st σ) : s_lbin f k' u ls st σ := by
  obtain ⟨n1, n2, n3⟩ := hN
  unfold s_lbin at h ⊢
  split at h
  · exact hk _ _ _ _ ⟨n1, nrs_c nrx_l (nrs_t (nrs_t n2)), n3⟩ h
  · exact h.elim
theorem s_lshl_n  (hk : ∀ u ls st σ, NN V Z ls st σ → k u ls st σ → k' u ls st σ) (hN : NN V Z ls st σ) (h : s_lshl  k u ls st σ) : s_lshl  k' u ls st σ := by
  obtain ⟨n1, n2, n3⟩ := hN
  unfold s_lshl at h ⊢
  split at h
  · exact hk _ _ _ _ ⟨n1, nrs_c nrx_l (nrs_t (nrs_t n2)), n3⟩ h
  · exact h.elim
theorem s_lcmp_n  (hk : ∀ u ls st σ, NN V Z ls st σ → k u ls st σ → k' u ls st σ) (hN : NN V Z ls st σ) (h : s_lcmp  k u ls st σ) : s_lcmp  k' u ls st σ := by
  obtain ⟨n1, n2, n3⟩ := hN
  unfold s_lcmp at h ⊢
  split at h
  · exact hk _ _ _ _ ⟨n1, nrs_c nrx_i (nrs_t (nrs_t n2)), n3⟩ h
  · exact h.elim
theorem s_dup_n  (hk : ∀ u ls st σ, NN V Z ls st σ → k u ls st σ → k' u ls st σ) (hN : NN V Z ls st σ) (h : s_dup  k u ls st σ) : s_dup  k' u ls st σ := by
  obtain ⟨n1, n2, n3⟩ := hN
  unfold s_dup at h ⊢
  split at h
  · exact ⟨h.1, hk _ _ _ _ ⟨n1, nrs_c (nrs_h n2) n2, n3⟩ h.2⟩
  · exact h.elim
theorem s_pop_n  (hk : ∀ u ls st σ, NN V Z ls st σ → k u ls st σ → k' u ls st σ) (hN : NN V Z ls st σ) (h : s_pop  k u ls st σ) : s_pop  k' u ls st σ := by
  obtain ⟨n1, n2, n3⟩ := hN
  unfold s_pop at h ⊢
  split at h
  · exact ⟨h.1, hk _ _ _ _ ⟨n1, nrs_t n2, n3⟩ h.2⟩
  · exact h.elim
theorem s_dup2_n  (hk : ∀ u ls st σ, NN V Z ls st σ → k u ls st σ → k' u ls st σ) (hN : NN V Z ls st σ) (h : s_dup2  k u ls st σ) : s_dup2  k' u ls st σ := by
  obtain ⟨n1, n2, n3⟩ := hN
  unfold s_dup2 at h ⊢
  split at h
  · exact ⟨h.1, h.2.1, hk _ _ _ _ ⟨n1, nrs_c (nrs_h n2) (nrs_c (nrs_h (nrs_t n2)) n2), n3⟩ h.2.2⟩
  · exact h.elim
theorem s_objI_n  (hk : ∀ u ls st σ, NN V Z ls st σ → k u ls st σ → k' u ls st σ) (hN : NN V Z ls st σ) (h : s_objI  k u ls st σ) : s_objI  k' u ls st σ := by
  obtain ⟨n1, n2, n3⟩ := hN
  unfold s_objI at h ⊢
  split at h
  · exact ⟨h.1, hk _ _ _ _ ⟨n1, nrs_t n2, n3⟩ h.2⟩
  · exact h.elim
theorem s_if_n {c : Int → Prop} {j j' : dK} (hj : ∀ u ls st σ, NN V Z ls st σ → j u ls st σ → j' u ls st σ) (hk : ∀ u ls st σ, NN V Z ls st σ → k u ls st σ → k' u ls st σ) (hN : NN V Z ls st σ) (h : s_if c j k u ls st σ) : s_if c j' k' u ls st σ := by
  obtain ⟨n1, n2, n3⟩ := hN
  unfold s_if at h ⊢
  split at h
  · exact ⟨fun q => hj _ _ _ _ ⟨n1, nrs_t n2, n3⟩ (h.1 q), fun q => hk _ _ _ _ ⟨n1, nrs_t n2, n3⟩ (h.2 q)⟩
  · exact h.elim
theorem s_icmp_n {c : Int → Int → Prop} {j j' : dK} (hj : ∀ u ls st σ, NN V Z ls st σ → j u ls st σ → j' u ls st σ) (hk : ∀ u ls st σ, NN V Z ls st σ → k u ls st σ → k' u ls st σ) (hN : NN V Z ls st σ) (h : s_icmp c j k u ls st σ) : s_icmp c j' k' u ls st σ := by
  obtain ⟨n1, n2, n3⟩ := hN
  unfold s_icmp at h ⊢
  split at h
  · exact ⟨fun q => hj _ _ _ _ ⟨n1, nrs_t (nrs_t n2), n3⟩ (h.1 q), fun q => hk _ _ _ _ ⟨n1, nrs_t (nrs_t n2), n3⟩ (h.2 q)⟩
  · exact h.elim
theorem s_getf_n {ci j : Nat} (hk : ∀ u ls st σ, NN V Z ls st σ → k u ls st σ → k' u ls st σ) (hN : NN V Z ls st σ) (h : s_getf fr ci j k u ls st σ) : s_getf fr ci j k' u ls st σ := by
  obtain ⟨n1, n2, n3⟩ := hN
  unfold s_getf at h ⊢
  split at h
  · split at h
    · rename_i c fs hs
      obtain ⟨h1, h2, h⟩ := h
      refine ⟨h1, h2, ?_⟩
      split at h
      · exact hk _ _ _ _ ⟨n1, nrs_c nrx_i (nrs_t n2), n3⟩ h
      · exact hk _ _ _ _ ⟨n1, nrs_c nrx_l (nrs_t n2), n3⟩ h
      · rename_i q hf
        exact ⟨h.1, hk _ _ _ _ ⟨n1, nrs_c (nrx_r (spx_nr hs hf)) (nrs_t n2), n3⟩ h.2⟩
      · exact h.elim
    · exact h.elim
  · exact h.elim
theorem s_putf_n {ci j z : Nat} (hk : ∀ u ls st σ, NN V Z ls st σ → k u ls st σ → k' u ls st σ) (hN : NN V Z ls st σ) (h : s_putf fr ci j z k u ls st σ) : s_putf fr ci j z k' u ls st σ := by
  obtain ⟨n1, n2, n3⟩ := hN
  unfold s_putf at h ⊢
  split at h
  · split at h
    · rename_i c fs hs
      have ht := nrx_t (nrs_h (nrs_t n2))
      obtain ⟨h1, h2, h⟩ := h
      refine ⟨h1, h2, ?_⟩
      split at h
      · exact ⟨h.1, hk _ _ _ _ (NN_up ht hs ⟨n1, nrs_t (nrs_t n2), n3⟩) h.2⟩
      · exact ⟨h.1, h.2.1, hk _ _ _ _ (NN_up ht hs (NN_up ht hs ⟨n1, nrs_t (nrs_t n2), n3⟩)) h.2.2⟩
      · exact ⟨h.1, h.2.1, h.2.2.1, hk _ _ _ _ (NN_up ht hs ⟨n1, nrs_t (nrs_t n2), n3⟩) h.2.2.2⟩
      · exact h.elim
    · exact h.elim
  · exact h.elim
theorem s_ald_n {kind : Nat} (hk : ∀ u ls st σ, NN V Z ls st σ → k u ls st σ → k' u ls st σ) (hN : NN V Z ls st σ) (h : s_ald fr kind k u ls st σ) : s_ald fr kind k' u ls st σ := by
  obtain ⟨n1, n2, n3⟩ := hN
  unfold s_ald at h ⊢
  split at h
  · split at h
    · rename_i hs
      exact ⟨h.1, h.2.1, h.2.2.1, h.2.2.2.1, hk _ _ _ _ ⟨n1, nrs_c nrx_i (nrs_t (nrs_t n2)), n3⟩ h.2.2.2.2⟩
    · exact h.elim
  · exact h.elim
theorem s_ast_n {kind : Nat} (hk : ∀ u ls st σ, NN V Z ls st σ → k u ls st σ → k' u ls st σ) (hN : NN V Z ls st σ) (h : s_ast fr kind k u ls st σ) : s_ast fr kind k' u ls st σ := by
  obtain ⟨n1, n2, n3⟩ := hN
  unfold s_ast at h ⊢
  split at h
  · split at h
    · rename_i hs
      exact ⟨h.1, h.2.1, h.2.2.1, h.2.2.2.1, h.2.2.2.2.1, hk _ _ _ _ (NN_up (nrx_t (nrs_h (nrs_t (nrs_t n2)))) hs ⟨n1, nrs_t (nrs_t (nrs_t n2)), n3⟩) h.2.2.2.2.2⟩
    · exact h.elim
  · exact h.elim
theorem s_lald_n  (hk : ∀ u ls st σ, NN V Z ls st σ → k u ls st σ → k' u ls st σ) (hN : NN V Z ls st σ) (h : s_lald  k u ls st σ) : s_lald  k' u ls st σ := by
  obtain ⟨n1, n2, n3⟩ := hN
  unfold s_lald at h ⊢
  split at h
  · split at h
    · rename_i hs
      exact ⟨h.1, h.2.1, h.2.2.1, hk _ _ _ _ ⟨n1, nrs_c nrx_l (nrs_t (nrs_t n2)), n3⟩ h.2.2.2⟩
    · exact h.elim
  · exact h.elim
theorem s_last_n  (hk : ∀ u ls st σ, NN V Z ls st σ → k u ls st σ → k' u ls st σ) (hN : NN V Z ls st σ) (h : s_last  k u ls st σ) : s_last  k' u ls st σ := by
  obtain ⟨n1, n2, n3⟩ := hN
  unfold s_last at h ⊢
  split at h
  · split at h
    · rename_i hs
      exact ⟨h.1, h.2.1, h.2.2.1, h.2.2.2.1, hk _ _ _ _ (NN_up (nrx_t (nrs_h (nrs_t (nrs_t n2)))) hs (NN_up (nrx_t (nrs_h (nrs_t (nrs_t n2)))) hs ⟨n1, nrs_t (nrs_t (nrs_t n2)), n3⟩)) h.2.2.2.2⟩
    · exact h.elim
  · exact h.elim
theorem s_alen_n  (hk : ∀ u ls st σ, NN V Z ls st σ → k u ls st σ → k' u ls st σ) (hN : NN V Z ls st σ) (h : s_alen fr k u ls st σ) : s_alen fr k' u ls st σ := by
  obtain ⟨n1, n2, n3⟩ := hN
  unfold s_alen at h ⊢
  split at h
  · split at h
    · rename_i hs
      exact ⟨h.1, hk _ _ _ _ ⟨n1, nrs_c nrx_i (nrs_t n2), n3⟩ h.2⟩
    · exact h.elim
  · exact h.elim
theorem popN_n : ∀ (n : Nat) (acc st as r : List dX), nrs acc → nrs st → popN n acc st = some (as, r) → nrs as ∧ nrs r
  | 0, acc, st, as, r, ha, hs, h => by
    simp only [popN, Option.some.injEq, Prod.mk.injEq] at h
    rw [← h.1, ← h.2]
    exact ⟨ha, hs⟩
  | n + 1, acc, [], as, r, _, _, h => by simp [popN] at h
  | n + 1, acc, v :: st, as, r, ha, hs, h => popN_n n (v :: acc) st as r (nrs_c (nrs_h hs) ha) (nrs_t hs) h
/-- what a callee leaves -/
def NQ (σ : dS) (Q : dR → dS → Prop) : dR → dS → Prop := fun r σ' => Q r σ' ∧ σ' 197 = σ 197 ∧ σ' 1000000 = σ 1000000 ∧ ∀ v, r = .inl (some v) → nrx v
theorem s_call_n {y n ci mc ms : Nat} (hC : ∀ as σ Q, nrs as → σ 1000000 = Z → C y as σ Q → C' y as σ (NQ σ Q)) (hCm : ∀ y as σ Q Q', (∀ r σ, Q r σ → Q' r σ) → C' y as σ Q → C' y as σ Q') (hQ : ∀ r σ, σ 197 = V → σ 1000000 = Z → (∀ v, r = .inl (some v) → nrx v) → Q r σ → Q' r σ) (hk : ∀ u ls st σ, NN V Z ls st σ → k u ls st σ → k' u ls st σ) (hN : NN V Z ls st σ) (h : s_call fr C B Q y n ci mc ms k u ls st σ) : s_call fr C' B Q' y n ci mc ms k' u ls st σ := by
  obtain ⟨n1, n2, n3, n4⟩ := hN
  unfold s_call at h ⊢
  split at h
  · rename_i as r hp
    obtain ⟨a1, a2⟩ := popN_n _ _ _ _ _ (fun v hv => absurd hv List.not_mem_nil) n2 hp
    obtain ⟨h1, h2, h3, h4, h⟩ := h
    refine ⟨h1, h2, h3, h4, ?_⟩
    refine hCm _ _ _ _ _ (fun res σ' q => ?_) (hC as σ _ a1 n4 h)
    obtain ⟨q1, q2, q3, q4⟩ := q
    match res, q1, q4 with
    | .inl (some v), q1, q4 => exact hk _ _ _ _ ⟨n1, nrs_c (q4 v rfl) a2, q2.trans n3, q3.trans n4⟩ q1
    | .inl none, q1, q4 => exact hk _ _ _ _ ⟨n1, a2, q2.trans n3, q3.trans n4⟩ q1
    | .inr x, q1, q4 => exact hQ _ _ (q2.trans n3) (q3.trans n4) (fun v hv => by cases hv) q1
  · exact h.elim
theorem s_new_n {ci N : Nat} (hZ : Z 0 = 198) (hk : ∀ u ls st σ, NN V Z ls st σ → k u ls st σ → k' u ls st σ) (hN : NN V Z ls st σ) (h : s_new fr B ci N k u ls st σ) : s_new fr B ci N k' u ls st σ := by
  unfold s_new at h
  rw [hN.2.2.2, hZ] at h
  have e : spx (198 : Int).toNat = none := spx_198
  simp only [e] at h
theorem s_newa_n {kind : Nat} (hZ : Z 0 = 198) (hk : ∀ u ls st σ, NN V Z ls st σ → k u ls st σ → k' u ls st σ) (hN : NN V Z ls st σ) (h : s_newa fr B kind k u ls st σ) : s_newa fr B kind k' u ls st σ := by
  unfold s_newa at h
  have e : spx (198 : Int).toNat = none := spx_198
  split at h
  · rw [hN.2.2.2, hZ] at h
    simp only [e] at h
  · exact h.elim
theorem s_iret_n {z : Nat} (hQ : ∀ r σ, σ 197 = V → σ 1000000 = Z → (∀ v, r = .inl (some v) → nrx v) → Q r σ → Q' r σ) (hN : NN V Z ls st σ) (h : s_iret B Q z u ls st σ) : s_iret B Q' z u ls st σ := by
  obtain ⟨n1, n2, n3, n4⟩ := hN
  unfold s_iret at h ⊢
  split at h
  · exact ⟨h.1, h.2.1, h.2.2.1, hQ _ _ n3 n4 (fun v hv => by cases hv; exact nrx_i) h.2.2.2⟩
  · exact h.elim
theorem s_lret_n (hQ : ∀ r σ, σ 197 = V → σ 1000000 = Z → (∀ v, r = .inl (some v) → nrx v) → Q r σ → Q' r σ) (hN : NN V Z ls st σ) (h : s_lret B Q u ls st σ) : s_lret B Q' u ls st σ := by
  obtain ⟨n1, n2, n3, n4⟩ := hN
  unfold s_lret at h ⊢
  split at h
  · exact ⟨h.1, h.2.1, hQ _ _ n3 n4 (fun v hv => by cases hv; exact nrx_l) h.2.2⟩
  · exact h.elim
theorem s_vret_n (hQ : ∀ r σ, σ 197 = V → σ 1000000 = Z → (∀ v, r = .inl (some v) → nrx v) → Q r σ → Q' r σ) (hN : NN V Z ls st σ) (h : s_vret B Q u ls st σ) : s_vret B Q' u ls st σ := by
  obtain ⟨n1, n2, n3, n4⟩ := hN
  unfold s_vret at h ⊢
  split at h
  · exact ⟨h.1, h.2.1, hQ _ _ n3 n4 (fun v hv => by cases hv) h.2.2⟩
  · exact h.elim
theorem s_throw_n {e : Nat} (hQ : ∀ r σ, σ 197 = V → σ 1000000 = Z → (∀ v, r = .inl (some v) → nrx v) → Q r σ → Q' r σ) (hN : NN V Z ls st σ) (h : s_throw B Q e u ls st σ) : s_throw B Q' e u ls st σ := by
  obtain ⟨n1, n2, n3, n4⟩ := hN
  exact ⟨h.1, h.2.1, h.2.2.1, hQ _ _ n3 n4 (fun v hv => by cases hv) h.2.2.2⟩
theorem swT_n {d : Nat} {x : Int} {r : List dX} (hP : ∀ lb u ls st σ, NN V Z ls st σ → P lb u ls st σ → P' lb u ls st σ) (hN : NN V Z ls r σ) : ∀ (tl : List Nat) (a : Int), swT P d x u ls r σ a tl → swT P' d x u ls r σ a tl
  | [], _, h => hP _ _ _ _ _ hN h
  | _ :: tl, a, h => ⟨fun q => hP _ _ _ _ _ hN (h.1 q), fun q => swT_n hP hN tl (a + 1) (h.2 q)⟩
theorem s_tsw_n {d : Nat} {a : Int} {tl : List Nat} (hP : ∀ lb u ls st σ, NN V Z ls st σ → P lb u ls st σ → P' lb u ls st σ) (hN : NN V Z ls st σ) (h : s_tsw P d a tl u ls st σ) : s_tsw P' d a tl u ls st σ := by
  obtain ⟨n1, n2, n3⟩ := hN
  unfold s_tsw at h ⊢
  split at h
  · exact swT_n hP ⟨n1, nrs_t n2, n3⟩ tl a h
  · exact h.elim
theorem swL_n {d : Nat} {x : Int} {r : List dX} (hP : ∀ lb u ls st σ, NN V Z ls st σ → P lb u ls st σ → P' lb u ls st σ) (hN : NN V Z ls r σ) : ∀ (tl : List Nat), swL P d x u ls r σ tl → swL P' d x u ls r σ tl
  | [], h => hP _ _ _ _ _ hN h
  | [_], h => hP _ _ _ _ _ hN h
  | _ :: _ :: tl, h => ⟨fun q => hP _ _ _ _ _ hN (h.1 q), fun q => swL_n hP hN tl (h.2 q)⟩
theorem s_lsw_n {d : Nat} {tl : List Nat} (hP : ∀ lb u ls st σ, NN V Z ls st σ → P lb u ls st σ → P' lb u ls st σ) (hN : NN V Z ls st σ) (h : s_lsw P d tl u ls st σ) : s_lsw P' d tl u ls st σ := by
  obtain ⟨n1, n2, n3⟩ := hN
  unfold s_lsw at h ⊢
  split at h
  · exact swL_n hP ⟨n1, nrs_t n2, n3⟩ tl h
  · exact h.elim
theorem s_tln_n {n : Nat} (hk : ∀ u ls st σ, NN V Z ls st σ → k u ls st σ → k' u ls st σ) (hN : NN V Z ls st σ) (h : s_tln B n k u ls st σ) : s_tln B n k' u ls st σ := ⟨h.1, h.2.1, h.2.2.1, hk _ _ _ _ ⟨hN.1, nrs_c nrx_i hN.2.1, hN.2.2⟩ h.2.2.2⟩
theorem s_tch_n {n i : Nat} (hk : ∀ u ls st σ, NN V Z ls st σ → k u ls st σ → k' u ls st σ) (hN : NN V Z ls st σ) (h : s_tch B n i k u ls st σ) : s_tch B n i k' u ls st σ := by
  obtain ⟨n1, n2, n3⟩ := hN
  unfold s_tch at h ⊢
  split at h
  · exact ⟨h.1, h.2.1, h.2.2.1, h.2.2.2.1, h.2.2.2.2.1, hk _ _ _ _ ⟨n1, nrs_c nrx_i n2, n3⟩ h.2.2.2.2.2⟩
  · exact h.elim
theorem s_tix_n {n i : Nat} (hk : ∀ u ls st σ, NN V Z ls st σ → k u ls st σ → k' u ls st σ) (hN : NN V Z ls st σ) (h : s_tix B n i k u ls st σ) : s_tix B n i k' u ls st σ := by
  obtain ⟨n1, n2, n3⟩ := hN
  unfold s_tix at h ⊢
  split at h
  · exact ⟨h.1, h.2.1, h.2.2.1, h.2.2.2.1, h.2.2.2.2.1, hk _ _ _ _ ⟨n1, nrs_c nrx_i n2, n3⟩ h.2.2.2.2.2⟩
  · exact h.elim
theorem stp_n {op : Nat} {a : Int} {b : Nat} {tl : List Nat} (hC : ∀ y as σ Q, nrs as → σ 1000000 = Z → C y as σ Q → C' y as σ (NQ σ Q)) (hCm : ∀ y as σ Q Q', (∀ r σ, Q r σ → Q' r σ) → C' y as σ Q → C' y as σ Q') (hP : ∀ lb u ls st σ, NN V Z ls st σ → P lb u ls st σ → P' lb u ls st σ) (hQ : ∀ r σ, σ 197 = V → σ 1000000 = Z → (∀ v, r = .inl (some v) → nrx v) → Q r σ → Q' r σ) (hZ : Z 0 = 198) (hk : ∀ u ls st σ, NN V Z ls st σ → k u ls st σ → k' u ls st σ) (hN : NN V Z ls st σ) (h : stp fr B C P Q op a b tl k u ls st σ) : stp fr B C' P' Q' op a b tl k' u ls st σ := by
  unfold stp at h ⊢
  split at h
  · exact s_push_n nrx_i hk hN h
  · exact s_push_n nrx_i hk hN h
  · exact s_push_n nrx_i hk hN h
  · exact s_push_n nrx_i hk hN h
  · exact s_push_n nrx_i hk hN h
  · exact s_iload_n hk hN h
  · exact s_iload_n hk hN h
  · exact s_aload_n hk hN h
  · exact s_aload_n hk hN h
  · exact s_lload_n hk hN h
  · exact s_lload_n hk hN h
  · exact s_istore_n hk hN h
  · exact s_istore_n hk hN h
  · exact s_astore_n hk hN h
  · exact s_astore_n hk hN h
  · exact s_lstore_n hk hN h
  · exact s_lstore_n hk hN h
  · exact s_iinc_n hk hN h
  · exact s_bin_n hk hN h
  · exact s_bin_n hk hN h
  · exact s_bin_n hk hN h
  · exact s_div_n hk hN h
  · exact s_div_n hk hN h
  · exact s_un_n hk hN h
  · exact s_bin_n hk hN h
  · exact s_bin_n hk hN h
  · exact s_bin_n hk hN h
  · exact s_bin_n hk hN h
  · exact s_bin_n hk hN h
  · exact s_bin_n hk hN h
  · exact s_i2l_n hk hN h
  · exact s_un_n hk hN h
  · exact s_lcmp_n hk hN h
  · exact s_push_n nrx_l hk hN h
  · exact s_lbin_n hk hN h
  · exact s_lbin_n hk hN h
  · exact s_lshl_n hk hN h
  · exact s_lbin_n hk hN h
  · exact s_push_n nrx_l hk hN h
  · exact s_dup_n hk hN h
  · exact s_pop_n hk hN h
  · exact s_dup2_n hk hN h
  · exact hP _ _ _ _ _ hN h
  · exact s_if_n (hP _) hk hN h
  · exact s_if_n (hP _) hk hN h
  · exact s_if_n (hP _) hk hN h
  · exact s_if_n (hP _) hk hN h
  · exact s_if_n (hP _) hk hN h
  · exact s_if_n (hP _) hk hN h
  · exact s_icmp_n (hP _) hk hN h
  · exact s_icmp_n (hP _) hk hN h
  · exact s_icmp_n (hP _) hk hN h
  · exact s_icmp_n (hP _) hk hN h
  · exact s_icmp_n (hP _) hk hN h
  · exact s_icmp_n (hP _) hk hN h
  · exact s_getf_n hk hN h
  · exact s_putf_n hk hN h
  · exact s_ald_n hk hN h
  · exact s_ast_n hk hN h
  · exact s_ald_n hk hN h
  · exact s_ast_n hk hN h
  · exact s_lald_n hk hN h
  · exact s_last_n hk hN h
  · exact s_alen_n hk hN h
  · exact s_call_n (hC _) hCm hQ hk hN h
  · exact s_call_n (hC _) hCm hQ hk hN h
  · exact s_call_n (hC _) hCm hQ hk hN h
  · exact s_objI_n hk hN h
  · exact s_new_n hZ hk hN h
  · exact s_newa_n hZ hk hN h
  · exact s_iret_n hQ hN h
  · exact s_lret_n hQ hN h
  · exact s_vret_n hQ hN h
  · exact s_tsw_n hP hN h
  · exact s_lsw_n hP hN h
  · exact s_throw_n hQ hN h
  · exact hP _ _ _ _ _ hN h
  · exact s_putf_n hk hN h
  · exact s_tln_n hk hN h
  · exact s_tch_n hk hN h
  · exact s_tix_n hk hN h
  · exact h.elim
theorem ex_n (hC : ∀ y as σ Q, nrs as → σ 1000000 = Z → C y as σ Q → C' y as σ (NQ σ Q)) (hCm : ∀ y as σ Q Q', (∀ r σ, Q r σ → Q' r σ) → C' y as σ Q → C' y as σ Q') (hP : ∀ lb u ls st σ, NN V Z ls st σ → P lb u ls st σ → P' lb u ls st σ) (hQ : ∀ r σ, σ 197 = V → σ 1000000 = Z → (∀ v, r = .inl (some v) → nrx v) → Q r σ → Q' r σ) (hZ : Z 0 = 198) : ∀ (is : List dI) (u : Nat × Nat) (ls : dL) (st : List dX) (σ : dS), NN V Z ls st σ → ex fr B C P Q is u ls st σ → ex fr B C' P' Q' is u ls st σ
  | [], _, _, _, _, _, h => h.elim
  | (op, a, b, tl) :: is, _, _, _, _, hN, h => stp_n (op := op) (a := a) (b := b) (tl := tl) hC hCm hP hQ hZ (ex_n hC hCm hP hQ hZ is) hN h
end NFR
theorem wpm_n (blk : Nat → Nat → List dI) (inf : Nat → Nat × Bool × (Nat × Nat)) : ∀ (d : Nat) (y : Nat) (as : List dX) (σ : dS) (Q : dR → dS → Prop), nrs as → σ 1000000 0 = 198 → wpm blk inf d y as σ Q → wpm blk inf d y as σ (NQ σ Q)
  | 0, _, _, _, _, _, _, h => h.elim
  | d + 1, y, as, σ, Q, ha, h0, h => by
    have m1 : ∀ P P' : Nat → dK, (∀ lb u ls st σ, P lb u ls st σ → P' lb u ls st σ) → ∀ lb u ls st s, bdy blk (inf y).2.1 (inf y).2.2 (wpm blk inf d) (NQ σ Q) y P lb u ls st s → bdy blk (inf y).2.1 (inf y).2.2 (wpm blk inf d) (NQ σ Q) y P' lb u ls st s :=
      fun _ _ hP _ _ _ _ _ h => ex_m (wpm_m blk inf d) hP (fun _ _ z => z) _ _ _ _ _ h
    refine ⟨h.1, ?_⟩
    have key := h.2 (fun lb u ls st s => NN (σ 197) (σ 1000000) ls st s → lfp (bdy blk (inf y).2.1 (inf y).2.2 (wpm blk inf d) (NQ σ Q) y) lb u ls st s) (fun lb u ls st s g gN => by
      refine lfp_in m1 ?_
      exact ex_n (V := σ 197) (Z := σ 1000000) (fun y as s Q ha hz h => wpm_n blk inf d y as s Q ha (by rw [hz]; exact h0) h) (fun y as s Q Q' hq h => wpm_m blk inf d y as s Q Q' hq h) (fun lb u ls st s gN q => q gN) (fun r s e1 e2 e3 q => ⟨q, e1, e2, e3⟩) h0 _ _ _ _ _ gN g)
    refine key ⟨?_, fun v hv => absurd hv List.not_mem_nil, rfl, rfl⟩
    intro v hv
    rcases List.mem_append.mp hv with z | z
    · obtain ⟨w, hw, e⟩ := List.mem_map.mp z
      cases e
      exact ha _ hw
    · have := (List.mem_replicate.mp z).2
      cases this
/-- a call in a pair, and what it leaves -/
theorem wI_n {d y : Nat} {as : List dX} {σ : dS} {Q : dR → dS → Prop} {K : Int → dS → Prop} (ha : nrs as) (h0 : σ 1000000 0 = 198) (h : wI d y as σ Q K) : wI d y as σ (fun r σ' => Q r σ' ∧ σ' 197 = σ 197 ∧ σ' 1000000 = σ 1000000) (fun v σ' => K v σ' ∧ σ' 197 = σ 197 ∧ σ' 1000000 = σ 1000000) := by
  unfold wI at h ⊢
  refine wpm_m blk inf d y as σ _ _ (fun r σ' q => ?_) (wpm_n blk inf d y as σ _ ha h0 h)
  obtain ⟨q1, q2, q3, -⟩ := q
  match r, q1 with
  | .inl (some (.inl v)), q1 => exact ⟨q1, q2, q3⟩
  | .inl none, q1 => exact q1.elim
  | .inl (some (.inr _)), q1 => exact q1.elim
  | .inr x, q1 => exact ⟨q1, q2, q3⟩
theorem wV_n {d y : Nat} {as : List dX} {σ : dS} {Q : dR → dS → Prop} {K : dS → Prop} (ha : nrs as) (h0 : σ 1000000 0 = 198) (h : wV d y as σ Q K) : wV d y as σ (fun r σ' => Q r σ' ∧ σ' 197 = σ 197 ∧ σ' 1000000 = σ 1000000) (fun σ' => K σ' ∧ σ' 197 = σ 197 ∧ σ' 1000000 = σ 1000000) := by
  unfold wV at h ⊢
  refine wpm_m blk inf d y as σ _ _ (fun r σ' q => ?_) (wpm_n blk inf d y as σ _ ha h0 h)
  obtain ⟨q1, q2, q3, -⟩ := q
  match r, q1 with
  | .inl none, q1 => exact ⟨q1, q2, q3⟩
  | .inl (some _), q1 => exact q1.elim
  | .inr x, q1 => exact ⟨q1, q2, q3⟩
/-- deeper is no less -/
theorem wI_d {d y : Nat} {as : List dX} {σ : dS} {Q : dR → dS → Prop} {K : Int → dS → Prop} : ∀ k : Nat, wI d y as σ Q K → wI (d + k) y as σ Q K
  | 0, h => h
  | k + 1, h => wpm_d blk inf (d + k) y as σ _ (wI_d k h)
theorem wV_d {d y : Nat} {as : List dX} {σ : dS} {Q : dR → dS → Prop} {K : dS → Prop} : ∀ k : Nat, wV d y as σ Q K → wV (d + k) y as σ Q K
  | 0, h => h
  | k + 1, h => wpm_d blk inf (d + k) y as σ _ (wV_d k h)
