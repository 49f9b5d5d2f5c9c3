/-! MORE IS OWED, MORE HOLDS: an item is monotone in what is owed behind it -/
section MONO
variable {fr : Bool} {B : Nat × Nat} {C C' : dC} {P P' : Nat → dK} {Q Q' : dR → dS → Prop} {k k' : dK} {u : Nat × Nat} {ls : dL} {st : List dX} {σ : dS}
theorem s_push_m {v : dX} (hk : ∀ u ls st σ, k u ls st σ → k' u ls st σ) (h : s_push v k u ls st σ) : s_push v k' u ls st σ := hk _ _ _ _ h
theorem s_iload_m {i : Nat} (hk : ∀ u ls st σ, k u ls st σ → k' u ls st σ) (h : s_iload i k u ls st σ) : s_iload i k' u ls st σ := by
  unfold s_iload at h ⊢
  split at h
  · exact hk _ _ _ _ h
  · exact h.elim
theorem s_lload_m {i : Nat} (hk : ∀ u ls st σ, k u ls st σ → k' u ls st σ) (h : s_lload i k u ls st σ) : s_lload i k' u ls st σ := by
  unfold s_lload at h ⊢
  split at h
  · exact hk _ _ _ _ h
  · exact h.elim
theorem s_aload_m {i : Nat} (hk : ∀ u ls st σ, k u ls st σ → k' u ls st σ) (h : s_aload i k u ls st σ) : s_aload i k' u ls st σ := by
  unfold s_aload at h ⊢
  split at h
  · exact hk _ _ _ _ h
  · exact h.elim
theorem s_istore_m {i : Nat} (hk : ∀ u ls st σ, k u ls st σ → k' u ls st σ) (h : s_istore i k u ls st σ) : s_istore i k' u ls st σ := by
  unfold s_istore at h ⊢
  split at h
  · exact ⟨h.1, hk _ _ _ _ h.2⟩
  · exact h.elim
theorem s_astore_m {i : Nat} (hk : ∀ u ls st σ, k u ls st σ → k' u ls st σ) (h : s_astore i k u ls st σ) : s_astore i k' u ls st σ := by
  unfold s_astore at h ⊢
  split at h
  · exact ⟨h.1, hk _ _ _ _ h.2⟩
  · exact h.elim
theorem s_lstore_m {i : Nat} (hk : ∀ u ls st σ, k u ls st σ → k' u ls st σ) (h : s_lstore i k u ls st σ) : s_lstore i k' u ls st σ := by
  unfold s_lstore at h ⊢
  split at h
  · exact ⟨h.1, h.2.1, hk _ _ _ _ h.2.2⟩
  · exact h.elim
theorem s_iinc_m {i : Nat} {a : Int} (hk : ∀ u ls st σ, k u ls st σ → k' u ls st σ) (h : s_iinc i a k u ls st σ) : s_iinc i a k' u ls st σ := by
  unfold s_iinc at h ⊢
  split at h
  · exact ⟨h.1, hk _ _ _ _ h.2⟩
  · exact h.elim
theorem s_bin_m {f : Int → Int → Int} (hk : ∀ u ls st σ, k u ls st σ → k' u ls st σ) (h : s_bin f k u ls st σ) : s_bin f k' u ls st σ := by
  unfold s_bin at h ⊢
  split at h
  · exact hk _ _ _ _ h
  · exact h.elim
theorem s_div_m {f : Int → Int → Int} (hk : ∀ u ls st σ, k u ls st σ → k' u ls st σ) (h : s_div f k u ls st σ) : s_div f k' u ls st σ := by
  unfold s_div at h ⊢
  split at h
  · exact ⟨h.1, hk _ _ _ _ h.2⟩
  · exact h.elim
theorem s_un_m {f : Int → Int} (hk : ∀ u ls st σ, k u ls st σ → k' u ls st σ) (h : s_un f k u ls st σ) : s_un f k' u ls st σ := by
  unfold s_un at h ⊢
  split at h
  · exact hk _ _ _ _ h
  · exact h.elim
theorem s_i2l_m  (hk : ∀ u ls st σ, k u ls st σ → k' u ls st σ) (h : s_i2l  k u ls st σ) : s_i2l  k' u ls st σ := by
  unfold s_i2l at h ⊢
  split at h
  · exact hk _ _ _ _ h
  · exact h.elim
theorem s_lbin_m {f : Int → Int → Int} (hk : ∀ u ls st σ, k u ls st σ → k' u ls st σ) (h : s_lbin f k u ls st σ) : s_lbin f k' u ls st σ := by
  unfold s_lbin at h ⊢
  split at h
  · exact hk _ _ _ _ h
  · exact h.elim
theorem s_lshl_m  (hk : ∀ u ls st σ, k u ls st σ → k' u ls st σ) (h : s_lshl  k u ls st σ) : s_lshl  k' u ls st σ := by
  unfold s_lshl at h ⊢
  split at h
  · exact hk _ _ _ _ h
  · exact h.elim
theorem s_lcmp_m  (hk : ∀ u ls st σ, k u ls st σ → k' u ls st σ) (h : s_lcmp  k u ls st σ) : s_lcmp  k' u ls st σ := by
  unfold s_lcmp at h ⊢
  split at h
  · exact hk _ _ _ _ h
  · exact h.elim
theorem s_dup_m  (hk : ∀ u ls st σ, k u ls st σ → k' u ls st σ) (h : s_dup  k u ls st σ) : s_dup  k' u ls st σ := by
  unfold s_dup at h ⊢
  split at h
  · exact ⟨h.1, hk _ _ _ _ h.2⟩
  · exact h.elim
theorem s_pop_m  (hk : ∀ u ls st σ, k u ls st σ → k' u ls st σ) (h : s_pop  k u ls st σ) : s_pop  k' u ls st σ := by
  unfold s_pop at h ⊢
  split at h
  · exact ⟨h.1, hk _ _ _ _ h.2⟩
  · exact h.elim
theorem s_dup2_m  (hk : ∀ u ls st σ, k u ls st σ → k' u ls st σ) (h : s_dup2  k u ls st σ) : s_dup2  k' u ls st σ := by
  unfold s_dup2 at h ⊢
  split at h
  · exact ⟨h.1, h.2.1, hk _ _ _ _ h.2.2⟩
  · exact h.elim
theorem s_objI_m  (hk : ∀ u ls st σ, k u ls st σ → k' u ls st σ) (h : s_objI  k u ls st σ) : s_objI  k' u ls st σ := by
  unfold s_objI at h ⊢
  split at h
  · exact ⟨h.1, hk _ _ _ _ h.2⟩
  · exact h.elim
theorem s_if_m {c : Int → Prop} {j j' : dK} (hj : ∀ u ls st σ, j u ls st σ → j' u ls st σ) (hk : ∀ u ls st σ, k u ls st σ → k' u ls st σ) (h : s_if c j k u ls st σ) : s_if c j' k' u ls st σ := by
  unfold s_if at h ⊢
  split at h
  · exact ⟨fun q => hj _ _ _ _ (h.1 q), fun q => hk _ _ _ _ (h.2 q)⟩
  · exact h.elim
theorem s_icmp_m {c : Int → Int → Prop} {j j' : dK} (hj : ∀ u ls st σ, j u ls st σ → j' u ls st σ) (hk : ∀ u ls st σ, k u ls st σ → k' u ls st σ) (h : s_icmp c j k u ls st σ) : s_icmp c j' k' u ls st σ := by
  unfold s_icmp at h ⊢
  split at h
  · exact ⟨fun q => hj _ _ _ _ (h.1 q), fun q => hk _ _ _ _ (h.2 q)⟩
  · exact h.elim
theorem s_getf_m {ci j : Nat} (hk : ∀ u ls st σ, k u ls st σ → k' u ls st σ) (h : s_getf fr ci j k u ls st σ) : s_getf fr ci j k' u ls st σ := by
  unfold s_getf at h ⊢
  split at h
  · split at h
    · rename_i c fs hs

      obtain ⟨h1, h2, h⟩ := h
      refine ⟨h1, h2, ?_⟩
      split at h
      · exact hk _ _ _ _ h
      · exact hk _ _ _ _ h
      · exact ⟨h.1, hk _ _ _ _ h.2⟩
      · exact h.elim
    · exact h.elim
  · exact h.elim
theorem s_putf_m {ci j z : Nat} (hk : ∀ u ls st σ, k u ls st σ → k' u ls st σ) (h : s_putf fr ci j z k u ls st σ) : s_putf fr ci j z k' u ls st σ := by
  unfold s_putf at h ⊢
  split at h
  · split at h
    · rename_i c fs hs

      obtain ⟨h1, h2, h⟩ := h
      refine ⟨h1, h2, ?_⟩
      split at h
      · exact ⟨h.1, hk _ _ _ _ h.2⟩
      · exact ⟨h.1, h.2.1, hk _ _ _ _ h.2.2⟩
      · exact ⟨h.1, h.2.1, h.2.2.1, hk _ _ _ _ h.2.2.2⟩
      · exact h.elim
    · exact h.elim
  · exact h.elim
theorem s_ald_m {kind : Nat} (hk : ∀ u ls st σ, k u ls st σ → k' u ls st σ) (h : s_ald fr kind k u ls st σ) : s_ald fr kind k' u ls st σ := by
  unfold s_ald at h ⊢
  split at h
  · split at h
    · rename_i hs

      exact ⟨h.1, h.2.1, h.2.2.1, h.2.2.2.1, hk _ _ _ _ h.2.2.2.2⟩
    · exact h.elim
  · exact h.elim
theorem s_ast_m {kind : Nat} (hk : ∀ u ls st σ, k u ls st σ → k' u ls st σ) (h : s_ast fr kind k u ls st σ) : s_ast fr kind k' u ls st σ := by
  unfold s_ast at h ⊢
  split at h
  · split at h
    · rename_i hs

      exact ⟨h.1, h.2.1, h.2.2.1, h.2.2.2.1, h.2.2.2.2.1, hk _ _ _ _ h.2.2.2.2.2⟩
    · exact h.elim
  · exact h.elim
theorem s_lald_m (hk : ∀ u ls st σ, k u ls st σ → k' u ls st σ) (h : s_lald k u ls st σ) : s_lald k' u ls st σ := by
  unfold s_lald at h ⊢
  split at h
  · split at h
    · rename_i hs

      exact ⟨h.1, h.2.1, h.2.2.1, hk _ _ _ _ h.2.2.2⟩
    · exact h.elim
  · exact h.elim
theorem s_last_m (hk : ∀ u ls st σ, k u ls st σ → k' u ls st σ) (h : s_last k u ls st σ) : s_last k' u ls st σ := by
  unfold s_last at h ⊢
  split at h
  · split at h
    · rename_i hs

      exact ⟨h.1, h.2.1, h.2.2.1, h.2.2.2.1, hk _ _ _ _ h.2.2.2.2⟩
    · exact h.elim
  · exact h.elim
theorem s_alen_m (hk : ∀ u ls st σ, k u ls st σ → k' u ls st σ) (h : s_alen fr k u ls st σ) : s_alen fr k' u ls st σ := by
  unfold s_alen at h ⊢
  split at h
  · split at h
    · rename_i hs

      exact ⟨h.1, hk _ _ _ _ h.2⟩
    · exact h.elim
  · exact h.elim
theorem s_call_m {y n ci mc ms : Nat} (hC : ∀ y as σ Q Q', (∀ r σ, Q r σ → Q' r σ) → C y as σ Q → C' y as σ Q') (hQ : ∀ r σ, Q r σ → Q' r σ) (hk : ∀ u ls st σ, k u ls st σ → k' u ls st σ) (h : s_call fr C B Q y n ci mc ms k u ls st σ) : s_call fr C' B Q' y n ci mc ms k' u ls st σ := by
  unfold s_call at h ⊢
  split at h
  · obtain ⟨h1, h2, h3, h4, h5⟩ := h
    refine ⟨h1, h2, h3, h4, hC _ _ _ _ _ (fun r σ' h => ?_) h5⟩
    rcases r with (_ | v) | e
    · exact hk _ _ _ _ h
    · exact hk _ _ _ _ h
    · exact hQ _ _ h
  · exact h.elim
theorem s_new_m {ci N : Nat} (hk : ∀ u ls st σ, k u ls st σ → k' u ls st σ) (h : s_new fr B ci N k u ls st σ) : s_new fr B ci N k' u ls st σ := by
  unfold s_new at h ⊢
  split at h
  · rename_i hs

    exact ⟨h.1, h.2.1, h.2.2.1, h.2.2.2.1, hk _ _ _ _ h.2.2.2.2⟩
  · exact h.elim
theorem s_newa_m {kind : Nat} (hk : ∀ u ls st σ, k u ls st σ → k' u ls st σ) (h : s_newa fr B kind k u ls st σ) : s_newa fr B kind k' u ls st σ := by
  unfold s_newa at h ⊢
  split at h
  · split at h
    · rename_i hs

      exact ⟨h.1, h.2.1, h.2.2.1, h.2.2.2.1, h.2.2.2.2.1, h.2.2.2.2.2.1, hk _ _ _ _ h.2.2.2.2.2.2⟩
    · exact h.elim
  · exact h.elim
theorem s_iret_m {z : Nat} (hQ : ∀ r σ, Q r σ → Q' r σ) (h : s_iret B Q z u ls st σ) : s_iret B Q' z u ls st σ := by
  unfold s_iret at h ⊢
  split at h
  · exact ⟨h.1, h.2.1, h.2.2.1, hQ _ _ h.2.2.2⟩
  · exact h.elim
theorem s_lret_m (hQ : ∀ r σ, Q r σ → Q' r σ) (h : s_lret B Q u ls st σ) : s_lret B Q' u ls st σ := by
  unfold s_lret at h ⊢
  split at h
  · exact ⟨h.1, h.2.1, hQ _ _ h.2.2⟩
  · exact h.elim
theorem s_vret_m (hQ : ∀ r σ, Q r σ → Q' r σ) (h : s_vret B Q u ls st σ) : s_vret B Q' u ls st σ := by
  unfold s_vret at h ⊢
  split at h
  · exact ⟨h.1, h.2.1, hQ _ _ h.2.2⟩
  · exact h.elim
theorem swT_m (hP : ∀ lb u ls st σ, P lb u ls st σ → P' lb u ls st σ) {d : Nat} {x : Int} {r : List dX} : ∀ (tl : List Nat) (a : Int), swT P d x u ls r σ a tl → swT P' d x u ls r σ a tl
  | [], _, h => hP _ _ _ _ _ h
  | _ :: tl, a, h => ⟨fun q => hP _ _ _ _ _ (h.1 q), fun q => swT_m hP tl (a + 1) (h.2 q)⟩
theorem swL_m (hP : ∀ lb u ls st σ, P lb u ls st σ → P' lb u ls st σ) {d : Nat} {x : Int} {r : List dX} : ∀ (tl : List Nat), swL P d x u ls r σ tl → swL P' d x u ls r σ tl
  | [], h => hP _ _ _ _ _ h
  | [_], h => hP _ _ _ _ _ h
  | _ :: _ :: tl, h => ⟨fun q => hP _ _ _ _ _ (h.1 q), fun q => swL_m hP tl (h.2 q)⟩
theorem s_tsw_m (hP : ∀ lb u ls st σ, P lb u ls st σ → P' lb u ls st σ) {d : Nat} {a : Int} {tl : List Nat} (h : s_tsw P d a tl u ls st σ) : s_tsw P' d a tl u ls st σ := by
  unfold s_tsw at h ⊢
  split at h
  · exact swT_m hP _ _ h
  · exact h.elim
theorem s_lsw_m (hP : ∀ lb u ls st σ, P lb u ls st σ → P' lb u ls st σ) {d : Nat} {tl : List Nat} (h : s_lsw P d tl u ls st σ) : s_lsw P' d tl u ls st σ := by
  unfold s_lsw at h ⊢
  split at h
  · exact swL_m hP _ h
  · exact h.elim
theorem s_throw_m {e : Nat} (hQ : ∀ r σ, Q r σ → Q' r σ) (h : s_throw B Q e u ls st σ) : s_throw B Q' e u ls st σ := ⟨h.1, h.2.1, h.2.2.1, hQ _ _ h.2.2.2⟩
theorem s_tln_m {n : Nat} (hk : ∀ u ls st σ, k u ls st σ → k' u ls st σ) (h : s_tln B n k u ls st σ) : s_tln B n k' u ls st σ := ⟨h.1, h.2.1, h.2.2.1, hk _ _ _ _ h.2.2.2⟩
theorem s_tch_m {n i : Nat} (hk : ∀ u ls st σ, k u ls st σ → k' u ls st σ) (h : s_tch B n i k u ls st σ) : s_tch B n i k' u ls st σ := by
  unfold s_tch at h ⊢
  split at h
  · exact ⟨h.1, h.2.1, h.2.2.1, h.2.2.2.1, h.2.2.2.2.1, hk _ _ _ _ h.2.2.2.2.2⟩
  · exact h.elim
theorem s_tix_m {n i : Nat} (hk : ∀ u ls st σ, k u ls st σ → k' u ls st σ) (h : s_tix B n i k u ls st σ) : s_tix B n i k' u ls st σ := by
  unfold s_tix at h ⊢
  split at h
  · exact ⟨h.1, h.2.1, h.2.2.1, h.2.2.2.1, h.2.2.2.2.1, hk _ _ _ _ h.2.2.2.2.2⟩
  · exact h.elim
theorem stp_m {op : Nat} {a : Int} {b : Nat} {tl : List Nat} (hC : ∀ y as σ Q Q', (∀ r σ, Q r σ → Q' r σ) → C y as σ Q → C' y as σ Q') (hP : ∀ lb u ls st σ, P lb u ls st σ → P' lb u ls st σ) (hQ : ∀ r σ, Q r σ → Q' r σ) (hk : ∀ u ls st σ, k u ls st σ → k' u ls st σ) (h : stp fr B C P Q op a b tl k u ls st σ) : stp fr B C' P' Q' op a b tl k' u ls st σ := by
  unfold stp at h ⊢
  split at h
  · exact s_push_m hk h
  · exact s_push_m hk h
  · exact s_push_m hk h
  · exact s_push_m hk h
  · exact s_push_m hk h
  · exact s_iload_m hk h
  · exact s_iload_m hk h
  · exact s_aload_m hk h
  · exact s_aload_m hk h
  · exact s_lload_m hk h
  · exact s_lload_m hk h
  · exact s_istore_m hk h
  · exact s_istore_m hk h
  · exact s_astore_m hk h
  · exact s_astore_m hk h
  · exact s_lstore_m hk h
  · exact s_lstore_m hk h
  · exact s_iinc_m hk h
  · exact s_bin_m hk h
  · exact s_bin_m hk h
  · exact s_bin_m hk h
  · exact s_div_m hk h
  · exact s_div_m hk h
  · exact s_un_m hk h
  · exact s_bin_m hk h
  · exact s_bin_m hk h
  · exact s_bin_m hk h
  · exact s_bin_m hk h
  · exact s_bin_m hk h
  · exact s_bin_m hk h
  · exact s_i2l_m hk h
  · exact s_un_m hk h
  · exact s_lcmp_m hk h
  · exact s_push_m hk h
  · exact s_lbin_m hk h
  · exact s_lbin_m hk h
  · exact s_lshl_m hk h
  · exact s_lbin_m hk h
  · exact s_push_m hk h
  · exact s_dup_m hk h
  · exact s_pop_m hk h
  · exact s_dup2_m hk h
  · exact hP _ _ _ _ _ h
  · exact s_if_m (hP _) hk h
  · exact s_if_m (hP _) hk h
  · exact s_if_m (hP _) hk h
  · exact s_if_m (hP _) hk h
  · exact s_if_m (hP _) hk h
  · exact s_if_m (hP _) hk h
  · exact s_icmp_m (hP _) hk h
  · exact s_icmp_m (hP _) hk h
  · exact s_icmp_m (hP _) hk h
  · exact s_icmp_m (hP _) hk h
  · exact s_icmp_m (hP _) hk h
  · exact s_icmp_m (hP _) hk h
  · exact s_getf_m hk h
  · exact s_putf_m hk h
  · exact s_ald_m hk h
  · exact s_ast_m hk h
  · exact s_ald_m hk h
  · exact s_ast_m hk h
  · exact s_lald_m hk h
  · exact s_last_m hk h
  · exact s_alen_m hk h
  · exact s_call_m hC hQ hk h
  · exact s_call_m hC hQ hk h
  · exact s_call_m hC hQ hk h
  · exact s_objI_m hk h
  · exact s_new_m hk h
  · exact s_newa_m hk h
  · exact s_iret_m hQ h
  · exact s_lret_m hQ h
  · exact s_vret_m hQ h
  · exact s_tsw_m hP h
  · exact s_lsw_m hP h
  · exact s_throw_m hQ h
  · exact hP _ _ _ _ _ h
  · exact s_putf_m hk h
  · exact s_tln_m hk h
  · exact s_tch_m hk h
  · exact s_tix_m hk h
  · exact h.elim
theorem ex_m (hC : ∀ y as σ Q Q', (∀ r σ, Q r σ → Q' r σ) → C y as σ Q → C' y as σ Q') (hP : ∀ lb u ls st σ, P lb u ls st σ → P' lb u ls st σ) (hQ : ∀ r σ, Q r σ → Q' r σ) : ∀ (is : List dI) (u : Nat × Nat) (ls : dL) (st : List dX) (σ : dS), ex fr B C P Q is u ls st σ → ex fr B C' P' Q' is u ls st σ
  | [], _, _, _, _, h => h.elim
  | (op, a, b, tl) :: is, _, _, _, _, h => stp_m (op := op) (a := a) (b := b) (tl := tl) hC hP hQ (ex_m hC hP hQ is) h
end MONO
/-- the least one is closed .. -/
theorem lfp_in {F : (Nat → dK) → Nat → dK} (hF : ∀ P P' : Nat → dK, (∀ lb u ls st σ, P lb u ls st σ → P' lb u ls st σ) → ∀ lb u ls st σ, F P lb u ls st σ → F P' lb u ls st σ) {lb : Nat} {u : Nat × Nat} {ls : dL} {st : List dX} {σ : dS} (h : F (lfp F) lb u ls st σ) : lfp F lb u ls st σ :=
  fun P hP => hP _ _ _ _ _ (hF _ _ (fun lb u ls st σ q => q P hP) _ _ _ _ _ h)
/-- .. and no more than what it says -/
theorem lfp_out {F : (Nat → dK) → Nat → dK} (hF : ∀ P P' : Nat → dK, (∀ lb u ls st σ, P lb u ls st σ → P' lb u ls st σ) → ∀ lb u ls st σ, F P lb u ls st σ → F P' lb u ls st σ) {lb : Nat} {u : Nat × Nat} {ls : dL} {st : List dX} {σ : dS} (h : lfp F lb u ls st σ) : F (lfp F) lb u ls st σ :=
  h (F (lfp F)) (fun _ _ _ _ _ q => hF _ _ (fun _ _ _ _ _ z => lfp_in hF z) _ _ _ _ _ q)
theorem wpm_m (blk : Nat → Nat → List dI) (inf : Nat → Nat × Bool × (Nat × Nat)) : ∀ (d : Nat) (y : Nat) (as : List dX) (σ : dS) (Q Q' : dR → dS → Prop), (∀ r σ, Q r σ → Q' r σ) → wpm blk inf d y as σ Q → wpm blk inf d y as σ Q'
  | 0, _, _, _, _, _, _, h => h.elim
  | d + 1, y, as, σ, Q, Q', hQ, h => ⟨h.1, fun P hP => h.2 P (fun lb u ls st σ q => hP lb u ls st σ (ex_m (fun y as σ Q Q' => wpm_m blk inf d y as σ Q Q') (fun _ _ _ _ _ z => z) hQ _ _ _ _ _ q))⟩
/-- deeper is no less -/
theorem wpm_d (blk : Nat → Nat → List dI) (inf : Nat → Nat × Bool × (Nat × Nat)) : ∀ (d : Nat) (y : Nat) (as : List dX) (σ : dS) (Q : dR → dS → Prop), wpm blk inf d y as σ Q → wpm blk inf (d + 1) y as σ Q
  | 0, _, _, _, _, h => h.elim
  | d + 1, y, as, σ, Q, h => ⟨h.1, fun P hP => h.2 P (fun lb u ls st σ q => hP lb u ls st σ (ex_m (fun y as σ Q Q' hQ z => wpm_m blk inf (d + 1) y as σ Q Q' hQ (wpm_d blk inf d y as σ Q z)) (fun _ _ _ _ _ z => z) (fun _ _ z => z) _ _ _ _ _ q))⟩
