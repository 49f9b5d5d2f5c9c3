/-! TWO WISHES AT ONCE; AND NO WISH IN VAIN: what is owed may be joined; what holds of every end holds -/
section CONJ
variable {fr : Bool} {B : Nat × Nat} {C1 C2 C : dC} {P1 P2 P : Nat → dK} {Q1 Q2 Q : dR → dS → Prop} {k1 k2 k : dK} {u : Nat × Nat} {ls : dL} {st : List dX} {σ : dS} {Z : Prop}
theorem s_push_a {v : dX} (hk : ∀ u ls st σ, k1 u ls st σ → k2 u ls st σ → k u ls st σ) (h1 : s_push v k1 u ls st σ) (h2 : s_push v k2 u ls st σ) : s_push v k u ls st σ := hk _ _ _ _ h1 h2
theorem s_push_z {v : dX} (hk : ∀ u ls st σ, k u ls st σ → Z) (h1 : s_push v k u ls st σ) : Z := hk _ _ _ _ h1
theorem s_iload_a {i : Nat} (hk : ∀ u ls st σ, k1 u ls st σ → k2 u ls st σ → k u ls st σ) (h1 : s_iload i k1 u ls st σ) (h2 : s_iload i k2 u ls st σ) : s_iload i k u ls st σ := by
  unfold s_iload at h1 h2 ⊢
  split at h1
  · rename_i hs
    simp only [hs] at h2
    exact hk _ _ _ _ h1 h2
  · exact h1.elim
theorem s_iload_z {i : Nat} (hk : ∀ u ls st σ, k u ls st σ → Z) (h1 : s_iload i k u ls st σ) : Z := by
  unfold s_iload at h1
  split at h1
  · exact hk _ _ _ _ h1
  · exact h1.elim
theorem s_lload_a {i : Nat} (hk : ∀ u ls st σ, k1 u ls st σ → k2 u ls st σ → k u ls st σ) (h1 : s_lload i k1 u ls st σ) (h2 : s_lload i k2 u ls st σ) : s_lload i k u ls st σ := by
  unfold s_lload at h1 h2 ⊢
  split at h1
  · rename_i hs
    simp only [hs] at h2
    exact hk _ _ _ _ h1 h2
  · exact h1.elim
theorem s_lload_z {i : Nat} (hk : ∀ u ls st σ, k u ls st σ → Z) (h1 : s_lload i k u ls st σ) : Z := by
  unfold s_lload at h1
  split at h1
  · exact hk _ _ _ _ h1
  · exact h1.elim
theorem s_aload_a {i : Nat} (hk : ∀ u ls st σ, k1 u ls st σ → k2 u ls st σ → k u ls st σ) (h1 : s_aload i k1 u ls st σ) (h2 : s_aload i k2 u ls st σ) : s_aload i k u ls st σ := by
  unfold s_aload at h1 h2 ⊢
  split at h1
  · rename_i hs
    simp only [hs] at h2
    exact hk _ _ _ _ h1 h2
  · exact h1.elim
theorem s_aload_z {i : Nat} (hk : ∀ u ls st σ, k u ls st σ → Z) (h1 : s_aload i k u ls st σ) : Z := by
  unfold s_aload at h1
  split at h1
  · exact hk _ _ _ _ h1
  · exact h1.elim
theorem s_istore_a {i : Nat} (hk : ∀ u ls st σ, k1 u ls st σ → k2 u ls st σ → k u ls st σ) (h1 : s_istore i k1 u ls st σ) (h2 : s_istore i k2 u ls st σ) : s_istore i k u ls st σ := by
  unfold s_istore at h1 h2 ⊢
  split at h1
  · exact ⟨h1.1, hk _ _ _ _ h1.2 h2.2⟩
  · exact h1.elim
theorem s_istore_z {i : Nat} (hk : ∀ u ls st σ, k u ls st σ → Z) (h1 : s_istore i k u ls st σ) : Z := by
  unfold s_istore at h1
  split at h1
  · exact hk _ _ _ _ h1.2
  · exact h1.elim
theorem s_astore_a {i : Nat} (hk : ∀ u ls st σ, k1 u ls st σ → k2 u ls st σ → k u ls st σ) (h1 : s_astore i k1 u ls st σ) (h2 : s_astore i k2 u ls st σ) : s_astore i k u ls st σ := by
  unfold s_astore at h1 h2 ⊢
  split at h1
  · exact ⟨h1.1, hk _ _ _ _ h1.2 h2.2⟩
  · exact h1.elim
theorem s_astore_z {i : Nat} (hk : ∀ u ls st σ, k u ls st σ → Z) (h1 : s_astore i k u ls st σ) : Z := by
  unfold s_astore at h1
  split at h1
  · exact hk _ _ _ _ h1.2
  · exact h1.elim
theorem s_lstore_a {i : Nat} (hk : ∀ u ls st σ, k1 u ls st σ → k2 u ls st σ → k u ls st σ) (h1 : s_lstore i k1 u ls st σ) (h2 : s_lstore i k2 u ls st σ) : s_lstore i k u ls st σ := by
  unfold s_lstore at h1 h2 ⊢
  split at h1
  · exact ⟨h1.1, h1.2.1, hk _ _ _ _ h1.2.2 h2.2.2⟩
  · exact h1.elim
theorem s_lstore_z {i : Nat} (hk : ∀ u ls st σ, k u ls st σ → Z) (h1 : s_lstore i k u ls st σ) : Z := by
  unfold s_lstore at h1
  split at h1
  · exact hk _ _ _ _ h1.2.2
  · exact h1.elim
theorem s_iinc_a {i : Nat} {a : Int} (hk : ∀ u ls st σ, k1 u ls st σ → k2 u ls st σ → k u ls st σ) (h1 : s_iinc i a k1 u ls st σ) (h2 : s_iinc i a k2 u ls st σ) : s_iinc i a k u ls st σ := by
  unfold s_iinc at h1 h2 ⊢
  split at h1
  · rename_i hs
    simp only [hs] at h2
    exact ⟨h1.1, hk _ _ _ _ h1.2 h2.2⟩
  · exact h1.elim
theorem s_iinc_z {i : Nat} {a : Int} (hk : ∀ u ls st σ, k u ls st σ → Z) (h1 : s_iinc i a k u ls st σ) : Z := by
  unfold s_iinc at h1
  split at h1
  · exact hk _ _ _ _ h1.2
  · exact h1.elim
theorem s_bin_a {f : Int → Int → Int} (hk : ∀ u ls st σ, k1 u ls st σ → k2 u ls st σ → k u ls st σ) (h1 : s_bin f k1 u ls st σ) (h2 : s_bin f k2 u ls st σ) : s_bin f k u ls st σ := by
  unfold s_bin at h1 h2 ⊢
  split at h1
  · exact hk _ _ _ _ h1 h2
  · exact h1.elim
theorem s_bin_z {f : Int → Int → Int} (hk : ∀ u ls st σ, k u ls st σ → Z) (h1 : s_bin f k u ls st σ) : Z := by
  unfold s_bin at h1
  split at h1
  · exact hk _ _ _ _ h1
  · exact h1.elim
theorem s_div_a {f : Int → Int → Int} (hk : ∀ u ls st σ, k1 u ls st σ → k2 u ls st σ → k u ls st σ) (h1 : s_div f k1 u ls st σ) (h2 : s_div f k2 u ls st σ) : s_div f k u ls st σ := by
  unfold s_div at h1 h2 ⊢
  split at h1
  · exact ⟨h1.1, hk _ _ _ _ h1.2 h2.2⟩
  · exact h1.elim
theorem s_div_z {f : Int → Int → Int} (hk : ∀ u ls st σ, k u ls st σ → Z) (h1 : s_div f k u ls st σ) : Z := by
  unfold s_div at h1
  split at h1
  · exact hk _ _ _ _ h1.2
  · exact h1.elim
theorem s_un_a {f : Int → Int} (hk : ∀ u ls st σ, k1 u ls st σ → k2 u ls st σ → k u ls st σ) (h1 : s_un f k1 u ls st σ) (h2 : s_un f k2 u ls st σ) : s_un f k u ls st σ := by
  unfold s_un at h1 h2 ⊢
  split at h1
  · exact hk _ _ _ _ h1 h2
  · exact h1.elim
theorem s_un_z {f : Int → Int} (hk : ∀ u ls st σ, k u ls st σ → Z) (h1 : s_un f k u ls st σ) : Z := by
  unfold s_un at h1
  split at h1
  · exact hk _ _ _ _ h1
  · exact h1.elim
theorem s_i2l_a  (hk : ∀ u ls st σ, k1 u ls st σ → k2 u ls st σ → k u ls st σ) (h1 : s_i2l  k1 u ls st σ) (h2 : s_i2l  k2 u ls st σ) : s_i2l  k u ls st σ := by
  unfold s_i2l at h1 h2 ⊢
  split at h1
  · exact hk _ _ _ _ h1 h2
  · exact h1.elim
theorem s_i2l_z  (hk : ∀ u ls st σ, k u ls st σ → Z) (h1 : s_i2l  k u ls st σ) : Z := by
  unfold s_i2l at h1
  split at h1
  · exact hk _ _ _ _ h1
  · exact h1.elim
theorem s_lbin_a {f : Int → Int → Int} (hk : ∀ u ls st σ, k1 u ls st σ → k2 u ls st σ → k u ls st σ) (h1 : s_lbin f k1 u ls st σ) (h2 : s_lbin f k2 u ls st σ) : s_lbin f k u ls st σ := by
  unfold s_lbin at h1 h2 ⊢
  split at h1
  · exact hk _ _ _ _ h1 h2
  · exact h1.elim
theorem s_lbin_z {f : Int → Int → Int} (hk : ∀ u ls st σ, k u ls st σ → Z) (h1 : s_lbin f k u ls st σ) : Z := by
  unfold s_lbin at h1
  split at h1
  · exact hk _ _ _ _ h1
  · exact h1.elim
theorem s_lshl_a  (hk : ∀ u ls st σ, k1 u ls st σ → k2 u ls st σ → k u ls st σ) (h1 : s_lshl  k1 u ls st σ) (h2 : s_lshl  k2 u ls st σ) : s_lshl  k u ls st σ := by
  unfold s_lshl at h1 h2 ⊢
  split at h1
  · exact hk _ _ _ _ h1 h2
  · exact h1.elim
theorem s_lshl_z  (hk : ∀ u ls st σ, k u ls st σ → Z) (h1 : s_lshl  k u ls st σ) : Z := by
  unfold s_lshl at h1
  split at h1
  · exact hk _ _ _ _ h1
  · exact h1.elim
theorem s_lcmp_a  (hk : ∀ u ls st σ, k1 u ls st σ → k2 u ls st σ → k u ls st σ) (h1 : s_lcmp  k1 u ls st σ) (h2 : s_lcmp  k2 u ls st σ) : s_lcmp  k u ls st σ := by
  unfold s_lcmp at h1 h2 ⊢
  split at h1
  · exact hk _ _ _ _ h1 h2
  · exact h1.elim
theorem s_lcmp_z  (hk : ∀ u ls st σ, k u ls st σ → Z) (h1 : s_lcmp  k u ls st σ) : Z := by
  unfold s_lcmp at h1
  split at h1
  · exact hk _ _ _ _ h1
  · exact h1.elim
theorem s_dup_a  (hk : ∀ u ls st σ, k1 u ls st σ → k2 u ls st σ → k u ls st σ) (h1 : s_dup  k1 u ls st σ) (h2 : s_dup  k2 u ls st σ) : s_dup  k u ls st σ := by
  unfold s_dup at h1 h2 ⊢
  split at h1
  · exact ⟨h1.1, hk _ _ _ _ h1.2 h2.2⟩
  · exact h1.elim
theorem s_dup_z  (hk : ∀ u ls st σ, k u ls st σ → Z) (h1 : s_dup  k u ls st σ) : Z := by
  unfold s_dup at h1
  split at h1
  · exact hk _ _ _ _ h1.2
  · exact h1.elim
theorem s_pop_a  (hk : ∀ u ls st σ, k1 u ls st σ → k2 u ls st σ → k u ls st σ) (h1 : s_pop  k1 u ls st σ) (h2 : s_pop  k2 u ls st σ) : s_pop  k u ls st σ := by
  unfold s_pop at h1 h2 ⊢
  split at h1
  · exact ⟨h1.1, hk _ _ _ _ h1.2 h2.2⟩
  · exact h1.elim
theorem s_pop_z  (hk : ∀ u ls st σ, k u ls st σ → Z) (h1 : s_pop  k u ls st σ) : Z := by
  unfold s_pop at h1
  split at h1
  · exact hk _ _ _ _ h1.2
  · exact h1.elim
theorem s_dup2_a  (hk : ∀ u ls st σ, k1 u ls st σ → k2 u ls st σ → k u ls st σ) (h1 : s_dup2  k1 u ls st σ) (h2 : s_dup2  k2 u ls st σ) : s_dup2  k u ls st σ := by
  unfold s_dup2 at h1 h2 ⊢
  split at h1
  · exact ⟨h1.1, h1.2.1, hk _ _ _ _ h1.2.2 h2.2.2⟩
  · exact h1.elim
theorem s_dup2_z  (hk : ∀ u ls st σ, k u ls st σ → Z) (h1 : s_dup2  k u ls st σ) : Z := by
  unfold s_dup2 at h1
  split at h1
  · exact hk _ _ _ _ h1.2.2
  · exact h1.elim
theorem s_objI_a  (hk : ∀ u ls st σ, k1 u ls st σ → k2 u ls st σ → k u ls st σ) (h1 : s_objI  k1 u ls st σ) (h2 : s_objI  k2 u ls st σ) : s_objI  k u ls st σ := by
  unfold s_objI at h1 h2 ⊢
  split at h1
  · exact ⟨h1.1, hk _ _ _ _ h1.2 h2.2⟩
  · exact h1.elim
theorem s_objI_z  (hk : ∀ u ls st σ, k u ls st σ → Z) (h1 : s_objI  k u ls st σ) : Z := by
  unfold s_objI at h1
  split at h1
  · exact hk _ _ _ _ h1.2
  · exact h1.elim
theorem s_if_a {c : Int → Prop} {j1 j2 j : dK} (hj : ∀ u ls st σ, j1 u ls st σ → j2 u ls st σ → j u ls st σ) (hk : ∀ u ls st σ, k1 u ls st σ → k2 u ls st σ → k u ls st σ) (h1 : s_if c j1 k1 u ls st σ) (h2 : s_if c j2 k2 u ls st σ) : s_if c j k u ls st σ := by
  unfold s_if at h1 h2 ⊢
  split at h1
  · exact ⟨fun q => hj _ _ _ _ (h1.1 q) (h2.1 q), fun q => hk _ _ _ _ (h1.2 q) (h2.2 q)⟩
  · exact h1.elim
theorem s_if_z {c : Int → Prop} {j : dK} (hj : ∀ u ls st σ, j u ls st σ → Z) (hk : ∀ u ls st σ, k u ls st σ → Z) (h1 : s_if c j k u ls st σ) : Z := by
  unfold s_if at h1
  split at h1
  · rename_i x r
    by_cases q : c x
    · exact hj _ _ _ _ (h1.1 q)
    · exact hk _ _ _ _ (h1.2 q)
  · exact h1.elim
theorem s_icmp_a {c : Int → Int → Prop} {j1 j2 j : dK} (hj : ∀ u ls st σ, j1 u ls st σ → j2 u ls st σ → j u ls st σ) (hk : ∀ u ls st σ, k1 u ls st σ → k2 u ls st σ → k u ls st σ) (h1 : s_icmp c j1 k1 u ls st σ) (h2 : s_icmp c j2 k2 u ls st σ) : s_icmp c j k u ls st σ := by
  unfold s_icmp at h1 h2 ⊢
  split at h1
  · exact ⟨fun q => hj _ _ _ _ (h1.1 q) (h2.1 q), fun q => hk _ _ _ _ (h1.2 q) (h2.2 q)⟩
  · exact h1.elim
theorem s_icmp_z {c : Int → Int → Prop} {j : dK} (hj : ∀ u ls st σ, j u ls st σ → Z) (hk : ∀ u ls st σ, k u ls st σ → Z) (h1 : s_icmp c j k u ls st σ) : Z := by
  unfold s_icmp at h1
  split at h1
  · rename_i y x r
    by_cases q : c x y
    · exact hj _ _ _ _ (h1.1 q)
    · exact hk _ _ _ _ (h1.2 q)
  · exact h1.elim
theorem s_ald_a {kind : Nat} (hk : ∀ u ls st σ, k1 u ls st σ → k2 u ls st σ → k u ls st σ) (h1 : s_ald fr kind k1 u ls st σ) (h2 : s_ald fr kind k2 u ls st σ) : s_ald fr kind k u ls st σ := by
  unfold s_ald at h1 h2 ⊢
  split at h1
  · split at h1
    · rename_i hs
      simp only [hs] at h2
      exact ⟨h1.1, h1.2.1, h1.2.2.1, h1.2.2.2.1, hk _ _ _ _ h1.2.2.2.2 h2.2.2.2.2⟩
    · exact h1.elim
  · exact h1.elim
theorem s_ald_z {kind : Nat} (hk : ∀ u ls st σ, k u ls st σ → Z) (h1 : s_ald fr kind k u ls st σ) : Z := by
  unfold s_ald at h1
  split at h1
  · split at h1
    · exact hk _ _ _ _ h1.2.2.2.2
    · exact h1.elim
  · exact h1.elim
theorem s_ast_a {kind : Nat} (hk : ∀ u ls st σ, k1 u ls st σ → k2 u ls st σ → k u ls st σ) (h1 : s_ast fr kind k1 u ls st σ) (h2 : s_ast fr kind k2 u ls st σ) : s_ast fr kind k u ls st σ := by
  unfold s_ast at h1 h2 ⊢
  split at h1
  · split at h1
    · rename_i hs
      simp only [hs] at h2
      exact ⟨h1.1, h1.2.1, h1.2.2.1, h1.2.2.2.1, h1.2.2.2.2.1, hk _ _ _ _ h1.2.2.2.2.2 h2.2.2.2.2.2⟩
    · exact h1.elim
  · exact h1.elim
theorem s_ast_z {kind : Nat} (hk : ∀ u ls st σ, k u ls st σ → Z) (h1 : s_ast fr kind k u ls st σ) : Z := by
  unfold s_ast at h1
  split at h1
  · split at h1
    · exact hk _ _ _ _ h1.2.2.2.2.2
    · exact h1.elim
  · exact h1.elim
theorem s_lald_a  (hk : ∀ u ls st σ, k1 u ls st σ → k2 u ls st σ → k u ls st σ) (h1 : s_lald  k1 u ls st σ) (h2 : s_lald  k2 u ls st σ) : s_lald  k u ls st σ := by
  unfold s_lald at h1 h2 ⊢
  split at h1
  · split at h1
    · rename_i hs
      simp only [hs] at h2
      exact ⟨h1.1, h1.2.1, h1.2.2.1, hk _ _ _ _ h1.2.2.2 h2.2.2.2⟩
    · exact h1.elim
  · exact h1.elim
theorem s_lald_z  (hk : ∀ u ls st σ, k u ls st σ → Z) (h1 : s_lald  k u ls st σ) : Z := by
  unfold s_lald at h1
  split at h1
  · split at h1
    · exact hk _ _ _ _ h1.2.2.2
    · exact h1.elim
  · exact h1.elim
theorem s_last_a  (hk : ∀ u ls st σ, k1 u ls st σ → k2 u ls st σ → k u ls st σ) (h1 : s_last  k1 u ls st σ) (h2 : s_last  k2 u ls st σ) : s_last  k u ls st σ := by
  unfold s_last at h1 h2 ⊢
  split at h1
  · split at h1
    · rename_i hs
      simp only [hs] at h2
      exact ⟨h1.1, h1.2.1, h1.2.2.1, h1.2.2.2.1, hk _ _ _ _ h1.2.2.2.2 h2.2.2.2.2⟩
    · exact h1.elim
  · exact h1.elim
theorem s_last_z  (hk : ∀ u ls st σ, k u ls st σ → Z) (h1 : s_last  k u ls st σ) : Z := by
  unfold s_last at h1
  split at h1
  · split at h1
    · exact hk _ _ _ _ h1.2.2.2.2
    · exact h1.elim
  · exact h1.elim
theorem s_alen_a  (hk : ∀ u ls st σ, k1 u ls st σ → k2 u ls st σ → k u ls st σ) (h1 : s_alen fr k1 u ls st σ) (h2 : s_alen fr k2 u ls st σ) : s_alen fr k u ls st σ := by
  unfold s_alen at h1 h2 ⊢
  split at h1
  · split at h1
    · rename_i hs
      simp only [hs] at h2
      exact ⟨h1.1, hk _ _ _ _ h1.2 h2.2⟩
    · exact h1.elim
  · exact h1.elim
theorem s_alen_z  (hk : ∀ u ls st σ, k u ls st σ → Z) (h1 : s_alen fr k u ls st σ) : Z := by
  unfold s_alen at h1
  split at h1
  · split at h1
    · exact hk _ _ _ _ h1.2
    · exact h1.elim
  · exact h1.elim
theorem s_newa_a {kind : Nat} (hk : ∀ u ls st σ, k1 u ls st σ → k2 u ls st σ → k u ls st σ) (h1 : s_newa fr B kind k1 u ls st σ) (h2 : s_newa fr B kind k2 u ls st σ) : s_newa fr B kind k u ls st σ := by
  unfold s_newa at h1 h2 ⊢
  split at h1
  · split at h1
    · rename_i hs
      simp only [hs] at h2
      exact ⟨h1.1, h1.2.1, h1.2.2.1, h1.2.2.2.1, h1.2.2.2.2.1, h1.2.2.2.2.2.1, hk _ _ _ _ h1.2.2.2.2.2.2 h2.2.2.2.2.2.2⟩
    · exact h1.elim
  · exact h1.elim
theorem s_newa_z {kind : Nat} (hk : ∀ u ls st σ, k u ls st σ → Z) (h1 : s_newa fr B kind k u ls st σ) : Z := by
  unfold s_newa at h1
  split at h1
  · split at h1
    · exact hk _ _ _ _ h1.2.2.2.2.2.2
    · exact h1.elim
  · exact h1.elim
theorem s_new_a {ci N : Nat} (hk : ∀ u ls st σ, k1 u ls st σ → k2 u ls st σ → k u ls st σ) (h1 : s_new fr B ci N k1 u ls st σ) (h2 : s_new fr B ci N k2 u ls st σ) : s_new fr B ci N k u ls st σ := by
  unfold s_new at h1 h2 ⊢
  split at h1
  · rename_i hs
    simp only [hs] at h2
    exact ⟨h1.1, h1.2.1, h1.2.2.1, h1.2.2.2.1, hk _ _ _ _ h1.2.2.2.2 h2.2.2.2.2⟩
  · exact h1.elim
theorem s_new_z {ci N : Nat} (hk : ∀ u ls st σ, k u ls st σ → Z) (h1 : s_new fr B ci N k u ls st σ) : Z := by
  unfold s_new at h1
  split at h1
  · exact hk _ _ _ _ h1.2.2.2.2
  · exact h1.elim
theorem s_getf_a {ci j : Nat} (hk : ∀ u ls st σ, k1 u ls st σ → k2 u ls st σ → k u ls st σ) (h1 : s_getf fr ci j k1 u ls st σ) (h2 : s_getf fr ci j k2 u ls st σ) : s_getf fr ci j k u ls st σ := by
  unfold s_getf at h1 h2 ⊢
  split at h1
  · split at h1
    · rename_i hs
      simp only [hs] at h2
      obtain ⟨a1, a2, h1⟩ := h1
      obtain ⟨-, -, h2⟩ := h2
      refine ⟨a1, a2, ?_⟩
      split at h1
      · rename_i hs2
        simp only [hs2] at h2
        exact hk _ _ _ _ h1 h2
      · rename_i hs2
        simp only [hs2] at h2
        exact hk _ _ _ _ h1 h2
      · rename_i hs2
        simp only [hs2] at h2
        exact ⟨h1.1, hk _ _ _ _ h1.2 h2.2⟩
      · exact h1.elim
    · exact h1.elim
  · exact h1.elim
theorem s_getf_z {ci j : Nat} (hk : ∀ u ls st σ, k u ls st σ → Z) (h1 : s_getf fr ci j k u ls st σ) : Z := by
  unfold s_getf at h1
  split at h1
  · split at h1
    · obtain ⟨a1, a2, h1⟩ := h1
      split at h1
      · exact hk _ _ _ _ h1
      · exact hk _ _ _ _ h1
      · exact hk _ _ _ _ h1.2
      · exact h1.elim
    · exact h1.elim
  · exact h1.elim
theorem s_putf_a {ci j z : Nat} (hk : ∀ u ls st σ, k1 u ls st σ → k2 u ls st σ → k u ls st σ) (h1 : s_putf fr ci j z k1 u ls st σ) (h2 : s_putf fr ci j z k2 u ls st σ) : s_putf fr ci j z k u ls st σ := by
  unfold s_putf at h1 h2 ⊢
  split at h1
  · split at h1
    · rename_i hs
      simp only [hs] at h2
      obtain ⟨a1, a2, h1⟩ := h1
      obtain ⟨-, -, h2⟩ := h2
      refine ⟨a1, a2, ?_⟩
      split at h1
      · rename_i hs2
        simp only [hs2] at h2
        exact ⟨h1.1, hk _ _ _ _ h1.2 h2.2⟩
      · rename_i hs2
        simp only [hs2] at h2
        exact ⟨h1.1, h1.2.1, hk _ _ _ _ h1.2.2 h2.2.2⟩
      · rename_i hs2
        simp only [hs2] at h2
        exact ⟨h1.1, h1.2.1, h1.2.2.1, hk _ _ _ _ h1.2.2.2 h2.2.2.2⟩
      · exact h1.elim
    · exact h1.elim
  · exact h1.elim
theorem s_putf_z {ci j z : Nat} (hk : ∀ u ls st σ, k u ls st σ → Z) (h1 : s_putf fr ci j z k u ls st σ) : Z := by
  unfold s_putf at h1
  split at h1
  · split at h1
    · obtain ⟨a1, a2, h1⟩ := h1
      split at h1
      · exact hk _ _ _ _ h1.2
      · exact hk _ _ _ _ h1.2.2
      · exact hk _ _ _ _ h1.2.2.2
      · exact h1.elim
    · exact h1.elim
  · exact h1.elim
theorem s_call_a {y n ci mc ms : Nat} (hC : ∀ y as σ Qa Qb Qc, (∀ r σ, Qa r σ → Qb r σ → Qc r σ) → C1 y as σ Qa → C2 y as σ Qb → C y as σ Qc) (hQ : ∀ r σ, Q1 r σ → Q2 r σ → Q r σ) (hk : ∀ u ls st σ, k1 u ls st σ → k2 u ls st σ → k u ls st σ) (h1 : s_call fr C1 B Q1 y n ci mc ms k1 u ls st σ) (h2 : s_call fr C2 B Q2 y n ci mc ms k2 u ls st σ) : s_call fr C B Q y n ci mc ms k u ls st σ := by
  unfold s_call at h1 h2 ⊢
  split at h1
  · rename_i hs
    simp only [hs] at h2
    obtain ⟨a1, a2, a3, a4, h1⟩ := h1
    obtain ⟨-, -, -, -, h2⟩ := h2
    refine ⟨a1, a2, a3, a4, hC _ _ _ _ _ _ (fun r σ' g1 g2 => ?_) h1 h2⟩
    rcases r with (_ | v) | e
    · exact hk _ _ _ _ g1 g2
    · exact hk _ _ _ _ g1 g2
    · exact hQ _ _ g1 g2
  · exact h1.elim
theorem s_call_z {y n ci mc ms : Nat} (hC : ∀ y as σ Qa, (∀ r σ, Qa r σ → Z) → C y as σ Qa → Z) (hQ : ∀ r σ, Q r σ → Z) (hk : ∀ u ls st σ, k u ls st σ → Z) (h1 : s_call fr C B Q y n ci mc ms k u ls st σ) : Z := by
  unfold s_call at h1
  split at h1
  · obtain ⟨a1, a2, a3, a4, h1⟩ := h1
    refine hC _ _ _ _ (fun r σ' g1 => ?_) h1
    rcases r with (_ | v) | e
    · exact hk _ _ _ _ g1
    · exact hk _ _ _ _ g1
    · exact hQ _ _ g1
  · exact h1.elim
theorem s_iret_a {z : Nat} (hQ : ∀ r σ, Q1 r σ → Q2 r σ → Q r σ) (h1 : s_iret B Q1 z u ls st σ) (h2 : s_iret B Q2 z u ls st σ) : s_iret B Q z u ls st σ := by
  unfold s_iret at h1 h2 ⊢
  split at h1
  · exact ⟨h1.1, h1.2.1, h1.2.2.1, hQ _ _ h1.2.2.2 h2.2.2.2⟩
  · exact h1.elim
theorem s_iret_z {z : Nat} (hQ : ∀ r σ, Q r σ → Z) (h1 : s_iret B Q z u ls st σ) : Z := by
  unfold s_iret at h1
  split at h1
  · exact hQ _ _ h1.2.2.2
  · exact h1.elim
theorem s_lret_a (hQ : ∀ r σ, Q1 r σ → Q2 r σ → Q r σ) (h1 : s_lret B Q1  u ls st σ) (h2 : s_lret B Q2  u ls st σ) : s_lret B Q  u ls st σ := by
  unfold s_lret at h1 h2 ⊢
  split at h1
  · exact ⟨h1.1, h1.2.1, hQ _ _ h1.2.2 h2.2.2⟩
  · exact h1.elim
theorem s_lret_z (hQ : ∀ r σ, Q r σ → Z) (h1 : s_lret B Q  u ls st σ) : Z := by
  unfold s_lret at h1
  split at h1
  · exact hQ _ _ h1.2.2
  · exact h1.elim
theorem s_vret_a (hQ : ∀ r σ, Q1 r σ → Q2 r σ → Q r σ) (h1 : s_vret B Q1  u ls st σ) (h2 : s_vret B Q2  u ls st σ) : s_vret B Q  u ls st σ := by
  unfold s_vret at h1 h2 ⊢
  split at h1
  · exact ⟨h1.1, h1.2.1, hQ _ _ h1.2.2 h2.2.2⟩
  · exact h1.elim
theorem s_vret_z (hQ : ∀ r σ, Q r σ → Z) (h1 : s_vret B Q  u ls st σ) : Z := by
  unfold s_vret at h1
  split at h1
  · exact hQ _ _ h1.2.2
  · exact h1.elim
theorem swT_a (hP : ∀ lb u ls st σ, P1 lb u ls st σ → P2 lb u ls st σ → P lb u ls st σ) {d : Nat} {x : Int} {r : List dX} : ∀ (tl : List Nat) (a : Int), swT P1 d x u ls r σ a tl → swT P2 d x u ls r σ a tl → swT P d x u ls r σ a tl
  | [], _, h1, h2 => hP _ _ _ _ _ h1 h2
  | _ :: tl, a, h1, h2 => ⟨fun q => hP _ _ _ _ _ (h1.1 q) (h2.1 q), fun q => swT_a hP tl (a + 1) (h1.2 q) (h2.2 q)⟩
theorem swT_z (hP : ∀ lb u ls st σ, P lb u ls st σ → Z) {d : Nat} {x : Int} {r : List dX} : ∀ (tl : List Nat) (a : Int), swT P d x u ls r σ a tl → Z
  | [], _, h1 => hP _ _ _ _ _ h1
  | _ :: tl, a, h1 => (Classical.em (x = a)).elim (fun q => hP _ _ _ _ _ (h1.1 q)) (fun q => swT_z hP tl (a + 1) (h1.2 q))
theorem swL_a (hP : ∀ lb u ls st σ, P1 lb u ls st σ → P2 lb u ls st σ → P lb u ls st σ) {d : Nat} {x : Int} {r : List dX} : ∀ (tl : List Nat), swL P1 d x u ls r σ tl → swL P2 d x u ls r σ tl → swL P d x u ls r σ tl
  | [], h1, h2 => hP _ _ _ _ _ h1 h2
  | [_], h1, h2 => hP _ _ _ _ _ h1 h2
  | _ :: _ :: tl, h1, h2 => ⟨fun q => hP _ _ _ _ _ (h1.1 q) (h2.1 q), fun q => swL_a hP tl (h1.2 q) (h2.2 q)⟩
theorem swL_z (hP : ∀ lb u ls st σ, P lb u ls st σ → Z) {d : Nat} {x : Int} {r : List dX} : ∀ (tl : List Nat), swL P d x u ls r σ tl → Z
  | [], h1 => hP _ _ _ _ _ h1
  | [_], h1 => hP _ _ _ _ _ h1
  | a :: _ :: tl, h1 => (Classical.em (x = (a : Int))).elim (fun q => hP _ _ _ _ _ (h1.1 q)) (fun q => swL_z hP tl (h1.2 q))
theorem s_tsw_a (hP : ∀ lb u ls st σ, P1 lb u ls st σ → P2 lb u ls st σ → P lb u ls st σ) {d : Nat} {a : Int} {tl : List Nat} (h1 : s_tsw P1 d a tl u ls st σ) (h2 : s_tsw P2 d a tl u ls st σ) : s_tsw P d a tl u ls st σ := by
  unfold s_tsw at h1 h2 ⊢
  split at h1
  · exact swT_a hP _ _ h1 h2
  · exact h1.elim
theorem s_tsw_z (hP : ∀ lb u ls st σ, P lb u ls st σ → Z) {d : Nat} {a : Int} {tl : List Nat} (h1 : s_tsw P d a tl u ls st σ) : Z := by
  unfold s_tsw at h1
  split at h1
  · exact swT_z hP _ _ h1
  · exact h1.elim
theorem s_lsw_a (hP : ∀ lb u ls st σ, P1 lb u ls st σ → P2 lb u ls st σ → P lb u ls st σ) {d : Nat} {tl : List Nat} (h1 : s_lsw P1 d tl u ls st σ) (h2 : s_lsw P2 d tl u ls st σ) : s_lsw P d tl u ls st σ := by
  unfold s_lsw at h1 h2 ⊢
  split at h1
  · exact swL_a hP _ h1 h2
  · exact h1.elim
theorem s_lsw_z (hP : ∀ lb u ls st σ, P lb u ls st σ → Z) {d : Nat} {tl : List Nat} (h1 : s_lsw P d tl u ls st σ) : Z := by
  unfold s_lsw at h1
  split at h1
  · exact swL_z hP _ h1
  · exact h1.elim
theorem s_throw_a {e : Nat} (hQ : ∀ r σ, Q1 r σ → Q2 r σ → Q r σ) (h1 : s_throw B Q1 e u ls st σ) (h2 : s_throw B Q2 e u ls st σ) : s_throw B Q e u ls st σ := ⟨h1.1, h1.2.1, h1.2.2.1, hQ _ _ h1.2.2.2 h2.2.2.2⟩
theorem s_throw_z {e : Nat} (hQ : ∀ r σ, Q r σ → Z) (h1 : s_throw B Q e u ls st σ) : Z := hQ _ _ h1.2.2.2
theorem s_tln_a {n : Nat} (hk : ∀ u ls st σ, k1 u ls st σ → k2 u ls st σ → k u ls st σ) (h1 : s_tln B n k1 u ls st σ) (h2 : s_tln B n k2 u ls st σ) : s_tln B n k u ls st σ := ⟨h1.1, h1.2.1, h1.2.2.1, hk _ _ _ _ h1.2.2.2 h2.2.2.2⟩
theorem s_tln_z {n : Nat} (hk : ∀ u ls st σ, k u ls st σ → Z) (h1 : s_tln B n k u ls st σ) : Z := hk _ _ _ _ h1.2.2.2
theorem s_tch_a {n i : Nat} (hk : ∀ u ls st σ, k1 u ls st σ → k2 u ls st σ → k u ls st σ) (h1 : s_tch B n i k1 u ls st σ) (h2 : s_tch B n i k2 u ls st σ) : s_tch B n i k u ls st σ := by
  unfold s_tch at h1 h2 ⊢
  split at h1
  · rename_i hs
    simp only [hs] at h2
    exact ⟨h1.1, h1.2.1, h1.2.2.1, h1.2.2.2.1, h1.2.2.2.2.1, hk _ _ _ _ h1.2.2.2.2.2 h2.2.2.2.2.2⟩
  · exact h1.elim
theorem s_tch_z {n i : Nat} (hk : ∀ u ls st σ, k u ls st σ → Z) (h1 : s_tch B n i k u ls st σ) : Z := by
  unfold s_tch at h1
  split at h1
  · exact hk _ _ _ _ h1.2.2.2.2.2
  · exact h1.elim
theorem s_tix_a {n i : Nat} (hk : ∀ u ls st σ, k1 u ls st σ → k2 u ls st σ → k u ls st σ) (h1 : s_tix B n i k1 u ls st σ) (h2 : s_tix B n i k2 u ls st σ) : s_tix B n i k u ls st σ := by
  unfold s_tix at h1 h2 ⊢
  split at h1
  · rename_i hs
    simp only [hs] at h2
    exact ⟨h1.1, h1.2.1, h1.2.2.1, h1.2.2.2.1, h1.2.2.2.2.1, hk _ _ _ _ h1.2.2.2.2.2 h2.2.2.2.2.2⟩
  · exact h1.elim
theorem s_tix_z {n i : Nat} (hk : ∀ u ls st σ, k u ls st σ → Z) (h1 : s_tix B n i k u ls st σ) : Z := by
  unfold s_tix at h1
  split at h1
  · exact hk _ _ _ _ h1.2.2.2.2.2
  · exact h1.elim
theorem stp_a {op : Nat} {a : Int} {b : Nat} {tl : List Nat} (hC : ∀ y as σ Qa Qb Qc, (∀ r σ, Qa r σ → Qb r σ → Qc r σ) → C1 y as σ Qa → C2 y as σ Qb → C y as σ Qc) (hP : ∀ lb u ls st σ, P1 lb u ls st σ → P2 lb u ls st σ → P lb u ls st σ) (hQ : ∀ r σ, Q1 r σ → Q2 r σ → Q r σ) (hk : ∀ u ls st σ, k1 u ls st σ → k2 u ls st σ → k u ls st σ) (h1 : stp fr B C1 P1 Q1 op a b tl k1 u ls st σ) (h2 : stp fr B C2 P2 Q2 op a b tl k2 u ls st σ) : stp fr B C P Q op a b tl k u ls st σ := by
  unfold stp at h1 h2 ⊢
  split at h1
  · exact s_push_a hk h1 h2
  · exact s_push_a hk h1 h2
  · exact s_push_a hk h1 h2
  · exact s_push_a hk h1 h2
  · exact s_push_a hk h1 h2
  · exact s_iload_a hk h1 h2
  · exact s_iload_a hk h1 h2
  · exact s_aload_a hk h1 h2
  · exact s_aload_a hk h1 h2
  · exact s_lload_a hk h1 h2
  · exact s_lload_a hk h1 h2
  · exact s_istore_a hk h1 h2
  · exact s_istore_a hk h1 h2
  · exact s_astore_a hk h1 h2
  · exact s_astore_a hk h1 h2
  · exact s_lstore_a hk h1 h2
  · exact s_lstore_a hk h1 h2
  · exact s_iinc_a hk h1 h2
  · exact s_bin_a hk h1 h2
  · exact s_bin_a hk h1 h2
  · exact s_bin_a hk h1 h2
  · exact s_div_a hk h1 h2
  · exact s_div_a hk h1 h2
  · exact s_un_a hk h1 h2
  · exact s_bin_a hk h1 h2
  · exact s_bin_a hk h1 h2
  · exact s_bin_a hk h1 h2
  · exact s_bin_a hk h1 h2
  · exact s_bin_a hk h1 h2
  · exact s_bin_a hk h1 h2
  · exact s_i2l_a hk h1 h2
  · exact s_un_a hk h1 h2
  · exact s_lcmp_a hk h1 h2
  · exact s_push_a hk h1 h2
  · exact s_lbin_a hk h1 h2
  · exact s_lbin_a hk h1 h2
  · exact s_lshl_a hk h1 h2
  · exact s_lbin_a hk h1 h2
  · exact s_push_a hk h1 h2
  · exact s_dup_a hk h1 h2
  · exact s_pop_a hk h1 h2
  · exact s_dup2_a hk h1 h2
  · exact hP _ _ _ _ _ h1 h2
  · exact s_if_a (hP _) hk h1 h2
  · exact s_if_a (hP _) hk h1 h2
  · exact s_if_a (hP _) hk h1 h2
  · exact s_if_a (hP _) hk h1 h2
  · exact s_if_a (hP _) hk h1 h2
  · exact s_if_a (hP _) hk h1 h2
  · exact s_icmp_a (hP _) hk h1 h2
  · exact s_icmp_a (hP _) hk h1 h2
  · exact s_icmp_a (hP _) hk h1 h2
  · exact s_icmp_a (hP _) hk h1 h2
  · exact s_icmp_a (hP _) hk h1 h2
  · exact s_icmp_a (hP _) hk h1 h2
  · exact s_getf_a hk h1 h2
  · exact s_putf_a hk h1 h2
  · exact s_ald_a hk h1 h2
  · exact s_ast_a hk h1 h2
  · exact s_ald_a hk h1 h2
  · exact s_ast_a hk h1 h2
  · exact s_lald_a hk h1 h2
  · exact s_last_a hk h1 h2
  · exact s_alen_a hk h1 h2
  · exact s_call_a hC hQ hk h1 h2
  · exact s_call_a hC hQ hk h1 h2
  · exact s_call_a hC hQ hk h1 h2
  · exact s_objI_a hk h1 h2
  · exact s_new_a hk h1 h2
  · exact s_newa_a hk h1 h2
  · exact s_iret_a hQ h1 h2
  · exact s_lret_a hQ h1 h2
  · exact s_vret_a hQ h1 h2
  · exact s_tsw_a hP h1 h2
  · exact s_lsw_a hP h1 h2
  · exact s_throw_a hQ h1 h2
  · exact hP _ _ _ _ _ h1 h2
  · exact s_putf_a hk h1 h2
  · exact s_tln_a hk h1 h2
  · exact s_tch_a hk h1 h2
  · exact s_tix_a hk h1 h2
  · exact h1.elim
theorem stp_z {op : Nat} {a : Int} {b : Nat} {tl : List Nat} (hC : ∀ y as σ Qa, (∀ r σ, Qa r σ → Z) → C y as σ Qa → Z) (hP : ∀ lb u ls st σ, P lb u ls st σ → Z) (hQ : ∀ r σ, Q r σ → Z) (hk : ∀ u ls st σ, k u ls st σ → Z) (h1 : stp fr B C P Q op a b tl k u ls st σ) : Z := by
  unfold stp at h1
  split at h1
  · exact s_push_z hk h1
  · exact s_push_z hk h1
  · exact s_push_z hk h1
  · exact s_push_z hk h1
  · exact s_push_z hk h1
  · exact s_iload_z hk h1
  · exact s_iload_z hk h1
  · exact s_aload_z hk h1
  · exact s_aload_z hk h1
  · exact s_lload_z hk h1
  · exact s_lload_z hk h1
  · exact s_istore_z hk h1
  · exact s_istore_z hk h1
  · exact s_astore_z hk h1
  · exact s_astore_z hk h1
  · exact s_lstore_z hk h1
  · exact s_lstore_z hk h1
  · exact s_iinc_z hk h1
  · exact s_bin_z hk h1
  · exact s_bin_z hk h1
  · exact s_bin_z hk h1
  · exact s_div_z hk h1
  · exact s_div_z hk h1
  · exact s_un_z hk h1
  · exact s_bin_z hk h1
  · exact s_bin_z hk h1
  · exact s_bin_z hk h1
  · exact s_bin_z hk h1
  · exact s_bin_z hk h1
  · exact s_bin_z hk h1
  · exact s_i2l_z hk h1
  · exact s_un_z hk h1
  · exact s_lcmp_z hk h1
  · exact s_push_z hk h1
  · exact s_lbin_z hk h1
  · exact s_lbin_z hk h1
  · exact s_lshl_z hk h1
  · exact s_lbin_z hk h1
  · exact s_push_z hk h1
  · exact s_dup_z hk h1
  · exact s_pop_z hk h1
  · exact s_dup2_z hk h1
  · exact hP _ _ _ _ _ h1
  · exact s_if_z (hP _) hk h1
  · exact s_if_z (hP _) hk h1
  · exact s_if_z (hP _) hk h1
  · exact s_if_z (hP _) hk h1
  · exact s_if_z (hP _) hk h1
  · exact s_if_z (hP _) hk h1
  · exact s_icmp_z (hP _) hk h1
  · exact s_icmp_z (hP _) hk h1
  · exact s_icmp_z (hP _) hk h1
  · exact s_icmp_z (hP _) hk h1
  · exact s_icmp_z (hP _) hk h1
  · exact s_icmp_z (hP _) hk h1
  · exact s_getf_z hk h1
  · exact s_putf_z hk h1
  · exact s_ald_z hk h1
  · exact s_ast_z hk h1
  · exact s_ald_z hk h1
  · exact s_ast_z hk h1
  · exact s_lald_z hk h1
  · exact s_last_z hk h1
  · exact s_alen_z hk h1
  · exact s_call_z hC hQ hk h1
  · exact s_call_z hC hQ hk h1
  · exact s_call_z hC hQ hk h1
  · exact s_objI_z hk h1
  · exact s_new_z hk h1
  · exact s_newa_z hk h1
  · exact s_iret_z hQ h1
  · exact s_lret_z hQ h1
  · exact s_vret_z hQ h1
  · exact s_tsw_z hP h1
  · exact s_lsw_z hP h1
  · exact s_throw_z hQ h1
  · exact hP _ _ _ _ _ h1
  · exact s_putf_z hk h1
  · exact s_tln_z hk h1
  · exact s_tch_z hk h1
  · exact s_tix_z hk h1
  · exact h1.elim
theorem ex_a (hC : ∀ y as σ Qa Qb Qc, (∀ r σ, Qa r σ → Qb r σ → Qc r σ) → C1 y as σ Qa → C2 y as σ Qb → C y as σ Qc) (hP : ∀ lb u ls st σ, P1 lb u ls st σ → P2 lb u ls st σ → P lb u ls st σ) (hQ : ∀ r σ, Q1 r σ → Q2 r σ → Q r σ) : ∀ (is : List dI) (u : Nat × Nat) (ls : dL) (st : List dX) (σ : dS), ex fr B C1 P1 Q1 is u ls st σ → ex fr B C2 P2 Q2 is u ls st σ → ex fr B C P Q is u ls st σ
  | [], _, _, _, _, h, _ => h.elim
  | (op, a, b, tl) :: is, _, _, _, _, h1, h2 => stp_a (op := op) (a := a) (b := b) (tl := tl) hC hP hQ (ex_a hC hP hQ is) h1 h2
theorem ex_z (hC : ∀ y as σ Qa, (∀ r σ, Qa r σ → Z) → C y as σ Qa → Z) (hP : ∀ lb u ls st σ, P lb u ls st σ → Z) (hQ : ∀ r σ, Q r σ → Z) : ∀ (is : List dI) (u : Nat × Nat) (ls : dL) (st : List dX) (σ : dS), ex fr B C P Q is u ls st σ → Z
  | [], _, _, _, _, h => h.elim
  | (op, a, b, tl) :: is, _, _, _, _, h1 => stp_z (op := op) (a := a) (b := b) (tl := tl) hC hP hQ (ex_z hC hP hQ is) h1
end CONJ
theorem wpm_a (blk : Nat → Nat → List dI) (inf : Nat → Nat × Bool × (Nat × Nat)) : ∀ (d : Nat) (y : Nat) (as : List dX) (σ : dS) (Q1 Q2 Q : dR → dS → Prop), (∀ r σ, Q1 r σ → Q2 r σ → Q r σ) → wpm blk inf d y as σ Q1 → wpm blk inf d y as σ Q2 → wpm blk inf d y as σ Q
  | 0, _, _, _, _, _, _, _, h, _ => h.elim
  | d + 1, y, as, σ, Q1, Q2, Q, hQ, h1, h2 => by
    have m1 : ∀ (Q : dR → dS → Prop), ∀ P P' : Nat → dK, (∀ lb u ls st σ, P lb u ls st σ → P' lb u ls st σ) → ∀ lb u ls st σ, bdy blk (inf y).2.1 (inf y).2.2 (wpm blk inf d) Q y P lb u ls st σ → bdy blk (inf y).2.1 (inf y).2.2 (wpm blk inf d) Q y P' lb u ls st σ :=
      fun Q _ _ hP _ _ _ _ _ h => ex_m (wpm_m blk inf d) hP (fun _ _ z => z) _ _ _ _ _ h
    refine ⟨h1.1, h1.2 (fun lb u ls st σ => lfp (bdy blk (inf y).2.1 (inf y).2.2 (wpm blk inf d) Q2 y) lb u ls st σ → lfp (bdy blk (inf y).2.1 (inf y).2.2 (wpm blk inf d) Q y) lb u ls st σ) (fun lb u ls st σ g1 g2 => ?_) h2.2⟩
    refine lfp_in (m1 Q) ?_
    exact ex_a (wpm_a blk inf d) (fun _ _ _ _ _ z1 z2 => z1 z2) hQ _ _ _ _ _ g1 (lfp_out (m1 Q2) g2)
theorem wpm_z (blk : Nat → Nat → List dI) (inf : Nat → Nat × Bool × (Nat × Nat)) {Z : Prop} : ∀ (d : Nat) (y : Nat) (as : List dX) (σ : dS) (Q : dR → dS → Prop), (∀ r σ, Q r σ → Z) → wpm blk inf d y as σ Q → Z
  | 0, _, _, _, _, _, h => h.elim
  | d + 1, y, as, σ, Q, hQ, h => h.2 (fun _ _ _ _ _ => Z) (fun _ _ _ _ _ g => ex_z (wpm_z blk inf d) (fun _ _ _ _ _ z => z) hQ _ _ _ _ _ g)
/-- A METHOD IS A FUNCTION: if it comes to R and S, then what is owed is what Q says of them -/
theorem wpm_fn {blk : Nat → Nat → List dI} {inf : Nat → Nat × Bool × (Nat × Nat)} {d y : Nat} {as : List dX} {σ : dS} {R : dR} {S : dS} (h : wpm blk inf d y as σ (fun r σ' => r = R ∧ σ' = S)) (Q : dR → dS → Prop) : wpm blk inf d y as σ Q = Q R S := by
  apply propext
  constructor
  · intro h1
    exact wpm_z blk inf d y as σ _ (fun r σ' (z : Q R S) => z) (wpm_a blk inf d y as σ _ _ _ (fun r σ' z1 z2 => by rw [z2.1, z2.2] at z1; exact z1) h1 h)
  · intro h1
    exact wpm_m blk inf d y as σ _ _ (fun r σ' z => by rw [z.1, z.2]; exact h1) h
