/-! PURE: Rows, loops -/
theorem spx_row_n {k n : Nat} (h : isRow k n) : n ≤ 100000 := spx_n h.2
def rfill (σ : dS) (k n : Nat) (v : Int) (i : Int) : dS := fun k' i' => if k' = k ∧ i ≤ i' ∧ i' < n then v else σ k' i'
theorem rfill_n {σ : dS} {k n : Nat} {v : Int} : rfill σ k n v n = σ := by
  funext k' i'
  unfold rfill
  rw [if_neg (by omega)]
theorem rfill_s {σ : dS} {k n : Nat} {v i : Int} (h : i < n) : rfill (up σ k i v) k n v (i + 1) = rfill σ k n v i := by
  funext k' i'
  unfold rfill
  by_cases a : k' = k ∧ i + 1 ≤ i' ∧ i' < n
  · rw [if_pos a, if_pos ⟨a.1, by omega, a.2.2⟩]
  · rw [if_neg a]
    by_cases b : k' = k ∧ i' = i
    · rw [b.1, b.2, up_same, if_pos ⟨rfl, by omega, by omega⟩]
    · rw [up_ne σ b, if_neg (fun c => a ⟨c.1, by
        by_cases e : i' = i
        · exact absurd ⟨c.1, e⟩ b
        · omega, c.2.2⟩)]
theorem fill_loop (d : Nat) {k n : Nat} (h : isRow k n) (v : Int) (Q : dR → dS → Prop) : ∀ (m : Nat) (i : Int) (σ : dS), 0 ≤ i → i + m = n → Q (.inl none) (rfill σ (k + 1) n v i) → TT d 7 Q 1 (0, 0) [some (.inr (.inr k)), some (.inl v), some (.inl i)] [] σ
  | 0, i, σ, h0, hm, hq => by
    have hn := spx_row_n h
    have e : i = n := by omega
    subst e
    rw [rfill_n] at hq
    obtain ⟨h1, h2⟩ := h
    rw [TT_eq]
    simp [TT_eq d 7 Q 2, iq_7, bq_7, bk_7, h1, h2, ex_cons, st_0, st_1, st_2, st_3, st_4, st_5, st_6, st_7, st_8, st_9, st_10, st_11, st_12, st_13, st_14, st_15, st_16, st_17, st_18, st_19, st_20, st_21, st_22, st_23, st_24, st_25, st_26, st_27, st_28, st_29, st_30, st_32, st_33, st_34, st_35, st_36, st_37, st_38, st_39, st_40, st_41, st_42, st_43, st_44, st_45, st_46, st_47, st_48, st_49, st_50, st_51, st_52, st_53, st_54, st_55, st_56, st_57, st_58, st_59, st_60, st_61, st_62, st_63, st_64, st_65, st_66, st_67, st_68, st_69, st_70, st_71, st_72, st_73, st_74, st_75, st_76, st_78, st_79, st_84, st_85, st_86, s_push, s_iload, s_lload, s_aload, s_istore, s_astore, s_lstore, s_iinc, s_bin, s_div, s_un, s_i2l, s_lbin, s_lshl, s_lcmp, s_dup, s_pop, s_dup2, s_if, s_icmp, isT, s_getf, s_putf, s_ald, s_ast, s_lald, s_last, s_alen, s_call, s_objI, s_new, s_newa, s_iret, s_lret, s_vret, s_tsw, swT, s_lsw, swL, s_throw, s_tln, s_tch, s_tix, n0, okS, isL, c1, wt, popN, hq]
  | m + 1, i, σ, h0, hm, hq => by
    have hn := spx_row_n h
    have hlt : i < n := by omega
    have hw : wr (i + 1) = i + 1 := wr_eq (by unfold iR; omega)
    have ih := fill_loop d h v Q m (i + 1) (up σ (k + 1) i v) (by omega) (by omega) (by rw [rfill_s hlt]; exact hq)
    obtain ⟨h1, h2⟩ := h
    rw [TT_eq]
    simp [iq_7, bq_7, bk_7, h1, h2, ex_cons, st_0, st_1, st_2, st_3, st_4, st_5, st_6, st_7, st_8, st_9, st_10, st_11, st_12, st_13, st_14, st_15, st_16, st_17, st_18, st_19, st_20, st_21, st_22, st_23, st_24, st_25, st_26, st_27, st_28, st_29, st_30, st_32, st_33, st_34, st_35, st_36, st_37, st_38, st_39, st_40, st_41, st_42, st_43, st_44, st_45, st_46, st_47, st_48, st_49, st_50, st_51, st_52, st_53, st_54, st_55, st_56, st_57, st_58, st_59, st_60, st_61, st_62, st_63, st_64, st_65, st_66, st_67, st_68, st_69, st_70, st_71, st_72, st_73, st_74, st_75, st_76, st_78, st_79, st_84, st_85, st_86, s_push, s_iload, s_lload, s_aload, s_istore, s_astore, s_lstore, s_iinc, s_bin, s_div, s_un, s_i2l, s_lbin, s_lshl, s_lcmp, s_dup, s_pop, s_dup2, s_if, s_icmp, isT, s_getf, s_putf, s_ald, s_ast, s_lald, s_last, s_alen, s_call, s_objI, s_new, s_newa, s_iret, s_lret, s_vret, s_tsw, swT, s_lsw, swL, s_throw, s_tln, s_tch, s_tix, n0, okS, isL, c1, wt, popN, hlt, h0, hw, ih, show ¬ (n : Int) ≤ i by omega]
theorem fill_eq (d : Nat) {k n : Nat} (h : isRow k n) (v : Int) (σ : dS) (Q : dR → dS → Prop) : wpm blk inf (d + 1) 7 [.inr (.inr k), .inl v] σ Q = Q (.inl none) (rfill σ (k + 1) n v 0) := by
  refine wpm_fn ?_ Q
  have hl := fill_loop d h v (fun r σ' => r = .inl none ∧ σ' = rfill σ (k + 1) n v 0) n 0 σ (by omega) (by omega) ⟨rfl, rfl⟩
  rw [wpm_eq, iq_7, TT_eq]
  simp [iq_7, bq_7, bk_7, ex_cons, st_0, st_1, st_2, st_3, st_4, st_5, st_6, st_7, st_8, st_9, st_10, st_11, st_12, st_13, st_14, st_15, st_16, st_17, st_18, st_19, st_20, st_21, st_22, st_23, st_24, st_25, st_26, st_27, st_28, st_29, st_30, st_32, st_33, st_34, st_35, st_36, st_37, st_38, st_39, st_40, st_41, st_42, st_43, st_44, st_45, st_46, st_47, st_48, st_49, st_50, st_51, st_52, st_53, st_54, st_55, st_56, st_57, st_58, st_59, st_60, st_61, st_62, st_63, st_64, st_65, st_66, st_67, st_68, st_69, st_70, st_71, st_72, st_73, st_74, st_75, st_76, st_78, st_79, st_84, st_85, st_86, s_push, s_iload, s_lload, s_aload, s_istore, s_astore, s_lstore, s_iinc, s_bin, s_div, s_un, s_i2l, s_lbin, s_lshl, s_lcmp, s_dup, s_pop, s_dup2, s_if, s_icmp, isT, s_getf, s_putf, s_ald, s_ast, s_lald, s_last, s_alen, s_call, s_objI, s_new, s_newa, s_iret, s_lret, s_vret, s_tsw, swT, s_lsw, swL, s_throw, s_tln, s_tch, s_tix, n0, okS, isL, c1, wt, popN, hl]
def rcopy (σ : dS) (k n k2 n2 : Nat) (i : Int) : dS := fun k' i' => if k' = k ∧ i ≤ i' ∧ i' < n ∧ i' < n2 then σ k2 i' else σ k' i'
theorem rcopy_e {σ : dS} {k n k2 n2 : Nat} {i : Int} (h : n ≤ i ∨ n2 ≤ i) : rcopy σ k n k2 n2 i = σ := by
  funext k' i'
  unfold rcopy
  rw [if_neg (by omega)]
theorem rcopy_s {σ : dS} {k n k2 n2 : Nat} {i : Int} (h : i < n) (h2 : i < n2) (hne : k ≠ k2) : rcopy (up σ k i (σ k2 i)) k n k2 n2 (i + 1) = rcopy σ k n k2 n2 i := by
  funext k' i'
  unfold rcopy
  by_cases a : k' = k ∧ i + 1 ≤ i' ∧ i' < n ∧ i' < n2
  · rw [if_pos a, if_pos ⟨a.1, by omega, a.2.2⟩, up_ne σ (fun q => hne q.1.symm)]
  · rw [if_neg a]
    by_cases b : k' = k ∧ i' = i
    · rw [b.1, b.2, up_same, if_pos ⟨rfl, by omega, by omega, by omega⟩]
    · rw [up_ne σ b, if_neg (fun c => a ⟨c.1, by
        by_cases e : i' = i
        · exact absurd ⟨c.1, e⟩ b
        · omega, c.2.2⟩)]
theorem copy_loop (d : Nat) {k n k2 n2 : Nat} (h : isRow k n) (hh : isRow k2 n2) (hne : k ≠ k2) (Q : dR → dS → Prop) : ∀ (m : Nat) (i : Int) (σ : dS), 0 ≤ i → (n : Int) ≤ i + m → Q (.inl none) (rcopy σ (k + 1) n (k2 + 1) n2 i) → TT d 8 Q 1 (0, 0) [some (.inr (.inr k)), some (.inr (.inr k2)), some (.inl i)] [] σ
  | m, i, σ, h0, hm, hq => by
    have hn := spx_row_n h
    by_cases e1 : (n : Int) ≤ i
    · rw [rcopy_e (Or.inl e1)] at hq
      obtain ⟨h1, h2⟩ := h
      rw [TT_eq]
      simp [TT_eq d 8 Q 2, iq_8, bq_8, bk_8, h1, h2, ex_cons, st_0, st_1, st_2, st_3, st_4, st_5, st_6, st_7, st_8, st_9, st_10, st_11, st_12, st_13, st_14, st_15, st_16, st_17, st_18, st_19, st_20, st_21, st_22, st_23, st_24, st_25, st_26, st_27, st_28, st_29, st_30, st_32, st_33, st_34, st_35, st_36, st_37, st_38, st_39, st_40, st_41, st_42, st_43, st_44, st_45, st_46, st_47, st_48, st_49, st_50, st_51, st_52, st_53, st_54, st_55, st_56, st_57, st_58, st_59, st_60, st_61, st_62, st_63, st_64, st_65, st_66, st_67, st_68, st_69, st_70, st_71, st_72, st_73, st_74, st_75, st_76, st_78, st_79, st_84, st_85, st_86, s_push, s_iload, s_lload, s_aload, s_istore, s_astore, s_lstore, s_iinc, s_bin, s_div, s_un, s_i2l, s_lbin, s_lshl, s_lcmp, s_dup, s_pop, s_dup2, s_if, s_icmp, isT, s_getf, s_putf, s_ald, s_ast, s_lald, s_last, s_alen, s_call, s_objI, s_new, s_newa, s_iret, s_lret, s_vret, s_tsw, swT, s_lsw, swL, s_throw, s_tln, s_tch, s_tix, n0, okS, isL, c1, wt, popN, hq, e1]
    · by_cases e2 : (n2 : Int) ≤ i
      · rw [rcopy_e (Or.inr e2)] at hq
        obtain ⟨h1, h2⟩ := h
        obtain ⟨h3, h4⟩ := hh
        rw [TT_eq]
        simp [TT_eq d 8 Q 2, iq_8, bq_8, bk_8, h1, h2, h3, h4, ex_cons, st_0, st_1, st_2, st_3, st_4, st_5, st_6, st_7, st_8, st_9, st_10, st_11, st_12, st_13, st_14, st_15, st_16, st_17, st_18, st_19, st_20, st_21, st_22, st_23, st_24, st_25, st_26, st_27, st_28, st_29, st_30, st_32, st_33, st_34, st_35, st_36, st_37, st_38, st_39, st_40, st_41, st_42, st_43, st_44, st_45, st_46, st_47, st_48, st_49, st_50, st_51, st_52, st_53, st_54, st_55, st_56, st_57, st_58, st_59, st_60, st_61, st_62, st_63, st_64, st_65, st_66, st_67, st_68, st_69, st_70, st_71, st_72, st_73, st_74, st_75, st_76, st_78, st_79, st_84, st_85, st_86, s_push, s_iload, s_lload, s_aload, s_istore, s_astore, s_lstore, s_iinc, s_bin, s_div, s_un, s_i2l, s_lbin, s_lshl, s_lcmp, s_dup, s_pop, s_dup2, s_if, s_icmp, isT, s_getf, s_putf, s_ald, s_ast, s_lald, s_last, s_alen, s_call, s_objI, s_new, s_newa, s_iret, s_lret, s_vret, s_tsw, swT, s_lsw, swL, s_throw, s_tln, s_tch, s_tix, n0, okS, isL, c1, wt, popN, hq, e1, e2]
      · cases m with
        | zero => omega
        | succ m =>
          have hw : wr (i + 1) = i + 1 := wr_eq (by unfold iR; omega)
          have ih := copy_loop d h hh hne Q m (i + 1) (up σ (k + 1) i (σ (k2 + 1) i)) (by omega) (by omega) (by rw [rcopy_s (by omega) (by omega) (by omega)]; exact hq)
          obtain ⟨h1, h2⟩ := h
          obtain ⟨h3, h4⟩ := hh
          rw [TT_eq]
          simp [iq_8, bq_8, bk_8, h1, h2, h3, h4, ex_cons, st_0, st_1, st_2, st_3, st_4, st_5, st_6, st_7, st_8, st_9, st_10, st_11, st_12, st_13, st_14, st_15, st_16, st_17, st_18, st_19, st_20, st_21, st_22, st_23, st_24, st_25, st_26, st_27, st_28, st_29, st_30, st_32, st_33, st_34, st_35, st_36, st_37, st_38, st_39, st_40, st_41, st_42, st_43, st_44, st_45, st_46, st_47, st_48, st_49, st_50, st_51, st_52, st_53, st_54, st_55, st_56, st_57, st_58, st_59, st_60, st_61, st_62, st_63, st_64, st_65, st_66, st_67, st_68, st_69, st_70, st_71, st_72, st_73, st_74, st_75, st_76, st_78, st_79, st_84, st_85, st_86, s_push, s_iload, s_lload, s_aload, s_istore, s_astore, s_lstore, s_iinc, s_bin, s_div, s_un, s_i2l, s_lbin, s_lshl, s_lcmp, s_dup, s_pop, s_dup2, s_if, s_icmp, isT, s_getf, s_putf, s_ald, s_ast, s_lald, s_last, s_alen, s_call, s_objI, s_new, s_newa, s_iret, s_lret, s_vret, s_tsw, swT, s_lsw, swL, s_throw, s_tln, s_tch, s_tix, n0, okS, isL, c1, wt, popN, h0, hw, ih, e1, e2, show i < n by omega, show i < n2 by omega]
theorem copy_eq (d : Nat) {k n k2 n2 : Nat} (h : isRow k n) (hh : isRow k2 n2) (hne : k ≠ k2) (σ : dS) (Q : dR → dS → Prop) : wpm blk inf (d + 1) 8 [.inr (.inr k), .inr (.inr k2)] σ Q = Q (.inl none) (rcopy σ (k + 1) n (k2 + 1) n2 0) := by
  refine wpm_fn ?_ Q
  have hl := copy_loop d h hh hne (fun r σ' => r = .inl none ∧ σ' = rcopy σ (k + 1) n (k2 + 1) n2 0) n 0 σ (by omega) (by omega) ⟨rfl, rfl⟩
  rw [wpm_eq, iq_8, TT_eq]
  simp [iq_8, bq_8, bk_8, ex_cons, st_0, st_1, st_2, st_3, st_4, st_5, st_6, st_7, st_8, st_9, st_10, st_11, st_12, st_13, st_14, st_15, st_16, st_17, st_18, st_19, st_20, st_21, st_22, st_23, st_24, st_25, st_26, st_27, st_28, st_29, st_30, st_32, st_33, st_34, st_35, st_36, st_37, st_38, st_39, st_40, st_41, st_42, st_43, st_44, st_45, st_46, st_47, st_48, st_49, st_50, st_51, st_52, st_53, st_54, st_55, st_56, st_57, st_58, st_59, st_60, st_61, st_62, st_63, st_64, st_65, st_66, st_67, st_68, st_69, st_70, st_71, st_72, st_73, st_74, st_75, st_76, st_78, st_79, st_84, st_85, st_86, s_push, s_iload, s_lload, s_aload, s_istore, s_astore, s_lstore, s_iinc, s_bin, s_div, s_un, s_i2l, s_lbin, s_lshl, s_lcmp, s_dup, s_pop, s_dup2, s_if, s_icmp, isT, s_getf, s_putf, s_ald, s_ast, s_lald, s_last, s_alen, s_call, s_objI, s_new, s_newa, s_iret, s_lret, s_vret, s_tsw, swT, s_lsw, swL, s_throw, s_tln, s_tch, s_tix, n0, okS, isL, c1, wt, popN, hl]
