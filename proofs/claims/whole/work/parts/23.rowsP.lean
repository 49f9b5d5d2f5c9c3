/-! PURE: Rows -/
def rat (σ : dS) (k n : Nat) (i : Int) : Int := if 0 ≤ i ∧ i < n then σ k i else 0
def rput (σ : dS) (k n : Nat) (i v : Int) : dS := if 0 ≤ i ∧ i < n then up σ k i v else σ
/-- cell k is a Row of n places (they lie in cell k + 1) -/
def isRow (k n : Nat) : Prop := spx k = some (.inr (6, [k + 3])) ∧ spx (k + 1) = some (.inl (n, 0))
theorem at_eq (d : Nat) {k n : Nat} (h : isRow k n) (i : Int) (σ : dS) (Q : dR → dS → Prop) : wpm blk inf (d + 1) 5 [.inr (.inr k), .inl i] σ Q = Q (.inl (some (.inl (rat σ (k + 1) n i)))) σ := by
  obtain ⟨h1, h2⟩ := h
  rw [wpm_eq, iq_5]
  apply propext
  simp [TT_eq, iq_5, bq_5, bk_5, h1, h2, ex_cons, st_0, st_1, st_2, st_3, st_4, st_5, st_6, st_7, st_8, st_9, st_10, st_11, st_12, st_13, st_14, st_15, st_16, st_17, st_18, st_19, st_20, st_21, st_22, st_23, st_24, st_25, st_26, st_27, st_28, st_29, st_30, st_32, st_33, st_34, st_35, st_36, st_37, st_38, st_39, st_40, st_41, st_42, st_43, st_44, st_45, st_46, st_47, st_48, st_49, st_50, st_51, st_52, st_53, st_54, st_55, st_56, st_57, st_58, st_59, st_60, st_61, st_62, st_63, st_64, st_65, st_66, st_67, st_68, st_69, st_70, st_71, st_72, st_73, st_74, st_75, st_76, st_78, st_79, st_84, st_85, st_86, s_push, s_iload, s_lload, s_aload, s_istore, s_astore, s_lstore, s_iinc, s_bin, s_div, s_un, s_i2l, s_lbin, s_lshl, s_lcmp, s_dup, s_pop, s_dup2, s_if, s_icmp, isT, s_getf, s_putf, s_ald, s_ast, s_lald, s_last, s_alen, s_call, s_objI, s_new, s_newa, s_iret, s_lret, s_vret, s_tsw, swT, s_lsw, swL, s_throw, s_tln, s_tch, s_tix, n0, okS, isL, c1, wt, popN]
  unfold rat
  by_cases a : i < 0
  · rw [if_neg (by omega)]
    simp [a, show ¬ 0 ≤ i by omega]
  · by_cases b : (n : Int) ≤ i
    · rw [if_neg (by omega)]
      simp [a, b, show 0 ≤ i by omega, show ¬ i < n by omega]
    · rw [if_pos (by omega)]
      simp [a, b, show 0 ≤ i by omega, show i < n by omega]
theorem put_eq (d : Nat) {k n : Nat} (h : isRow k n) (i v : Int) (σ : dS) (Q : dR → dS → Prop) : wpm blk inf (d + 1) 6 [.inr (.inr k), .inl i, .inl v] σ Q = Q (.inl none) (rput σ (k + 1) n i v) := by
  obtain ⟨h1, h2⟩ := h
  rw [wpm_eq, iq_6]
  apply propext
  simp [TT_eq, iq_6, bq_6, bk_6, h1, h2, ex_cons, st_0, st_1, st_2, st_3, st_4, st_5, st_6, st_7, st_8, st_9, st_10, st_11, st_12, st_13, st_14, st_15, st_16, st_17, st_18, st_19, st_20, st_21, st_22, st_23, st_24, st_25, st_26, st_27, st_28, st_29, st_30, st_32, st_33, st_34, st_35, st_36, st_37, st_38, st_39, st_40, st_41, st_42, st_43, st_44, st_45, st_46, st_47, st_48, st_49, st_50, st_51, st_52, st_53, st_54, st_55, st_56, st_57, st_58, st_59, st_60, st_61, st_62, st_63, st_64, st_65, st_66, st_67, st_68, st_69, st_70, st_71, st_72, st_73, st_74, st_75, st_76, st_78, st_79, st_84, st_85, st_86, s_push, s_iload, s_lload, s_aload, s_istore, s_astore, s_lstore, s_iinc, s_bin, s_div, s_un, s_i2l, s_lbin, s_lshl, s_lcmp, s_dup, s_pop, s_dup2, s_if, s_icmp, isT, s_getf, s_putf, s_ald, s_ast, s_lald, s_last, s_alen, s_call, s_objI, s_new, s_newa, s_iret, s_lret, s_vret, s_tsw, swT, s_lsw, swL, s_throw, s_tln, s_tch, s_tix, n0, okS, isL, c1, wt, popN]
  unfold rput
  by_cases a : i < 0
  · rw [if_neg (by omega)]
    simp [a, show ¬ 0 ≤ i by omega]
  · by_cases b : (n : Int) ≤ i
    · rw [if_neg (by omega)]
      simp [a, b, show 0 ≤ i by omega, show ¬ i < n by omega]
    · rw [if_pos (by omega)]
      simp [a, b, show 0 ≤ i by omega, show i < n by omega]
