/-! OTHER NIGHTS: the class's trial sky, the reference's changed now -/
theorem copies_loop (d : Nat) {a b n n2 : Nat} (ha : spx a = some (.inl (n, 0))) (hb : spx b = some (.inl (n2, 0))) (hn2 : n ≤ n2) (hne : b ≠ a) (Q : dR → dS → Prop) : ∀ (m : Nat) (i : Int) (σ : dS), 0 ≤ i → (n : Int) ≤ i + m → Q (.inl none) (rcopy σ b n a n i) → TT d 161 Q 1 (0, 0) [some (.inr (.inr 153)), some (.inr (.inr a)), some (.inr (.inr b)), some (.inl i)] [] σ
  | m, i, σ, h0, hm, hq => by
    have hn := spx_n ha
    by_cases e1 : (n : Int) ≤ i
    · rw [rcopy_e (Or.inl e1)] at hq
      rw [TT_eq]
      simp [TT_eq d 161 Q 2, iq_161, bq_161, bk_161, ha, hb, ex_cons, st_0, st_1, st_2, st_3, st_4, st_5, st_6, st_7, st_8, st_9, st_10, st_11, st_12, st_13, st_14, st_15, st_16, st_17, st_18, st_19, st_20, st_21, st_22, st_23, st_24, st_25, st_26, st_27, st_28, st_29, st_30, st_32, st_33, st_34, st_35, st_36, st_37, st_38, st_39, st_40, st_41, st_42, st_43, st_44, st_45, st_46, st_47, st_48, st_49, st_50, st_51, st_52, st_53, st_54, st_55, st_56, st_57, st_58, st_59, st_60, st_61, st_62, st_63, st_64, st_65, st_66, st_67, st_68, st_69, st_70, st_71, st_72, st_73, st_74, st_75, st_76, st_78, st_79, st_84, st_85, st_86, s_push, s_iload, s_lload, s_aload, s_istore, s_astore, s_lstore, s_iinc, s_bin, s_div, s_un, s_i2l, s_lbin, s_lshl, s_lcmp, s_dup, s_pop, s_dup2, s_if, s_icmp, isT, s_getf, s_putf, s_ald, s_ast, s_lald, s_last, s_alen, s_call, s_objI, s_new, s_newa, s_iret, s_lret, s_vret, s_tsw, swT, s_lsw, swL, s_throw, s_tln, s_tch, s_tix, n0, okS, isL, c1, wt, popN, hq, e1]
    · cases m with
      | zero => omega
      | succ m =>
        have hw : wr (i + 1) = i + 1 := wr_eq (by unfold iR; omega)
        have ih := copies_loop d ha hb hn2 hne Q m (i + 1) (up σ b i (σ a i)) (by omega) (by omega) (by rw [rcopy_s (by omega) (by omega) hne]; exact hq)
        rw [TT_eq]
        simp [iq_161, bq_161, bk_161, ha, hb, ex_cons, st_0, st_1, st_2, st_3, st_4, st_5, st_6, st_7, st_8, st_9, st_10, st_11, st_12, st_13, st_14, st_15, st_16, st_17, st_18, st_19, st_20, st_21, st_22, st_23, st_24, st_25, st_26, st_27, st_28, st_29, st_30, st_32, st_33, st_34, st_35, st_36, st_37, st_38, st_39, st_40, st_41, st_42, st_43, st_44, st_45, st_46, st_47, st_48, st_49, st_50, st_51, st_52, st_53, st_54, st_55, st_56, st_57, st_58, st_59, st_60, st_61, st_62, st_63, st_64, st_65, st_66, st_67, st_68, st_69, st_70, st_71, st_72, st_73, st_74, st_75, st_76, st_78, st_79, st_84, st_85, st_86, s_push, s_iload, s_lload, s_aload, s_istore, s_astore, s_lstore, s_iinc, s_bin, s_div, s_un, s_i2l, s_lbin, s_lshl, s_lcmp, s_dup, s_pop, s_dup2, s_if, s_icmp, isT, s_getf, s_putf, s_ald, s_ast, s_lald, s_last, s_alen, s_call, s_objI, s_new, s_newa, s_iret, s_lret, s_vret, s_tsw, swT, s_lsw, swL, s_throw, s_tln, s_tch, s_tix, n0, okS, isL, c1, wt, popN, h0, hw, ih, e1, show i < n by omega, show i < n2 by omega]
theorem copies_eq (d : Nat) {a b n n2 : Nat} (ha : spx a = some (.inl (n, 0))) (hb : spx b = some (.inl (n2, 0))) (hn2 : n ≤ n2) (hne : b ≠ a) (σ : dS) (Q : dR → dS → Prop) : wpm blk inf (d + 1) 161 [.inr (.inr 153), .inr (.inr a), .inr (.inr b)] σ Q = Q (.inl none) (rcopy σ b n a n 0) := by
  refine wpm_fn ?_ Q
  have hl := copies_loop d ha hb hn2 hne (fun r σ' => r = .inl none ∧ σ' = rcopy σ b n a n 0) n 0 σ (by omega) (by omega) ⟨rfl, rfl⟩
  rw [wpm_eq, iq_161, TT_eq]
  simp [iq_161, bq_161, bk_161, ha, hb, ex_cons, st_0, st_1, st_2, st_3, st_4, st_5, st_6, st_7, st_8, st_9, st_10, st_11, st_12, st_13, st_14, st_15, st_16, st_17, st_18, st_19, st_20, st_21, st_22, st_23, st_24, st_25, st_26, st_27, st_28, st_29, st_30, st_32, st_33, st_34, st_35, st_36, st_37, st_38, st_39, st_40, st_41, st_42, st_43, st_44, st_45, st_46, st_47, st_48, st_49, st_50, st_51, st_52, st_53, st_54, st_55, st_56, st_57, st_58, st_59, st_60, st_61, st_62, st_63, st_64, st_65, st_66, st_67, st_68, st_69, st_70, st_71, st_72, st_73, st_74, st_75, st_76, st_78, st_79, st_84, st_85, st_86, s_push, s_iload, s_lload, s_aload, s_istore, s_astore, s_lstore, s_iinc, s_bin, s_div, s_un, s_i2l, s_lbin, s_lshl, s_lcmp, s_dup, s_pop, s_dup2, s_if, s_icmp, isT, s_getf, s_putf, s_ald, s_ast, s_lald, s_last, s_alen, s_call, s_objI, s_new, s_newa, s_iret, s_lret, s_vret, s_tsw, swT, s_lsw, swL, s_throw, s_tln, s_tch, s_tix, n0, okS, isL, c1, wt, popN, hl]
theorem w161 {d a b n n2 : Nat} {Q : dR → dS → Prop} {K : dS → Prop} {σ : dS} (ha : spx a = some (.inl (n, 0))) (hb : spx b = some (.inl (n2, 0))) (hn2 : n ≤ n2) (hne : b ≠ a) (h : K (rcopy σ b n a n 0)) : wV (d + 1) 161 [.inr (.inr 153), .inr (.inr a), .inr (.inr b)] σ Q K := by
  unfold wV
  rw [copies_eq d ha hb hn2 hne]
  exact h
theorem rcopy_in {σ : dS} {k n k2 n2 : Nat} {j : Int} (h0 : 0 ≤ j) (h1 : j < (n : Int)) (h2 : j < (n2 : Int)) : rcopy σ k n k2 n2 0 k j = σ k2 j := by
  unfold rcopy
  rw [if_pos ⟨rfl, h0, h1, h2⟩]
theorem rcopy_k {σ : dS} {k n k2 n2 k' : Nat} (h : k' ≠ k) : rcopy σ k n k2 n2 0 k' = σ k' := by
  funext j
  unfold rcopy
  rw [if_neg (fun q => h q.1)]
theorem rcopy_o {σ : dS} {k n k2 n2 : Nat} {j : Int} (h : ¬ (0 ≤ j ∧ j < (n : Int) ∧ j < (n2 : Int))) : rcopy σ k n k2 n2 0 k j = σ k j := by
  unfold rcopy
  rw [if_neg (fun q => h q.2)]
theorem up_up {V : dS} {k : Nat} {i a b : Int} : up (up V k i a) k i b = up V k i b := by
  funext k' i'
  by_cases h : k' = k ∧ i' = i
  · rw [h.1, h.2, up_same, up_same]
  · rw [up_ne _ h, up_ne _ h, up_ne _ h]
theorem up_self {V : dS} {k : Nat} {i : Int} : up V k i (V k i) = V := by
  funext k' i'
  by_cases h : k' = k ∧ i' = i
  · rw [h.1, h.2, up_same]
  · rw [up_ne _ h]
theorem up_cm {V : dS} {k : Nat} {i i2 a b : Int} (h : i ≠ i2) : up (up V k i a) k i2 b = up (up V k i2 b) k i a := by
  funext k' j
  by_cases e1 : k' = k ∧ j = i
  · rw [e1.1, e1.2, up_same, up_ne _ (fun q => h q.2), up_same]
  · rw [up_ne (up V k i2 b) e1]
    by_cases e2 : k' = k ∧ j = i2
    · rw [e2.1, e2.2, up_same, up_same]
    · rw [up_ne _ e2, up_ne _ e2, up_ne _ e1]
theorem cty_x {k : Nat} (h : cty k) : k ≠ 109 ∧ k ≠ 111 ∧ k ≠ 113 ∧ k ≠ 153 ∧ k ≠ 174 ∧ ¬ scr k ∧ ¬ ncl k ∧ ¬ rcl k := by
  rcases h with e | e | e | e | e | e | e | e | e | e | e | e | e | e <;> rw [e] <;> decide
/-- a view -/
def VWK (V : dS) : Prop := cityOK V ∧ skyOK V 109 ∧ nrm V 109 = V
def SK (S V : dS) : Prop := (∀ k, cty k → S k = V k) ∧ (∀ j, 0 ≤ j → j < 4 → S 109 j = V 109 j) ∧ (∀ r, 0 ≤ r → r < V 5 0 → S 111 r = V 111 r) ∧ (∀ o, 0 ≤ o → o < V 5 2 → S 113 o = V 113 o)
section TRI
variable {d : Nat} {Q : dR → dS → Prop} {σ V S : dS}
theorem nrm_109 (j : Int) : nrm V 109 109 j = if 0 ≤ j ∧ j < 4 then V 109 j else 0 := rfl
theorem nrm_111 (j : Int) : nrm V 109 111 j = if 0 ≤ j ∧ j < V 5 0 then V 111 j else 0 := rfl
theorem nrm_113 (j : Int) : nrm V 109 113 j = if 0 ≤ j ∧ j < V 5 2 then V 113 j else 0 := rfl
theorem nrm_z {k : Nat} (h1 : k ≠ 109) (h2 : k ≠ 111) (h3 : k ≠ 113) (h4 : ¬ cty k) (j : Int) : nrm V 109 k j = 0 := by
  unfold nrm
  rw [if_neg h1, if_neg h2, if_neg h3, if_neg h4]
/-- two are one view, where they agree on what it shows -/
theorem nrm_ext (hc : ∀ k, cty k → S k = V k) (h9 : ∀ j, 0 ≤ j → j < 4 → S 109 j = V 109 j) (h11 : ∀ r, 0 ≤ r → r < V 5 0 → S 111 r = V 111 r) (h13 : ∀ o, 0 ≤ o → o < V 5 2 → S 113 o = V 113 o) : nrm S 109 = nrm V 109 := by
  funext k j
  by_cases k1 : k = 109
  · subst k1
    rw [nrm_109, nrm_109]
    by_cases z : 0 ≤ j ∧ j < 4
    · rw [if_pos z, if_pos z]; exact h9 j z.1 z.2
    · rw [if_neg z, if_neg z]
  by_cases k2 : k = 111
  · subst k2
    rw [nrm_111, nrm_111, hc 5 (by decide)]
    by_cases z : 0 ≤ j ∧ j < V 5 0
    · rw [if_pos z, if_pos z]; exact h11 j z.1 z.2
    · rw [if_neg z, if_neg z]
  by_cases k3 : k = 113
  · subst k3
    rw [nrm_113, nrm_113, hc 5 (by decide)]
    by_cases z : 0 ≤ j ∧ j < V 5 2
    · rw [if_pos z, if_pos z]; exact h13 j z.1 z.2
    · rw [if_neg z, if_neg z]
  by_cases k4 : cty k
  · rw [nrm_c k4, nrm_c k4, hc k k4]
  · rw [nrm_z k1 k2 k3 k4, nrm_z k1 k2 k3 k4]
theorem nrm_nrm {t : Nat} : nrm (nrm σ t) 109 = nrm σ t := by
  funext k j
  by_cases k1 : k = 109
  · subst k1
    rw [nrm_109]
    by_cases z : 0 ≤ j ∧ j < 4
    · rw [if_pos z]
    · rw [if_neg z]
      show 0 = if 0 ≤ j ∧ j < 4 then σ t j else 0
      rw [if_neg z]
  by_cases k2 : k = 111
  · subst k2
    rw [nrm_111, nrm_c (k := 5) (by decide)]
    by_cases z : 0 ≤ j ∧ j < σ 5 0
    · rw [if_pos z]
    · rw [if_neg z]
      show 0 = if 0 ≤ j ∧ j < σ 5 0 then σ (t + 2) j else 0
      rw [if_neg z]
  by_cases k3 : k = 113
  · subst k3
    rw [nrm_113, nrm_c (k := 5) (by decide)]
    by_cases z : 0 ≤ j ∧ j < σ 5 2
    · rw [if_pos z]
    · rw [if_neg z]
      show 0 = if 0 ≤ j ∧ j < σ 5 2 then σ (t + 4) j else 0
      rw [if_neg z]
  by_cases k4 : cty k
  · rw [nrm_c k4]
  · rw [nrm_z k1 k2 k3 k4]
    unfold nrm
    rw [if_neg k1, if_neg k2, if_neg k3, if_neg k4]
theorem VW_now (hI : INV σ) : VWK (nrm σ 70) := ⟨INV_vc hI, INV_vs hI, nrm_nrm⟩
theorem nrm_up9 (hN : nrm V 109 = V) {j v : Int} (j0 : 0 ≤ j) (j4 : j < 4) : nrm (up V 109 j v) 109 = up V 109 j v := by
  have e5 : up V 109 j v 5 = V 5 := up_k (by decide)
  funext k i
  by_cases k1 : k = 109
  · subst k1
    rw [nrm_109]
    by_cases z : 0 ≤ i ∧ i < 4
    · rw [if_pos z]
    · rw [if_neg z, up_i (by omega), ← hN, nrm_109, if_neg z]
  · have : nrm (up V 109 j v) 109 k i = nrm V 109 k i := by
      unfold nrm
      rw [e5, if_neg k1, if_neg k1, show (109 + 2 : Nat) = 111 from rfl, show (109 + 4 : Nat) = 113 from rfl, up_k (k' := 111) (by decide), up_k (k' := 113) (by decide), up_k (k' := k) k1]
    rw [this, hN, up_k k1]
theorem nrm_up13 (hN : nrm V 109 = V) {j v : Int} (j0 : 0 ≤ j) (j4 : j < V 5 2) : nrm (up V 113 j v) 109 = up V 113 j v := by
  have e5 : up V 113 j v 5 = V 5 := up_k (by decide)
  funext k i
  by_cases k1 : k = 113
  · subst k1
    rw [nrm_113, e5]
    by_cases z : 0 ≤ i ∧ i < V 5 2
    · rw [if_pos z]
    · rw [if_neg z, up_i (by omega), ← hN, nrm_113]
      have : nrm V 109 5 2 = V 5 2 := by rw [hN]
      rw [if_neg z]
  · have : nrm (up V 113 j v) 109 k i = nrm V 109 k i := by
      unfold nrm
      rw [e5, if_neg k1, if_neg k1, show (109 + 2 : Nat) = 111 from rfl, up_k (k' := 111) (by decide), up_k (k' := 109) (by decide), up_k (k' := k) k1]
    rw [this, hN, up_k k1]
theorem sky_up9 (hs : skyOK V 109) {j v : Int} (h0 : j = 0 → -1 ≤ v ∧ v < V 26 0) (h1 : j = 1 → 0 ≤ v ∧ v ≤ 7) (h2 : j = 2 → v = 0 ∨ v = 1) (h3 : j = 3 → 0 ≤ v ∧ v ≤ 31) : skyOK (up V 109 j v) 109 := by
  unfold skyOK at hs ⊢
  obtain ⟨a0, a1, a2, a3, a4, a5⟩ := hs
  rw [show (109 + 2 : Nat) = 111 from rfl, show (109 + 4 : Nat) = 113 from rfl] at *
  rw [up_k (k' := 26) (by decide), up_k (k' := 5) (by decide), up_k (k' := 111) (by decide), up_k (k' := 113) (by decide)]
  refine ⟨?_, ?_, ?_, ?_, a4, a5⟩
  · by_cases e : j = 0
    · subst e; rw [up_same]; exact h0 rfl
    · rw [up_i (by omega)]; exact a0
  · by_cases e : j = 1
    · subst e; rw [up_same]; exact h1 rfl
    · rw [up_i (by omega)]; exact a1
  · by_cases e : j = 2
    · subst e; rw [up_same]; exact h2 rfl
    · rw [up_i (by omega)]; exact a2
  · by_cases e : j = 3
    · subst e; rw [up_same]; exact h3 rfl
    · rw [up_i (by omega)]; exact a3
theorem VW_up9 (h : VWK V) {j v : Int} (j0 : 0 ≤ j) (j4 : j < 4) (h0 : j = 0 → -1 ≤ v ∧ v < V 26 0) (h1 : j = 1 → 0 ≤ v ∧ v ≤ 7) (h2 : j = 2 → v = 0 ∨ v = 1) (h3 : j = 3 → 0 ≤ v ∧ v ≤ 31) : VWK (up V 109 j v) :=
  ⟨cityOK_congr (fun _ hk => up_k (cty_x hk).1) h.1, sky_up9 h.2.1 h0 h1 h2 h3, nrm_up9 h.2.2 j0 j4⟩
theorem VW_up13 (h : VWK V) {o v : Int} (o0 : 0 ≤ o) (o1 : o < V 5 2) (v0 : 0 ≤ v) (v1 : v ≤ 400) : VWK (up V 113 o v) := by
  refine ⟨cityOK_congr (fun _ hk => up_k (cty_x hk).2.2.1) h.1, ?_, nrm_up13 h.2.2 o0 o1⟩
  have hs := h.2.1
  unfold skyOK at hs ⊢
  obtain ⟨a0, a1, a2, a3, a4, a5⟩ := hs
  rw [show (109 + 2 : Nat) = 111 from rfl, show (109 + 4 : Nat) = 113 from rfl] at *
  rw [up_k (k' := 26) (by decide), up_k (k' := 5) (by decide), up_k (k' := 111) (by decide), up_k (k' := 109) (by decide)]
  refine ⟨a0, a1, a2, a3, a4, fun x x0 x1 => ?_⟩
  by_cases e : x = o
  · subst e; rw [up_same]; exact ⟨v0, v1⟩
  · rw [up_i e]; exact a5 x x0 x1
theorem SK_nrm (hW : VWK V) (h : SK S V) : nrm S 109 = V := (nrm_ext h.1 h.2.1 h.2.2.1 h.2.2.2).trans hW.2.2
theorem SK_ok (hW : VWK V) (h : SK S V) : cityOK S ∧ skyOK S 109 := by
  refine ⟨cityOK_congr h.1 hW.1, ?_⟩
  have hs := hW.2.1
  unfold skyOK at hs ⊢
  obtain ⟨a0, a1, a2, a3, a4, a5⟩ := hs
  rw [show (109 + 2 : Nat) = 111 from rfl, show (109 + 4 : Nat) = 113 from rfl] at *
  rw [h.1 26 (by decide), h.1 5 (by decide), h.2.1 0 (by decide) (by decide), h.2.1 1 (by decide) (by decide), h.2.1 2 (by decide) (by decide), h.2.1 3 (by decide) (by decide)]
  exact ⟨a0, a1, a2, a3, fun r r0 r1 => by rw [h.2.2.1 r r0 r1]; exact a4 r r0 r1, fun o o0 o1 => by rw [h.2.2.2 o o0 o1]; exact a5 o o0 o1⟩
theorem SK_f {S' : dS} (hF : ∀ k, cty k ∨ k = 109 ∨ k = 111 ∨ k = 113 → S' k = S k) (h : SK S V) : SK S' V :=
  ⟨fun k hk => by rw [hF k (Or.inl hk)]; exact h.1 k hk, fun j a b => by rw [hF 109 (by omega)]; exact h.2.1 j a b, fun j a b => by rw [hF 111 (by omega)]; exact h.2.2.1 j a b, fun j a b => by rw [hF 113 (by omega)]; exact h.2.2.2 j a b⟩
theorem SK_n {S' : dS} (hF : ∀ k, ¬ ncl k → ¬ rcl k → S' k = S k) (h : SK S V) : SK S' V := SK_f (fun k hk => by
  rcases hk with q | q | q | q
  · exact hF k (cty_x q).2.2.2.2.2.2.1 (cty_x q).2.2.2.2.2.2.2
  · exact hF k (by omega) (by omega)
  · exact hF k (by omega) (by omega)
  · exact hF k (by omega) (by omega)) h
theorem SK_up9 (h : SK S V) {j v : Int} : SK (up S 109 j v) (up V 109 j v) := by
  refine ⟨fun k hk => by rw [up_k (cty_x hk).1, up_k (cty_x hk).1]; exact h.1 k hk, fun i i0 i1 => ?_, fun r r0 r1 => ?_, fun o o0 o1 => ?_⟩
  · by_cases e : i = j
    · subst e; rw [up_same, up_same]
    · rw [up_i e, up_i e]; exact h.2.1 i i0 i1
  · rw [up_k (k' := 5) (by decide)] at r1
    rw [up_k (by decide), up_k (by decide)]; exact h.2.2.1 r r0 r1
  · rw [up_k (k' := 5) (by decide)] at o1
    rw [up_k (by decide), up_k (by decide)]; exact h.2.2.2 o o0 o1
theorem SK_up13 (h : SK S V) {j v : Int} : SK (up S 113 j v) (up V 113 j v) := by
  refine ⟨fun k hk => by rw [up_k (cty_x hk).2.2.1, up_k (cty_x hk).2.2.1]; exact h.1 k hk, fun i i0 i1 => ?_, fun r r0 r1 => ?_, fun o o0 o1 => ?_⟩
  · rw [up_k (by decide), up_k (by decide)]; exact h.2.1 i i0 i1
  · rw [up_k (k' := 5) (by decide)] at r1
    rw [up_k (by decide), up_k (by decide)]; exact h.2.2.1 r r0 r1
  · rw [up_k (k' := 5) (by decide)] at o1
    by_cases e : o = j
    · subst e; rw [up_same, up_same]
    · rw [up_i e, up_i e]; exact h.2.2.2 o o0 o1
theorem t126 {K : Int → dS → Prop} (hW : VWK V) (h : SK S V) (hq : ∀ σ', (∀ k, ¬ ncl k → ¬ rcl k → σ' k = S k) → K (hms V) σ') : wI (d + 9) 126 [.inr (.inr 0), .inr (.inr 109)] S Q K := by
  have hk := SK_ok hW h
  refine w126_109 hk.1 hk.2 (fun σ' g => ?_)
  rw [SK_nrm hW h]
  exact hq σ' g
theorem t68 {K : dS → Prop} (hW : VWK V) (h : SK S V) (hq : ∀ σ', (∀ k, ¬ ncl k → σ' k = S k) → RC σ' V (NF V 109) → K σ') : wV (d + 7) 68 [.inr (.inr 114), .inr (.inr 109)] S Q K := by
  have hk := SK_ok hW h
  refine v68_109 hk.1 hk.2 (fun σ' g1 g2 => ?_)
  rw [SK_nrm hW h] at g2
  exact hq σ' g1 g2
abbrev tcl (k : Nat) : Prop := k = 109 ∨ k = 111 ∨ k = 113
theorem w22 {K : dS → Prop} (hI : INV σ) (hq : ∀ σ', (∀ k, ¬ tcl k → σ' k = σ k) → SK σ' (nrm σ 70) → K σ') : wV (d + 2) 22 [.inr (.inr 109), .inr (.inr 70)] σ Q K := by
  have hR := (INV_c hI).1
  have hO := (INV_c hI).2.1
  refine c22_109_70 (b22_109_70_0 (fun σ1 f1 σ2 f2 => ⟨?_, fun σ3 f3 σ4 f4 σ5 f5 σ6 f6 => ?_⟩))
  · have : σ2 70 2 = σ 70 2 := by rw [f2, up_k (by decide), f1, up_k (by decide)]
    rw [this]; exact (INV_s hI).2.2.1
  · have k70 : σ1 70 = σ 70 ∧ σ2 70 = σ 70 ∧ σ3 70 = σ 70 := by
      refine ⟨?_, ?_, ?_⟩
      · rw [f1, up_k (by decide)]
      · rw [f2, up_k (by decide), f1, up_k (by decide)]
      · rw [f3, up_k (by decide), f2, up_k (by decide), f1, up_k (by decide)]
    have k4 : ∀ k, k ≠ 109 → σ4 k = σ k := fun k hk => by rw [f4, up_k hk, f3, up_k hk, f2, up_k hk, f1, up_k hk]
    refine hq σ6 (fun k hk => ?_) ⟨fun k hk => ?_, fun j j0 j1 => ?_, fun r r0 r1 => ?_, fun o o0 o1 => ?_⟩
    · rw [f6, rcopy_k (by omega), f5, rcopy_k (by omega)]; exact k4 k (by omega)
    · rw [nrm_c hk, f6, rcopy_k (cty_x hk).2.2.1, f5, rcopy_k (cty_x hk).2.1]; exact k4 k (cty_x hk).1
    · rw [nrm_s j0 j1, f6, rcopy_k (by decide), f5, rcopy_k (by decide), f4]
      by_cases e3 : j = 3
      · subst e3; rw [up_same, k70.2.2]
      rw [up_i e3, f3]
      by_cases e2 : j = 2
      · subst e2; rw [up_same, k70.2.1]
      rw [up_i e2, f2]
      by_cases e1 : j = 1
      · subst e1; rw [up_same, k70.1]
      rw [up_i e1, f1]
      have e0 : j = 0 := by omega
      subst e0; rw [up_same]
    · rw [nrm_c (k := 5) (by decide)] at r1
      rw [nrm_g r0 r1, f6, rcopy_k (by decide), f5, rcopy_in r0 (by omega) (by omega), k4 72 (by decide)]
    · rw [nrm_c (k := 5) (by decide)] at o1
      rw [nrm_b o0 o1, f6, rcopy_in o0 (by omega) (by omega), f5, rcopy_k (by decide), k4 74 (by decide)]
/-! the reference's now -/
theorem MVs_up9 (hR : V 5 0 ≤ 10) (h : MVs S V) {j v : Int} (j0 : 0 ≤ j) (j4 : j < 4) : MVs (up S 174 j v) (up V 109 j v) := by
  obtain ⟨a0, a1, a2, a3, a4, a5⟩ := h
  have g : ∀ i, 0 ≤ i → i < 4 → S 174 i = V 109 i → up S 174 j v 174 i = up V 109 j v 109 i := fun i _ _ q => by
    by_cases e : i = j
    · subst e; rw [up_same, up_same]
    · rw [up_i e, up_i e]; exact q
  refine ⟨g 0 (by decide) (by decide) a0, g 1 (by decide) (by decide) a1, g 2 (by decide) (by decide) a2, g 3 (by decide) (by decide) a3, fun r r0 r1 => ?_, fun o o0 o1 => ?_⟩
  · rw [up_k (k' := 5) (by decide)] at r1
    rw [up_i (by omega), up_k (by decide)]; exact a4 r r0 r1
  · rw [up_k (k' := 5) (by decide)] at o1
    rw [up_i (by omega), up_k (by decide)]; exact a5 o o0 o1
theorem MVs_up13 (hR : V 5 0 ≤ 10) (h : MVs S V) {j v : Int} (j0 : 0 ≤ j) (j4 : j < 5) : MVs (up S 174 (14 + j) v) (up V 113 j v) := by
  obtain ⟨a0, a1, a2, a3, a4, a5⟩ := h
  have g : ∀ i, 0 ≤ i → i < 4 → S 174 i = V 109 i → up S 174 (14 + j) v 174 i = up V 113 j v 109 i := fun i _ _ q => by
    rw [up_i (by omega), up_k (by decide)]; exact q
  refine ⟨g 0 (by decide) (by decide) a0, g 1 (by decide) (by decide) a1, g 2 (by decide) (by decide) a2, g 3 (by decide) (by decide) a3, fun r r0 r1 => ?_, fun o o0 o1 => ?_⟩
  · rw [up_k (k' := 5) (by decide)] at r1
    rw [up_i (by omega), up_k (by decide)]; exact a4 r r0 r1
  · rw [up_k (k' := 5) (by decide)] at o1
    by_cases e : o = j
    · subst e; rw [up_same, up_same]
    · rw [up_i (by omega), up_i e]; exact a5 o o0 o1
theorem MVc_up9 (h : MVc S V) {i j v w : Int} : MVc (up S 174 i v) (up V 109 j w) := MVc_V (fun k hk => up_k (cty_x hk).1) (MVc_k (fun k hk => up_k (by omega)) h)
theorem MVc_up13 (h : MVc S V) {i j v w : Int} : MVc (up S 174 i v) (up V 113 j w) := MVc_V (fun k hk => up_k (cty_x hk).2.2.1) (MVc_k (fun k hk => up_k (by omega)) h)
theorem t213 {K : Int → dS → Prop} (hW : VWK V) (h1 : MVc S V) (h2 : MVs S V) (hq : ∀ σ', (∀ k, ¬ nml k → k ≠ 186 → σ' k = S k) → K (hms V) σ') : wI (d + 8) 213 [.inr (.inr 153)] S Q K := w213 hW.1 hW.2.1 h1 h2 hq
theorem MVc_n {S' : dS} (hF : ∀ k, ¬ nml k → k ≠ 186 → S' k = S k) (h : MVc S V) : MVc S' V := MVc_k (fun k hk => hF k (by omega) (by omega)) h
theorem MVs_n {S' : dS} (hF : ∀ k, ¬ nml k → k ≠ 186 → S' k = S k) (h : MVs S V) : MVs S' V := MVs_k (hF 174 (by decide) (by decide)) h
theorem FRM_t {σ' : dS} (h : ∀ k, ¬ tcl k → ¬ ncl k → ¬ rcl k → σ' k = σ k) : FRM σ σ' := FRM_c (fun k hk => h k (by omega) (by omega) (by omega))
theorem FRM_nw {σ' : dS} (h : ∀ k, k ≠ 174 → ¬ nml k → k ≠ 186 → σ' k = σ k) (h2 : ∀ j, σ' 174 j = σ 174 j) : FRM σ σ' :=
  ⟨fun k q _ q2 => h k q2 (fun z => q (Or.inr (by omega))) (fun z => q (Or.inr (by omega))), fun j _ => by rw [h 153 (by decide) (by decide) (by decide)], fun j _ _ => h2 j⟩
/-! best of several skies -/
noncomputable def bof (V : dS) (j f : Int) : Nat → Int × Int
  | 0 => (f, -1)
  | n + 1 => if (bof V j f n).2 < hms (up V 109 j (f + (n : Int))) then (f + (n : Int), hms (up V 109 j (f + (n : Int)))) else bof V j f n
theorem l151 {S0 : dS} (hW : VWK V) (hq : ∀ σ', (∀ k, ¬ tcl k → ¬ ncl k → ¬ rcl k → σ' k = S0 k) → Q (.inl (some (.inl (bof V 0 (-1) (V 26 0 + 1).toNat).1))) σ') : ∀ (c n : Nat) (a : Int) (S : dS), (n : Int) + c = V 26 0 + 1 → SK S (up V 109 0 a) → (∀ k, ¬ tcl k → ¬ ncl k → ¬ rcl k → S k = S0 k) → B151_1 (d + 8) Q (bof V 0 (-1) n).1 (bof V 0 (-1) n).2 (-1 + (n : Int)) S
  | 0, n, a, S, hn, hS, hF => by
    have e26 : S 26 0 = V 26 0 := by rw [hS.1 26 (by decide), up_k (by decide)]
    have en : n = (V 26 0 + 1).toNat := by omega
    refine b151_1 ⟨fun _ => b151_3 ?_, fun z => absurd (by omega) z⟩
    rw [en]; exact hq S hF
  | c + 1, n, a, S, hn, hS, hF => by
    have h4 := hW.1.2.2.2.2.1
    have e26 : S 26 0 = V 26 0 := by rw [hS.1 26 (by decide), up_k (by decide)]
    have ew : wr (-1 + (n : Int) + 1) = -1 + ((n + 1 : Nat) : Int) := by rw [wr_id (by omega) (by omega)]; omega
    have hW2 : VWK (up V 109 0 (-1 + (n : Int))) := VW_up9 hW (by decide) (by decide) (fun _ => by omega) (fun e => absurd e (by decide)) (fun e => absurd e (by decide)) (fun e => absurd e (by decide))
    refine b151_1 ⟨fun z => absurd z (by omega), fun _ σ1 f1 => ?_⟩
    have hS1 : SK σ1 (up V 109 0 (-1 + (n : Int))) := by
      rw [f1]
      have := SK_up9 hS (j := 0) (v := -1 + (n : Int))
      rw [up_up] at this
      exact this
    refine t126 hW2 hS1 (fun σ2 g => ?_)
    have F2 : ∀ k, ¬ tcl k → ¬ ncl k → ¬ rcl k → σ2 k = S0 k := fun k q1 q2 q3 => by rw [g k q2 q3, f1, up_k (by omega)]; exact hF k q1 q2 q3
    have ih := l151 hW hq c (n + 1) (-1 + (n : Int)) σ2 (by omega) (SK_n g hS1) F2
    have eb : bof V 0 (-1) (n + 1) = if (bof V 0 (-1) n).2 < hms (up V 109 0 (-1 + (n : Int))) then (-1 + (n : Int), hms (up V 109 0 (-1 + (n : Int)))) else bof V 0 (-1) n := rfl
    refine ⟨fun z => b151_2 ?_, fun z => b151_2 ?_⟩
    · rw [eb, if_neg (by omega)] at ih
      rw [ew]; exact ih
    · rw [eb, if_pos (by omega)] at ih
      rw [ew]; exact ih
theorem x_best {K : Int → dS → Prop} (hI : INV σ) (h : ∀ σ', FRM σ σ' → K (bof (nrm σ 70) 0 (-1) (σ 26 0 + 1).toNat).1 σ') : wI (d + 11) 151 [.inr (.inr 0)] σ Q K := by
  have hW := VW_now hI
  have h4 := hW.1.2.2.2.2.1
  have e26 : nrm σ 70 26 0 = σ 26 0 := by rw [nrm_c (k := 26) (by decide)]
  refine c151 (b151_0 (w22 hI (fun σ1 g1 g2 => ?_)))
  refine l151 (S0 := σ1) hW (fun σ' g3 => ?_) (σ 26 0 + 1).toNat 0 (nrm σ 70 109 0) σ1 (by omega) (by rw [up_self]; exact g2) (fun _ _ _ _ => rfl)
  rw [e26]
  exact h σ' (FRM_t (fun k q1 q2 q3 => by rw [g3 k q1 q2 q3]; exact g1 k q1))
theorem l152 {S0 : dS} (hW : VWK V) (hq : ∀ σ', (∀ k, ¬ tcl k → ¬ ncl k → ¬ rcl k → σ' k = S0 k) → Q (.inl (some (.inl (bof V 1 0 8).1))) σ') : ∀ (c n : Nat) (a : Int) (S : dS), n + c = 8 → SK S (up V 109 1 a) → (∀ k, ¬ tcl k → ¬ ncl k → ¬ rcl k → S k = S0 k) → B152_1 (d + 8) Q (bof V 1 0 n).1 (bof V 1 0 n).2 (n : Int) S
  | 0, n, a, S, hn, hS, hF => by
    have en : n = 8 := by omega
    subst en
    exact b152_1 ⟨fun _ => b152_3 (hq S hF), fun z => absurd (by decide) z⟩
  | c + 1, n, a, S, hn, hS, hF => by
    have ew : wr ((n : Int) + 1) = ((n + 1 : Nat) : Int) := by rw [wr_id (by omega) (by omega)]; omega
    have hW2 : VWK (up V 109 1 (n : Int)) := VW_up9 hW (by decide) (by decide) (fun e => absurd e (by decide)) (fun _ => by omega) (fun e => absurd e (by decide)) (fun e => absurd e (by decide))
    refine b152_1 ⟨fun z => absurd z (by omega), fun _ σ1 f1 => ?_⟩
    have hS1 : SK σ1 (up V 109 1 (n : Int)) := by
      rw [f1]
      have := SK_up9 hS (j := 1) (v := (n : Int))
      rw [up_up] at this
      exact this
    refine t126 hW2 hS1 (fun σ2 g => ?_)
    have F2 : ∀ k, ¬ tcl k → ¬ ncl k → ¬ rcl k → σ2 k = S0 k := fun k q1 q2 q3 => by rw [g k q2 q3, f1, up_k (by omega)]; exact hF k q1 q2 q3
    have ih := l152 hW hq c (n + 1) (n : Int) σ2 (by omega) (SK_n g hS1) F2
    have eb : bof V 1 0 (n + 1) = if (bof V 1 0 n).2 < hms (up V 109 1 (0 + (n : Int))) then (0 + (n : Int), hms (up V 109 1 (0 + (n : Int)))) else bof V 1 0 n := rfl
    rw [Int.zero_add] at eb
    refine ⟨fun z => b152_2 ?_, fun z => b152_2 ?_⟩
    · rw [eb, if_neg (by omega)] at ih
      rw [ew]; exact ih
    · rw [eb, if_pos (by omega)] at ih
      rw [ew]; exact ih
theorem x_bright {K : Int → dS → Prop} (hI : INV σ) (h : ∀ σ', FRM σ σ' → K (bof (nrm σ 70) 1 0 8).1 σ') : wI (d + 11) 152 [.inr (.inr 0)] σ Q K := by
  have hW := VW_now hI
  refine c152 (b152_0 (w22 hI (fun σ1 g1 g2 => ?_)))
  refine l152 (S0 := σ1) hW (fun σ' g3 => ?_) 8 0 (nrm σ 70 109 1) σ1 (by omega) (by rw [up_self]; exact g2) (fun _ _ _ _ => rfl)
  exact h σ' (FRM_t (fun k q1 q2 q3 => by rw [g3 k q1 q2 q3]; exact g1 k q1))
theorem l252 {S0 : dS} {j f t x4 : Int} (j0 : 0 ≤ j) (j2 : j < 4) (ft : f ≤ t + 1) (f0 : -1 ≤ f) (t9 : t ≤ 9) (hW : VWK V) (hv : ∀ v, f ≤ v → v ≤ t → VWK (up V 109 j v)) (hq : ∀ S, (∀ k, ¬ nml k → k ≠ 186 → k ≠ 174 → S k = S0 k) → (∀ i, i ≠ j → S 174 i = S0 174 i) → Q (.inl (some (.inl (bof V j f (t - f + 1).toNat).1))) (up S 174 j x4)) : ∀ (c n : Nat) (a : Int) (S : dS), (n : Int) + c = t - f + 1 → MVc S (up V 109 j a) → MVs S (up V 109 j a) → (∀ k, ¬ nml k → k ≠ 186 → k ≠ 174 → S k = S0 k) → (∀ i, i ≠ j → S 174 i = S0 174 i) → B252_1 (d + 7) Q j t x4 (bof V j f n).1 (bof V j f n).2 (f + (n : Int)) S
  | 0, n, a, S, hn, hM, hs, hF, h174 => by
    have en : n = (t - f + 1).toNat := by omega
    refine b252_1 ⟨fun _ => b252_4 ⟨j0, by omega, fun σ1 f1 => ?_⟩, fun z => absurd (by omega) z⟩
    rw [f1, en]; exact hq S hF h174
  | c + 1, n, a, S, hn, hM, hs, hF, h174 => by
    have hR := hW.1.1
    have ew : wr (f + (n : Int) + 1) = f + ((n + 1 : Nat) : Int) := by rw [wr_id (by omega) (by omega)]; omega
    have hW2 := hv (f + (n : Int)) (by omega) (by omega)
    refine b252_1 ⟨fun z => absurd z (by omega), fun _ => ⟨j0, by omega, fun σ1 f1 => ?_⟩⟩
    have m1 : MVc σ1 (up V 109 j (f + (n : Int))) := by
      rw [f1]
      have := MVc_up9 hM (i := j) (j := j) (v := f + (n : Int)) (w := f + (n : Int))
      rw [up_up] at this
      exact this
    have m2 : MVs σ1 (up V 109 j (f + (n : Int))) := by
      rw [f1]
      have := MVs_up9 (by rw [up_k (k' := 5) (by omega)]; omega) hs (v := f + (n : Int)) j0 j2
      rw [up_up] at this
      exact this
    refine t213 hW2 m1 m2 (fun σ2 g => ?_)
    have ih := l252 j0 j2 ft f0 t9 hW hv hq c (n + 1) (f + (n : Int)) σ2 (by omega) (MVc_n g m1) (MVs_n g m2) (fun k q1 q2 q3 => by rw [g k q1 q2, f1, up_k q3]; exact hF k q1 q2 q3) (fun i hi => by rw [g 174 (by decide) (by decide), f1, up_i hi]; exact h174 i hi)
    have eb : bof V j f (n + 1) = if (bof V j f n).2 < hms (up V 109 j (f + (n : Int))) then (f + (n : Int), hms (up V 109 j (f + (n : Int)))) else bof V j f n := rfl
    refine ⟨fun z => b252_2 (b252_3 ?_), fun z => b252_3 ?_⟩
    · rw [eb, if_pos z] at ih
      rw [ew]; exact ih
    · rw [eb, if_neg z] at ih
      rw [ew]; exact ih
theorem w252 {K : Int → dS → Prop} {j f t : Int} (j0 : 0 ≤ j) (j2 : j < 4) (ft : f ≤ t + 1) (f0 : -1 ≤ f) (t9 : t ≤ 9) (hW : VWK V) (hv : ∀ v, f ≤ v → v ≤ t → VWK (up V 109 j v)) (h1 : MVc S V) (h2 : MVs S V) (hq : ∀ σ', (∀ k, k ≠ 174 → ¬ nml k → k ≠ 186 → σ' k = S k) → (∀ i, σ' 174 i = S 174 i) → K (bof V j f (t - f + 1).toNat).1 σ') : wI (d + 9) 252 [.inr (.inr 153), .inl j, .inl f, .inl t] S Q K := by
  refine c252 (b252_0 ⟨j0, by omega, ?_⟩)
  have := l252 (d := d) (V := V) (Q := fun res σ1 => match res with | .inl (some (.inl v)) => K v σ1 | .inl _ => False | .inr e => Q (.inr e) σ1) (S0 := S) (x4 := S 174 j) (f := f) j0 j2 ft f0 t9 hW hv (fun S' g1 g2 => hq _ (fun k q1 q2 q3 => by rw [up_k q1]; exact g1 k q2 q3 q1) (fun i => ?_)) (t - f + 1).toNat 0 (V 109 j) S (by omega) (by rw [up_self]; exact h1) (by rw [up_self]; exact h2) (fun _ _ _ _ => rfl) (fun _ _ => rfl)
  · have e0 : f + ((0 : Nat) : Int) = f := by omega
    rw [e0] at this
    exact this
  · by_cases e : i = j
    · subst e; rw [up_same]
    · rw [up_i e]; exact g2 i e
theorem m_best {K : Int → dS → Prop} (hI : INV σ) (h : ∀ σ', FRM σ σ' → K (bof (nrm σ 70) 0 (-1) (σ 26 0 + 1).toNat).1 σ') : wI (d + 11) 253 [.inr (.inr 153)] σ Q K := by
  refine c253 (b253_0 ?_)
  intro σ1 f1
  obtain ⟨hT, hF1, hI1, en, e5, e1, e3, e4⟩ := m_begin hI f1
  have hW := VW_now hI
  have h4 := hW.1.2.2.2.2.1
  have e26 : nrm σ 70 26 0 = σ 26 0 := by rw [nrm_c (k := 26) (by decide)]
  have e5' : σ1 153 5 = σ 26 0 := by rw [hI1.2.1.2.2.2.1, hF1.1 26 (by decide) (by decide) (by decide)]
  have mc := INV_mc hI1
  have ms := INV_ms hI1
  rw [en] at mc ms
  rw [e5', wr_id (by omega) (by omega)]
  refine w252 (V := nrm σ 70) (by decide) (by decide) (by omega) (by decide) (by omega) hW (fun v v0 v1 => VW_up9 hW (by decide) (by decide) (fun _ => by omega) (fun e => absurd e (by decide)) (fun e => absurd e (by decide)) (fun e => absurd e (by decide))) mc ms (fun σ2 g1 g2 => ?_)
  have : (σ 26 0 - 1 - -1 + 1) = σ 26 0 + 1 := by omega
  rw [this]
  exact h σ2 (FRM_tr hF1 (FRM_nw g1 g2))
theorem m_bright {K : Int → dS → Prop} (hI : INV σ) (h : ∀ σ', FRM σ σ' → K (bof (nrm σ 70) 1 0 8).1 σ') : wI (d + 11) 254 [.inr (.inr 153)] σ Q K := by
  refine c254 (b254_0 ?_)
  intro σ1 f1
  obtain ⟨hT, hF1, hI1, en, e5, e1, e3, e4⟩ := m_begin hI f1
  have hW := VW_now hI
  have mc := INV_mc hI1
  have ms := INV_ms hI1
  rw [en] at mc ms
  refine w252 (V := nrm σ 70) (by decide) (by decide) (by omega) (by decide) (by omega) hW (fun v v0 v1 => VW_up9 hW (by decide) (by decide) (fun e => absurd e (by decide)) (fun _ => by omega) (fun e => absurd e (by decide)) (fun e => absurd e (by decide))) mc ms (fun σ2 g1 g2 => ?_)
  exact h σ2 (FRM_tr hF1 (FRM_nw g1 g2))
end TRI
