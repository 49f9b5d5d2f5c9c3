/-! BITS -/
def gb (x : Int) (r : Nat) : Bool := (Int32.ofInt x).toBitVec.getLsbD r
theorem shr_amt : ∀ r : Fin 32, (Int32.ofInt ((r.val : Nat) : Int) &&& 31).toBitVec.smod 32 = BitVec.ofNat 32 r.val := by decide
theorem gb_shl_dec : ∀ v r : Fin 32, (Int32.ofInt 1 <<< (Int32.ofInt ((v.val : Nat) : Int) &&& 31)).toBitVec.getLsbD r.val = decide (r.val = v.val) := by decide
theorem gb_ior (x y : Int) (r : Nat) : gb (ior x y) r = (gb x r || gb y r) := by
  unfold gb ior
  rw [Int32.ofInt_toInt, Int32.toBitVec_or, BitVec.getLsbD_or]
theorem gb_ian (x y : Int) (r : Nat) : gb (ian x y) r = (gb x r && gb y r) := by
  unfold gb ian
  rw [Int32.ofInt_toInt, Int32.toBitVec_and, BitVec.getLsbD_and]
theorem gb_shl {v : Int} {r : Nat} (v0 : 0 ≤ v) (v1 : v < 32) (hr : r < 32) : gb (shl 1 v) r = decide ((r : Int) = v) := by
  unfold gb shl
  rw [Int32.ofInt_toInt]
  have h := gb_shl_dec ⟨v.toNat, by omega⟩ ⟨r, hr⟩
  have e : ((v.toNat : Nat) : Int) = v := by omega
  simp only [e] at h
  rw [h]
  by_cases z : (r : Int) = v
  · rw [decide_eq_true z, decide_eq_true (by omega)]
  · rw [decide_eq_false z, decide_eq_false (by omega)]
theorem shr_bv {x r : Int} (r0 : 0 ≤ r) (r1 : r < 32) : (Int32.ofInt (shr x r)).toBitVec = (Int32.ofInt x).toBitVec.sshiftRight r.toNat := by
  unfold shr
  rw [Int32.ofInt_toInt]
  show BitVec.sshiftRight' (Int32.ofInt x).toBitVec ((Int32.ofInt r &&& 31).toBitVec.smod 32) = _
  have h := shr_amt ⟨r.toNat, by omega⟩
  have e : ((r.toNat : Nat) : Int) = r := by omega
  simp only [e] at h
  rw [h]
  unfold BitVec.sshiftRight'
  rw [BitVec.toNat_ofNat, Nat.mod_eq_of_lt (by omega)]
theorem and1 (b : BitVec 32) : (Int32.ofBitVec (b &&& 1#32)).toInt = if b.getLsbD 0 then 1 else 0 := by
  have : b &&& 1#32 = if b.getLsbD 0 then 1#32 else 0#32 := by
    apply BitVec.eq_of_getLsbD_eq
    intro i hi
    rw [BitVec.getLsbD_and]
    by_cases h : b.getLsbD 0
    · rw [if_pos h]
      by_cases z : i = 0
      · subst z; rw [h]; rfl
      · simp [BitVec.getLsbD_one, z]
    · rw [if_neg h]
      by_cases z : i = 0
      · subst z; rw [Bool.eq_false_iff.mpr h]; rfl
      · simp [BitVec.getLsbD_one, z]
  rw [this]
  by_cases h : b.getLsbD 0
  · rw [if_pos h, if_pos h]; rfl
  · rw [if_neg h, if_neg h]; rfl
theorem tb_eq {x r : Int} (r0 : 0 ≤ r) (r1 : r < 32) : ian (shr x r) 1 = if gb x r.toNat then 1 else 0 := by
  have h := and1 (Int32.ofInt (shr x r)).toBitVec
  have e : ian (shr x r) 1 = (Int32.ofBitVec ((Int32.ofInt (shr x r)).toBitVec &&& 1#32)).toInt := rfl
  rw [e, h, shr_bv r0 r1, BitVec.getLsbD_sshiftRight]
  unfold gb
  simp [show ¬ (32 ≤ 0) by omega, show r.toNat < 32 by omega]
theorem gb_0 (r : Nat) : gb 0 r = false := by
  unfold gb
  have : (Int32.ofInt 0).toBitVec = 0#32 := rfl
  rw [this, BitVec.getLsbD_zero]
theorem ush16 (X : Int) : ian (ush X 16) 32767 = ian (shr X 16) 32767 := by
  have key : ∀ i, i < 32 → gb (ian (ush X 16) 32767) i = gb (ian (shr X 16) 32767) i := by
    intro i hi
    rw [gb_ian, gb_ian]
    by_cases h : i < 15
    · have e1 : (Int32.ofInt (ush X 16)).toBitVec = (Int32.ofInt X).toBitVec >>> 16 := by
        unfold ush
        rw [Int32.ofInt_toInt]; rfl
      have e2 := shr_bv (x := X) (r := 16) (by decide) (by decide)
      unfold gb
      rw [e1, e2, BitVec.getLsbD_ushiftRight, BitVec.getLsbD_sshiftRight]
      simp [show ¬ (32 ≤ i) by omega, show 16 + i < 32 by omega]
    · have : ∀ i : Fin 32, ¬ i.val < 15 → gb 32767 i.val = false := by decide
      rw [this ⟨i, hi⟩ h, Bool.and_false, Bool.and_false]
  have e : ∀ a b : Int32, (∀ i, i < 32 → a.toBitVec.getLsbD i = b.toBitVec.getLsbD i) → a = b := by
    intro a b h
    apply Int32.toBitVec_inj.mp
    exact BitVec.eq_of_getLsbD_eq h
  unfold ian
  congr 1
  apply e
  intro i hi
  have := key i hi
  unfold gb ian at this
  rw [Int32.ofInt_toInt, Int32.ofInt_toInt] at this
  exact this
theorem nb_dec : ∀ n : Fin 32, ∀ o : Fin 5, (ian (shr ((n.val : Nat) : Int) ((o.val : Nat) : Int)) 1 = 1 → ior ((n.val : Nat) : Int) (shl 1 ((o.val : Nat) : Int)) = ((n.val : Nat) : Int)) ∧ (ian (shr ((n.val : Nat) : Int) ((o.val : Nat) : Int)) 1 ≠ 1 → ian (ior ((n.val : Nat) : Int) (shl 1 ((o.val : Nat) : Int))) (ixr (shl 1 ((o.val : Nat) : Int)) (-1)) = ((n.val : Nat) : Int)) ∧ 0 ≤ ior ((n.val : Nat) : Int) (shl 1 ((o.val : Nat) : Int)) ∧ ior ((n.val : Nat) : Int) (shl 1 ((o.val : Nat) : Int)) ≤ 31 := by decide
def bc1 (x : Int) : Int := wr (x - ian (ush x 1) 1431655765)
def bc2 (x : Int) : Int := wr (ian x 858993459 + ian (ush x 2) 858993459)
def bc3 (x : Int) : Int := ian (wr (x + ush x 4)) 252645135
def bc4 (x : Int) : Int := wr (x + ush x 8)
def bc5 (x : Int) : Int := wr (x + ush x 16)
def bcn (x : Int) : Int := ian (bc5 (bc4 (bc3 (bc2 (bc1 x))))) 63
def pcn (x : Int) : Nat → Int
  | 0 => 0
  | k + 1 => pcn x k + ian (shr x (k : Int)) 1
theorem bcn_dec : (List.range 1024).all (fun n => decide (bcn (n : Int) = pcn (n : Int) 10)) = true := by decide +kernel
theorem bcn_eq {x : Int} (h0 : 0 ≤ x) (h1 : x < 1024) : bcn x = pcn x 10 := by
  have h := List.all_eq_true.mp bcn_dec x.toNat (List.mem_range.mpr (by omega))
  have e : ((x.toNat : Nat) : Int) = x := by omega
  have := of_decide_eq_true h
  rw [e] at this
  exact this
theorem gb_1 {r : Nat} (hr : r < 32) : gb 1 r = decide (r = 0) := by
  have : ∀ i : Fin 32, gb 1 i.val = decide (i.val = 0) := by decide
  exact this ⟨r, hr⟩
theorem tb_r {x r : Int} (r0 : 0 ≤ r) (r1 : r < 32) : ian (shr x r) 1 = 0 ∨ ian (shr x r) 1 = 1 := by
  rw [tb_eq r0 r1]
  cases gb x r.toNat
  · exact Or.inl rfl
  · exact Or.inr rfl
/-- the bit that an or with 1 << v sets -/
theorem tb_ior {x r v : Int} (r0 : 0 ≤ r) (r1 : r < 32) (v0 : 0 ≤ v) (v1 : v < 32) : ian (shr (ior x (shl 1 v)) r) 1 = if r = v then 1 else ian (shr x r) 1 := by
  rw [tb_eq r0 r1, tb_eq r0 r1, gb_ior, gb_shl v0 v1 (by omega)]
  have e : ((r.toNat : Nat) : Int) = r := by omega
  rw [e]
  by_cases z : r = v
  · rw [if_pos z, decide_eq_true z, Bool.or_true]; rfl
  · rw [if_neg z, decide_eq_false z, Bool.or_false]
theorem tb_0 {r : Int} (r0 : 0 ≤ r) (r1 : r < 32) : ian (shr 0 r) 1 = 0 := by
  rw [tb_eq r0 r1, gb_0]; rfl
theorem ior_or (x y z : Int) : ior (ior x y) z = ior x (ior y z) := by
  unfold ior
  rw [Int32.ofInt_toInt, Int32.ofInt_toInt, Int32.or_assoc]
theorem w0_ {d : Nat} {Q : dR → dS → Prop} {K : Int → dS → Prop} {x : Int} {σ : dS} (h : K (bcn x) σ) : wI (d + 1) 0 [.inl x] σ Q K := by
  unfold bcn bc5 bc4 bc3 bc2 bc1 at h
  unfold wI
  rw [wpm_eq, iq_0, TT_eq]
  simp [iq_0, bq_0, bk_0, ex_cons, st_0, st_1, st_2, st_3, st_4, st_5, st_6, st_7, st_8, st_9, st_10, st_11, st_12, st_13, st_14, st_15, st_16, st_17, st_18, st_19, st_20, st_21, st_22, st_23, st_24, st_25, st_26, st_27, st_28, st_29, st_30, st_32, st_33, st_34, st_35, st_36, st_37, st_38, st_39, st_40, st_41, st_42, st_43, st_44, st_45, st_46, st_47, st_48, st_49, st_50, st_51, st_52, st_53, st_54, st_55, st_56, st_57, st_58, st_59, st_60, st_61, st_62, st_63, st_64, st_65, st_66, st_67, st_68, st_69, st_70, st_71, st_72, st_73, st_74, st_75, st_76, st_78, st_79, st_84, st_85, st_86, s_push, s_iload, s_lload, s_aload, s_istore, s_astore, s_lstore, s_iinc, s_bin, s_div, s_un, s_i2l, s_lbin, s_lshl, s_lcmp, s_dup, s_pop, s_dup2, s_if, s_icmp, isT, s_getf, s_putf, s_ald, s_ast, s_lald, s_last, s_alen, s_call, s_objI, s_new, s_newa, s_iret, s_lret, s_vret, s_tsw, swT, s_lsw, swL, s_throw, s_tln, s_tch, s_tix, n0, okS, isL, c1, wt, popN]
  exact h
theorem w1_ {d : Nat} {Q : dR → dS → Prop} {K : Int → dS → Prop} {x : Int} {σ : dS} (h : K (if x < 0 then wr (-x) else x) σ) : wI (d + 1) 1 [.inl x] σ Q K := by
  unfold wI
  rw [wpm_eq, iq_1, TT_eq]
  by_cases z : x < 0
  · rw [if_pos z] at h
    simp [iq_1, bq_1, bk_1, TT_eq d 1 _ 1, TT_eq d 1 _ 2, ex_cons, st_0, st_1, st_2, st_3, st_4, st_5, st_6, st_7, st_8, st_9, st_10, st_11, st_12, st_13, st_14, st_15, st_16, st_17, st_18, st_19, st_20, st_21, st_22, st_23, st_24, st_25, st_26, st_27, st_28, st_29, st_30, st_32, st_33, st_34, st_35, st_36, st_37, st_38, st_39, st_40, st_41, st_42, st_43, st_44, st_45, st_46, st_47, st_48, st_49, st_50, st_51, st_52, st_53, st_54, st_55, st_56, st_57, st_58, st_59, st_60, st_61, st_62, st_63, st_64, st_65, st_66, st_67, st_68, st_69, st_70, st_71, st_72, st_73, st_74, st_75, st_76, st_78, st_79, st_84, st_85, st_86, s_push, s_iload, s_lload, s_aload, s_istore, s_astore, s_lstore, s_iinc, s_bin, s_div, s_un, s_i2l, s_lbin, s_lshl, s_lcmp, s_dup, s_pop, s_dup2, s_if, s_icmp, isT, s_getf, s_putf, s_ald, s_ast, s_lald, s_last, s_alen, s_call, s_objI, s_new, s_newa, s_iret, s_lret, s_vret, s_tsw, swT, s_lsw, swL, s_throw, s_tln, s_tch, s_tix, n0, okS, isL, c1, wt, popN, z]
    exact ⟨fun q => absurd q (by omega), h⟩
  · rw [if_neg z] at h
    simp [iq_1, bq_1, bk_1, TT_eq d 1 _ 1, TT_eq d 1 _ 2, ex_cons, st_0, st_1, st_2, st_3, st_4, st_5, st_6, st_7, st_8, st_9, st_10, st_11, st_12, st_13, st_14, st_15, st_16, st_17, st_18, st_19, st_20, st_21, st_22, st_23, st_24, st_25, st_26, st_27, st_28, st_29, st_30, st_32, st_33, st_34, st_35, st_36, st_37, st_38, st_39, st_40, st_41, st_42, st_43, st_44, st_45, st_46, st_47, st_48, st_49, st_50, st_51, st_52, st_53, st_54, st_55, st_56, st_57, st_58, st_59, st_60, st_61, st_62, st_63, st_64, st_65, st_66, st_67, st_68, st_69, st_70, st_71, st_72, st_73, st_74, st_75, st_76, st_78, st_79, st_84, st_85, st_86, s_push, s_iload, s_lload, s_aload, s_istore, s_astore, s_lstore, s_iinc, s_bin, s_div, s_un, s_i2l, s_lbin, s_lshl, s_lcmp, s_dup, s_pop, s_dup2, s_if, s_icmp, isT, s_getf, s_putf, s_ald, s_ast, s_lald, s_last, s_alen, s_call, s_objI, s_new, s_newa, s_iret, s_lret, s_vret, s_tsw, swT, s_lsw, swL, s_throw, s_tln, s_tch, s_tix, n0, okS, isL, c1, wt, popN, z]
    exact fun _ => h
