/-! THE ROWS, further: numbers, branches, switches -/
theorem tl_R (x : Int64) : lR x.toInt := by
  have h1 := Int64.le_toInt x
  have h2 := Int64.toInt_lt x
  exact ⟨by simpa using h1, by simpa using h2⟩
theorem iR_l {x : Int} (h : iR x) : lR x := by
  unfold iR at h
  unfold lR
  omega
theorem iR_0 : iR 0 := by unfold iR; omega
theorem ol_add (x y : Int) : Int64.ofInt x + Int64.ofInt y = Int64.ofInt (wrL (x + y)) := by
  rw [ol_wr]; exact (Int64.ofInt_add x y).symm
theorem ol_sub (x y : Int) : Int64.ofInt x - Int64.ofInt y = Int64.ofInt (wrL (x - y)) := by
  rw [ol_wr]; exact (Int64.ofInt_sub x y).symm
theorem oi_lng {x : Int} (h : iR x) : (Int32.ofInt x).toInt64 = Int64.ofInt x := by
  apply Int64.toInt_inj.mp
  rw [Int32.toInt_toInt64, ti_oi h, tl_ol (iR_l h)]
theorem ol_cmp {x y : Int} (hx : lR x) (hy : lR y) : lg_cmp (Int64.ofInt x) (Int64.ofInt y) = Int32.ofInt (cmp x y) := by
  unfold lg_cmp cmp
  by_cases h1 : y < x
  · have : Int64.ofInt y < Int64.ofInt x := by rw [Int64.lt_iff_toInt_lt, tl_ol hx, tl_ol hy]; exact h1
    rw [if_pos this, if_neg (by omega), if_neg (by omega)]
    rfl
  · have n1 : ¬ Int64.ofInt y < Int64.ofInt x := by rw [Int64.lt_iff_toInt_lt, tl_ol hx, tl_ol hy]; exact h1
    rw [if_neg n1]
    by_cases h2 : x = y
    · subst h2
      rw [if_pos rfl, if_neg (by omega), if_pos rfl]
      rfl
    · have n2 : ¬ Int64.ofInt x = Int64.ofInt y := fun q => h2 (by have := congrArg Int64.toInt q; rwa [tl_ol hx, tl_ol hy] at this)
      rw [if_neg n2, if_pos (by omega)]
      rfl
theorem cmp_R (x y : Int) : iR (cmp x y) := by
  unfold cmp iR
  split
  · omega
  · split <;> omega
section DR2
variable {p : Program} {l : Launch} {e : Env} {R : Room} {s : State} {m : MethodId} {args : Array Value} {below : List Frame} {meth : Method} {c : Code} {Qm : State → Prop} {G : dG} {fr : Bool} {nL pc : Nat} {cc : ByteArray} {u : Nat × Nat} {ls : dL} {st : List dX} {σ : dS}
theorem r_ishl (hx : p.tables.exec = Jvm.exec) (hb : c.code = cc) (d : decode cc pc = .ok (.ishl, 1)) (k : s_bin shl (VW p l e R s m args below meth c Qm G fr nL (pc + 1)) u ls st σ) : VW p l e R s m args below meth c Qm G fr nL pc u ls st σ := by
  intro hn w1 w2 H locs la hW hS hl
  unfold s_bin at k
  split at k
  · rename_i y x r
    have k := k hn w1 (wfs_c (ti_R _) (wfs_t (wfs_t w2))) H locs la hW hS hl
    refine lv_ishl hx hb d ?_
    have k : W p l e R s m args below meth c H locs u.1 u.2 Qm (F0 m (pc + 1) la (.int (Int32.ofInt (shl x y)) :: r.map (dv G))) := k
    unfold shl at k
    rw [oi_ti] at k
    exact k
  · exact k.elim
theorem r_ishr (hx : p.tables.exec = Jvm.exec) (hb : c.code = cc) (d : decode cc pc = .ok (.ishr, 1)) (k : s_bin shr (VW p l e R s m args below meth c Qm G fr nL (pc + 1)) u ls st σ) : VW p l e R s m args below meth c Qm G fr nL pc u ls st σ := by
  intro hn w1 w2 H locs la hW hS hl
  unfold s_bin at k
  split at k
  · rename_i y x r
    have k := k hn w1 (wfs_c (ti_R _) (wfs_t (wfs_t w2))) H locs la hW hS hl
    refine lv_ishr hx hb d ?_
    have k : W p l e R s m args below meth c H locs u.1 u.2 Qm (F0 m (pc + 1) la (.int (Int32.ofInt (shr x y)) :: r.map (dv G))) := k
    unfold shr at k
    rw [oi_ti] at k
    exact k
  · exact k.elim
theorem r_iand (hx : p.tables.exec = Jvm.exec) (hb : c.code = cc) (d : decode cc pc = .ok (.iand, 1)) (k : s_bin ian (VW p l e R s m args below meth c Qm G fr nL (pc + 1)) u ls st σ) : VW p l e R s m args below meth c Qm G fr nL pc u ls st σ := by
  intro hn w1 w2 H locs la hW hS hl
  unfold s_bin at k
  split at k
  · rename_i y x r
    have k := k hn w1 (wfs_c (ti_R _) (wfs_t (wfs_t w2))) H locs la hW hS hl
    refine lv_iand hx hb d ?_
    have k : W p l e R s m args below meth c H locs u.1 u.2 Qm (F0 m (pc + 1) la (.int (Int32.ofInt (ian x y)) :: r.map (dv G))) := k
    unfold ian at k
    rw [oi_ti] at k
    exact k
  · exact k.elim
theorem r_ior (hx : p.tables.exec = Jvm.exec) (hb : c.code = cc) (d : decode cc pc = .ok (.ior, 1)) (k : s_bin ior (VW p l e R s m args below meth c Qm G fr nL (pc + 1)) u ls st σ) : VW p l e R s m args below meth c Qm G fr nL pc u ls st σ := by
  intro hn w1 w2 H locs la hW hS hl
  unfold s_bin at k
  split at k
  · rename_i y x r
    have k := k hn w1 (wfs_c (ti_R _) (wfs_t (wfs_t w2))) H locs la hW hS hl
    refine lv_ior hx hb d ?_
    have k : W p l e R s m args below meth c H locs u.1 u.2 Qm (F0 m (pc + 1) la (.int (Int32.ofInt (ior x y)) :: r.map (dv G))) := k
    unfold ior at k
    rw [oi_ti] at k
    exact k
  · exact k.elim
theorem r_ixor (hx : p.tables.exec = Jvm.exec) (hb : c.code = cc) (d : decode cc pc = .ok (.ixor, 1)) (k : s_bin ixr (VW p l e R s m args below meth c Qm G fr nL (pc + 1)) u ls st σ) : VW p l e R s m args below meth c Qm G fr nL pc u ls st σ := by
  intro hn w1 w2 H locs la hW hS hl
  unfold s_bin at k
  split at k
  · rename_i y x r
    have k := k hn w1 (wfs_c (ti_R _) (wfs_t (wfs_t w2))) H locs la hW hS hl
    refine lv_ixor hx hb d ?_
    have k : W p l e R s m args below meth c H locs u.1 u.2 Qm (F0 m (pc + 1) la (.int (Int32.ofInt (ixr x y)) :: r.map (dv G))) := k
    unfold ixr at k
    rw [oi_ti] at k
    exact k
  · exact k.elim
theorem r_idiv (hx : p.tables.exec = Jvm.exec) (hb : c.code = cc) (d : decode cc pc = .ok (.idiv, 1)) (k : s_div idv (VW p l e R s m args below meth c Qm G fr nL (pc + 1)) u ls st σ) : VW p l e R s m args below meth c Qm G fr nL pc u ls st σ := by
  intro hn w1 w2 H locs la hW hS hl
  unfold s_div at k
  split at k
  · rename_i y x r
    obtain ⟨hy, k⟩ := k
    have hy2 : ¬ Int32.ofInt y = 0 := fun q => hy ((oi_eq (wfs_h w2) iR_0).mp q)
    have k := k hn w1 (wfs_c (ti_R _) (wfs_t (wfs_t w2))) H locs la hW hS hl
    refine lv_idiv hx hb d hy2 ?_
    have k : W p l e R s m args below meth c H locs u.1 u.2 Qm (F0 m (pc + 1) la (.int (Int32.ofInt (idv x y)) :: r.map (dv G))) := k
    unfold idv at k
    rw [oi_ti] at k
    exact k
  · exact k.elim
theorem r_irem (hx : p.tables.exec = Jvm.exec) (hb : c.code = cc) (d : decode cc pc = .ok (.irem, 1)) (k : s_div irm (VW p l e R s m args below meth c Qm G fr nL (pc + 1)) u ls st σ) : VW p l e R s m args below meth c Qm G fr nL pc u ls st σ := by
  intro hn w1 w2 H locs la hW hS hl
  unfold s_div at k
  split at k
  · rename_i y x r
    obtain ⟨hy, k⟩ := k
    have hy2 : ¬ Int32.ofInt y = 0 := fun q => hy ((oi_eq (wfs_h w2) iR_0).mp q)
    have k := k hn w1 (wfs_c (ti_R _) (wfs_t (wfs_t w2))) H locs la hW hS hl
    refine lv_irem hx hb d hy2 ?_
    have k : W p l e R s m args below meth c H locs u.1 u.2 Qm (F0 m (pc + 1) la (.int (Int32.ofInt (irm x y)) :: r.map (dv G))) := k
    unfold irm at k
    rw [oi_ti] at k
    exact k
  · exact k.elim
theorem r_iushr (hx : p.tables.exec = Jvm.exec) (hb : c.code = cc) (d : decode cc pc = .ok (.iushr, 1)) (k : s_bin ush (VW p l e R s m args below meth c Qm G fr nL (pc + 1)) u ls st σ) : VW p l e R s m args below meth c Qm G fr nL pc u ls st σ := by
  intro hn w1 w2 H locs la hW hS hl
  unfold s_bin at k
  split at k
  · rename_i y x r
    have k := k hn w1 (wfs_c (ti_R _) (wfs_t (wfs_t w2))) H locs la hW hS hl
    exact lv_iushr hx hb d (oi_ti _).symm k
  · exact k.elim
theorem r_i2c (hx : p.tables.exec = Jvm.exec) (hb : c.code = cc) (d : decode cc pc = .ok (.i2c, 1)) (k : s_un i2c (VW p l e R s m args below meth c Qm G fr nL (pc + 1)) u ls st σ) : VW p l e R s m args below meth c Qm G fr nL pc u ls st σ := by
  intro hn w1 w2 H locs la hW hS hl
  unfold s_un at k
  split at k
  · rename_i x r
    have k := k hn w1 (wfs_c (ti_R _) (wfs_t w2)) H locs la hW hS hl
    exact lv_i2c hx hb d (oi_ti _).symm k
  · exact k.elim
theorem r_i2l (hx : p.tables.exec = Jvm.exec) (hb : c.code = cc) (d : decode cc pc = .ok (.i2l, 1)) (k : s_i2l (VW p l e R s m args below meth c Qm G fr nL (pc + 1)) u ls st σ) : VW p l e R s m args below meth c Qm G fr nL pc u ls st σ := by
  intro hn w1 w2 H locs la hW hS hl
  unfold s_i2l at k
  split at k
  · rename_i x r
    have k := k hn w1 (wfs_c (v := .inr (.inl x)) (iR_l (wfs_h w2)) (wfs_t w2)) H locs la hW hS hl
    exact lv_i2l hx hb d (oi_lng (wfs_h w2)) k
  · exact k.elim
theorem r_lcmp (hx : p.tables.exec = Jvm.exec) (hb : c.code = cc) (d : decode cc pc = .ok (.lcmp, 1)) (k : s_lcmp (VW p l e R s m args below meth c Qm G fr nL (pc + 1)) u ls st σ) : VW p l e R s m args below meth c Qm G fr nL pc u ls st σ := by
  intro hn w1 w2 H locs la hW hS hl
  unfold s_lcmp at k
  split at k
  · rename_i y x r
    have k := k hn w1 (wfs_c (v := .inl (cmp x y)) (cmp_R x y) (wfs_t (wfs_t w2))) H locs la hW hS hl
    refine W.lcmp hx hb d ?_
    rw [ol_cmp (wfs_h (wfs_t w2)) (wfs_h w2)]
    exact k
  · exact k.elim
theorem r_ladd (hx : p.tables.exec = Jvm.exec) (hb : c.code = cc) (d : decode cc pc = .ok (.ladd, 1)) (k : s_lbin (fun x y => wrL (x + y)) (VW p l e R s m args below meth c Qm G fr nL (pc + 1)) u ls st σ) : VW p l e R s m args below meth c Qm G fr nL pc u ls st σ := by
  intro hn w1 w2 H locs la hW hS hl
  unfold s_lbin at k
  split at k
  · rename_i y x r
    have k := k hn w1 (wfs_c (v := .inr (.inl _)) (wrL_R _) (wfs_t (wfs_t w2))) H locs la hW hS hl
    refine lv_ladd hx hb d ?_
    rw [ol_add]
    exact k
  · exact k.elim
theorem r_lsub (hx : p.tables.exec = Jvm.exec) (hb : c.code = cc) (d : decode cc pc = .ok (.lsub, 1)) (k : s_lbin (fun x y => wrL (x - y)) (VW p l e R s m args below meth c Qm G fr nL (pc + 1)) u ls st σ) : VW p l e R s m args below meth c Qm G fr nL pc u ls st σ := by
  intro hn w1 w2 H locs la hW hS hl
  unfold s_lbin at k
  split at k
  · rename_i y x r
    have k := k hn w1 (wfs_c (v := .inr (.inl _)) (wrL_R _) (wfs_t (wfs_t w2))) H locs la hW hS hl
    refine lv_lsub hx hb d ?_
    rw [ol_sub]
    exact k
  · exact k.elim
theorem r_lor (hx : p.tables.exec = Jvm.exec) (hb : c.code = cc) (d : decode cc pc = .ok (.lor, 1)) (k : s_lbin lio (VW p l e R s m args below meth c Qm G fr nL (pc + 1)) u ls st σ) : VW p l e R s m args below meth c Qm G fr nL pc u ls st σ := by
  intro hn w1 w2 H locs la hW hS hl
  unfold s_lbin at k
  split at k
  · rename_i y x r
    have k := k hn w1 (wfs_c (v := .inr (.inl _)) (tl_R _) (wfs_t (wfs_t w2))) H locs la hW hS hl
    refine lv_lor hx hb d ?_
    have k : W p l e R s m args below meth c H locs u.1 u.2 Qm (F0 m (pc + 1) la (.long (Int64.ofInt (lio x y)) :: r.map (dv G))) := k
    unfold lio at k
    rw [ol_tl] at k
    exact k
  · exact k.elim
theorem r_lshl (hx : p.tables.exec = Jvm.exec) (hb : c.code = cc) (d : decode cc pc = .ok (.lshl, 1)) (k : s_lshl (VW p l e R s m args below meth c Qm G fr nL (pc + 1)) u ls st σ) : VW p l e R s m args below meth c Qm G fr nL pc u ls st σ := by
  intro hn w1 w2 H locs la hW hS hl
  unfold s_lshl at k
  split at k
  · rename_i y x r
    have k := k hn w1 (wfs_c (v := .inr (.inl _)) (tl_R _) (wfs_t (wfs_t w2))) H locs la hW hS hl
    exact lv_lshl hx hb d (ol_tl _).symm k
  · exact k.elim
theorem r_if_eq (hx : p.tables.exec = Jvm.exec) (hb : c.code = cc) {a : Int} {tgt : Nat} (d : decode cc pc = .ok (.ifCond .eq a, 3)) (ht : (pc : Int) + a = (tgt : Int)) (k : s_if (fun x => x = 0) (VW p l e R s m args below meth c Qm G fr nL tgt) (VW p l e R s m args below meth c Qm G fr nL (pc + 3)) u ls st σ) : VW p l e R s m args below meth c Qm G fr nL pc u ls st σ := by
  intro hn w1 w2 H locs la hW hS hl
  unfold s_if at k
  split at k
  · rename_i x r
    have hx0 : iR x := wfs_h w2
    have e := oi_eq hx0 iR_0
    exact lv_if_eq hx hb d ht (fun q => k.1 (e.mp q) hn w1 (wfs_t w2) H locs la hW hS hl) (fun q => k.2 (fun z => q (e.mpr z)) hn w1 (wfs_t w2) H locs la hW hS hl)
  · exact k.elim
theorem r_if_ne (hx : p.tables.exec = Jvm.exec) (hb : c.code = cc) {a : Int} {tgt : Nat} (d : decode cc pc = .ok (.ifCond .ne a, 3)) (ht : (pc : Int) + a = (tgt : Int)) (k : s_if (fun x => x ≠ 0) (VW p l e R s m args below meth c Qm G fr nL tgt) (VW p l e R s m args below meth c Qm G fr nL (pc + 3)) u ls st σ) : VW p l e R s m args below meth c Qm G fr nL pc u ls st σ := by
  intro hn w1 w2 H locs la hW hS hl
  unfold s_if at k
  split at k
  · rename_i x r
    have hx0 : iR x := wfs_h w2
    have e := not_congr (oi_eq hx0 iR_0)
    exact lv_if_ne hx hb d ht (fun q => k.1 (e.mp q) hn w1 (wfs_t w2) H locs la hW hS hl) (fun q => k.2 (fun z => z ((oi_eq hx0 iR_0).mp q)) hn w1 (wfs_t w2) H locs la hW hS hl)
  · exact k.elim
theorem r_if_lt (hx : p.tables.exec = Jvm.exec) (hb : c.code = cc) {a : Int} {tgt : Nat} (d : decode cc pc = .ok (.ifCond .lt a, 3)) (ht : (pc : Int) + a = (tgt : Int)) (k : s_if (fun x => x < 0) (VW p l e R s m args below meth c Qm G fr nL tgt) (VW p l e R s m args below meth c Qm G fr nL (pc + 3)) u ls st σ) : VW p l e R s m args below meth c Qm G fr nL pc u ls st σ := by
  intro hn w1 w2 H locs la hW hS hl
  unfold s_if at k
  split at k
  · rename_i x r
    have hx0 : iR x := wfs_h w2
    have e := oi_lt hx0 iR_0
    exact lv_if_lt hx hb d ht (fun q => k.1 (e.mp q) hn w1 (wfs_t w2) H locs la hW hS hl) (fun q => k.2 (fun z => q (e.mpr z)) hn w1 (wfs_t w2) H locs la hW hS hl)
  · exact k.elim
theorem r_if_ge (hx : p.tables.exec = Jvm.exec) (hb : c.code = cc) {a : Int} {tgt : Nat} (d : decode cc pc = .ok (.ifCond .ge a, 3)) (ht : (pc : Int) + a = (tgt : Int)) (k : s_if (fun x => 0 ≤ x) (VW p l e R s m args below meth c Qm G fr nL tgt) (VW p l e R s m args below meth c Qm G fr nL (pc + 3)) u ls st σ) : VW p l e R s m args below meth c Qm G fr nL pc u ls st σ := by
  intro hn w1 w2 H locs la hW hS hl
  unfold s_if at k
  split at k
  · rename_i x r
    have hx0 : iR x := wfs_h w2
    have e := oi_le iR_0 hx0
    exact lv_if_ge hx hb d ht (fun q => k.1 (e.mp q) hn w1 (wfs_t w2) H locs la hW hS hl) (fun q => k.2 (fun z => q (e.mpr z)) hn w1 (wfs_t w2) H locs la hW hS hl)
  · exact k.elim
theorem r_if_gt (hx : p.tables.exec = Jvm.exec) (hb : c.code = cc) {a : Int} {tgt : Nat} (d : decode cc pc = .ok (.ifCond .gt a, 3)) (ht : (pc : Int) + a = (tgt : Int)) (k : s_if (fun x => 0 < x) (VW p l e R s m args below meth c Qm G fr nL tgt) (VW p l e R s m args below meth c Qm G fr nL (pc + 3)) u ls st σ) : VW p l e R s m args below meth c Qm G fr nL pc u ls st σ := by
  intro hn w1 w2 H locs la hW hS hl
  unfold s_if at k
  split at k
  · rename_i x r
    have hx0 : iR x := wfs_h w2
    have e := oi_lt iR_0 hx0
    exact lv_if_gt hx hb d ht (fun q => k.1 (e.mp q) hn w1 (wfs_t w2) H locs la hW hS hl) (fun q => k.2 (fun z => q (e.mpr z)) hn w1 (wfs_t w2) H locs la hW hS hl)
  · exact k.elim
theorem r_if_le (hx : p.tables.exec = Jvm.exec) (hb : c.code = cc) {a : Int} {tgt : Nat} (d : decode cc pc = .ok (.ifCond .le a, 3)) (ht : (pc : Int) + a = (tgt : Int)) (k : s_if (fun x => x ≤ 0) (VW p l e R s m args below meth c Qm G fr nL tgt) (VW p l e R s m args below meth c Qm G fr nL (pc + 3)) u ls st σ) : VW p l e R s m args below meth c Qm G fr nL pc u ls st σ := by
  intro hn w1 w2 H locs la hW hS hl
  unfold s_if at k
  split at k
  · rename_i x r
    have hx0 : iR x := wfs_h w2
    have e := oi_le hx0 iR_0
    exact lv_if_le hx hb d ht (fun q => k.1 (e.mp q) hn w1 (wfs_t w2) H locs la hW hS hl) (fun q => k.2 (fun z => q (e.mpr z)) hn w1 (wfs_t w2) H locs la hW hS hl)
  · exact k.elim
theorem r_icmp_eq (hx : p.tables.exec = Jvm.exec) (hb : c.code = cc) {a : Int} {tgt : Nat} (d : decode cc pc = .ok (.if_icmp .eq a, 3)) (ht : (pc : Int) + a = (tgt : Int)) (k : s_icmp (fun x y => x = y) (VW p l e R s m args below meth c Qm G fr nL tgt) (VW p l e R s m args below meth c Qm G fr nL (pc + 3)) u ls st σ) : VW p l e R s m args below meth c Qm G fr nL pc u ls st σ := by
  intro hn w1 w2 H locs la hW hS hl
  unfold s_icmp at k
  split at k
  · rename_i y x r
    have hx0 : iR x := wfs_h (wfs_t w2)
    have hy0 : iR y := wfs_h w2
    have e := oi_eq hx0 hy0
    exact lv_icmp_eq hx hb d ht (fun q => k.1 (e.mp q) hn w1 (wfs_t (wfs_t w2)) H locs la hW hS hl) (fun q => k.2 (fun z => q (e.mpr z)) hn w1 (wfs_t (wfs_t w2)) H locs la hW hS hl)
  · exact k.elim
theorem r_icmp_ne (hx : p.tables.exec = Jvm.exec) (hb : c.code = cc) {a : Int} {tgt : Nat} (d : decode cc pc = .ok (.if_icmp .ne a, 3)) (ht : (pc : Int) + a = (tgt : Int)) (k : s_icmp (fun x y => x ≠ y) (VW p l e R s m args below meth c Qm G fr nL tgt) (VW p l e R s m args below meth c Qm G fr nL (pc + 3)) u ls st σ) : VW p l e R s m args below meth c Qm G fr nL pc u ls st σ := by
  intro hn w1 w2 H locs la hW hS hl
  unfold s_icmp at k
  split at k
  · rename_i y x r
    have hx0 : iR x := wfs_h (wfs_t w2)
    have hy0 : iR y := wfs_h w2
    have e := not_congr (oi_eq hx0 hy0)
    exact lv_icmp_ne hx hb d ht (fun q => k.1 (e.mp q) hn w1 (wfs_t (wfs_t w2)) H locs la hW hS hl) (fun q => k.2 (fun z => z ((oi_eq hx0 hy0).mp q)) hn w1 (wfs_t (wfs_t w2)) H locs la hW hS hl)
  · exact k.elim
theorem r_icmp_lt (hx : p.tables.exec = Jvm.exec) (hb : c.code = cc) {a : Int} {tgt : Nat} (d : decode cc pc = .ok (.if_icmp .lt a, 3)) (ht : (pc : Int) + a = (tgt : Int)) (k : s_icmp (fun x y => x < y) (VW p l e R s m args below meth c Qm G fr nL tgt) (VW p l e R s m args below meth c Qm G fr nL (pc + 3)) u ls st σ) : VW p l e R s m args below meth c Qm G fr nL pc u ls st σ := by
  intro hn w1 w2 H locs la hW hS hl
  unfold s_icmp at k
  split at k
  · rename_i y x r
    have hx0 : iR x := wfs_h (wfs_t w2)
    have hy0 : iR y := wfs_h w2
    have e := oi_lt hx0 hy0
    exact lv_icmp_lt hx hb d ht (fun q => k.1 (e.mp q) hn w1 (wfs_t (wfs_t w2)) H locs la hW hS hl) (fun q => k.2 (fun z => q (e.mpr z)) hn w1 (wfs_t (wfs_t w2)) H locs la hW hS hl)
  · exact k.elim
theorem r_icmp_ge (hx : p.tables.exec = Jvm.exec) (hb : c.code = cc) {a : Int} {tgt : Nat} (d : decode cc pc = .ok (.if_icmp .ge a, 3)) (ht : (pc : Int) + a = (tgt : Int)) (k : s_icmp (fun x y => y ≤ x) (VW p l e R s m args below meth c Qm G fr nL tgt) (VW p l e R s m args below meth c Qm G fr nL (pc + 3)) u ls st σ) : VW p l e R s m args below meth c Qm G fr nL pc u ls st σ := by
  intro hn w1 w2 H locs la hW hS hl
  unfold s_icmp at k
  split at k
  · rename_i y x r
    have hx0 : iR x := wfs_h (wfs_t w2)
    have hy0 : iR y := wfs_h w2
    have e := oi_le hy0 hx0
    exact lv_icmp_ge hx hb d ht (fun q => k.1 (e.mp q) hn w1 (wfs_t (wfs_t w2)) H locs la hW hS hl) (fun q => k.2 (fun z => q (e.mpr z)) hn w1 (wfs_t (wfs_t w2)) H locs la hW hS hl)
  · exact k.elim
theorem r_icmp_gt (hx : p.tables.exec = Jvm.exec) (hb : c.code = cc) {a : Int} {tgt : Nat} (d : decode cc pc = .ok (.if_icmp .gt a, 3)) (ht : (pc : Int) + a = (tgt : Int)) (k : s_icmp (fun x y => y < x) (VW p l e R s m args below meth c Qm G fr nL tgt) (VW p l e R s m args below meth c Qm G fr nL (pc + 3)) u ls st σ) : VW p l e R s m args below meth c Qm G fr nL pc u ls st σ := by
  intro hn w1 w2 H locs la hW hS hl
  unfold s_icmp at k
  split at k
  · rename_i y x r
    have hx0 : iR x := wfs_h (wfs_t w2)
    have hy0 : iR y := wfs_h w2
    have e := oi_lt hy0 hx0
    exact lv_icmp_gt hx hb d ht (fun q => k.1 (e.mp q) hn w1 (wfs_t (wfs_t w2)) H locs la hW hS hl) (fun q => k.2 (fun z => q (e.mpr z)) hn w1 (wfs_t (wfs_t w2)) H locs la hW hS hl)
  · exact k.elim
theorem r_icmp_le (hx : p.tables.exec = Jvm.exec) (hb : c.code = cc) {a : Int} {tgt : Nat} (d : decode cc pc = .ok (.if_icmp .le a, 3)) (ht : (pc : Int) + a = (tgt : Int)) (k : s_icmp (fun x y => x ≤ y) (VW p l e R s m args below meth c Qm G fr nL tgt) (VW p l e R s m args below meth c Qm G fr nL (pc + 3)) u ls st σ) : VW p l e R s m args below meth c Qm G fr nL pc u ls st σ := by
  intro hn w1 w2 H locs la hW hS hl
  unfold s_icmp at k
  split at k
  · rename_i y x r
    have hx0 : iR x := wfs_h (wfs_t w2)
    have hy0 : iR y := wfs_h w2
    have e := oi_le hx0 hy0
    exact lv_icmp_le hx hb d ht (fun q => k.1 (e.mp q) hn w1 (wfs_t (wfs_t w2)) H locs la hW hS hl) (fun q => k.2 (fun z => q (e.mpr z)) hn w1 (wfs_t (wfs_t w2)) H locs la hW hS hl)
  · exact k.elim
end DR2
