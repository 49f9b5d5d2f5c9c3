/-! EVERY METHOD KEEPS ITS CONTRACT, if its items fit its bytes and the tables -/
section MTH
variable {p : Program} {l : Launch} {e : Env} {R : Room} {s : State} {m : MethodId} {args : Array Value} {below : List Frame} {meth : Method} {c : Code} {G : dG} {fr : Bool} {nL pc : Nat} {cc : ByteArray} {u : Nat × Nat} {ls : dL} {st : List dX} {σ : dS} {B : Nat × Nat} {Q : dR → dS → Prop} {ret : Option FieldType}
theorem e_iret (hx : p.tables.exec = Jvm.exec) (hb : c.code = cc) (hr : meth.sig.returnType = ret) (hlocks : meth.locks = false) {z : Nat} (d : decode cc pc = .ok (.ireturn, 1)) (hz : z = 0 ∧ ret = some .int ∨ z = 1 ∧ ret = some .boolean) (k : s_iret B Q z u ls st σ) : VW p l e R s m args below meth c (vx_MQ below (dQc G fr Q) (dXC G fr Q) args s B.1 B.2 (rg G)) G fr nL pc u ls st σ := by
  intro hn w1 w2 H locs la hW hS hl
  unfold s_iret at k
  split at k
  · rename_i x
    obtain ⟨h1, h2, h3, k⟩ := k
    refine vx_ret (W.widen (k := B.1) (n := B.2) h1 h2 ?_)
    have hq : ∀ t : State, t.heap = H → s.WarmedH t.vm → dQc G fr Q args s (.returned (some (.int (Int32.ofInt x)))) t := fun t ht _ => ⟨⟨some (.inl x), σ, rfl, fun v hv => by cases hv; exact wfs_h w2, k, by rw [ht]; exact hW⟩, hS.F ht⟩
    have hf : ∀ q ∈ locs, rg G q.base := hS.2.2
    rcases hz with ⟨rfl, rfl⟩ | ⟨rfl, rfl⟩
    · exact W.iret hx hb hr hq hf d hlocks
    · exact W.zret hx hb hr (nz_b (h3 rfl)).1 hq hf d hlocks
  · exact k.elim
theorem e_lret (hx : p.tables.exec = Jvm.exec) (hb : c.code = cc) (hr : meth.sig.returnType = ret) (hlocks : meth.locks = false) (d : decode cc pc = .ok (.lreturn, 1)) (hz : ret = some .long) (k : s_lret B Q u ls st σ) : VW p l e R s m args below meth c (vx_MQ below (dQc G fr Q) (dXC G fr Q) args s B.1 B.2 (rg G)) G fr nL pc u ls st σ := by
  intro hn w1 w2 H locs la hW hS hl
  unfold s_lret at k
  split at k
  · rename_i x
    obtain ⟨h1, h2, k⟩ := k
    subst hz
    refine vx_ret (W.widen (k := B.1) (n := B.2) h1 h2 ?_)
    exact W.lret hx hb hr (fun t ht _ => ⟨⟨some (.inr (.inl x)), σ, rfl, fun v hv => by cases hv; exact wfs_h w2, k, by rw [ht]; exact hW⟩, hS.F ht⟩) hS.2.2 d hlocks
  · exact k.elim
theorem e_vret (hx : p.tables.exec = Jvm.exec) (hb : c.code = cc) (hr : meth.sig.returnType = ret) (hlocks : meth.locks = false) (d : decode cc pc = .ok (.return_, 1)) (hz : ret = none) (k : s_vret B Q u ls st σ) : VW p l e R s m args below meth c (vx_MQ below (dQc G fr Q) (dXC G fr Q) args s B.1 B.2 (rg G)) G fr nL pc u ls st σ := by
  intro hn w1 w2 H locs la hW hS hl
  unfold s_vret at k
  split at k
  · obtain ⟨h1, h2, k⟩ := k
    subst hz
    refine vx_ret (W.widen (k := B.1) (n := B.2) h1 h2 ?_)
    exact W.vret hx hb hr (fun t ht _ => ⟨⟨none, σ, rfl, fun v hv => (by cases hv), k, by rw [ht]; exact hW⟩, hS.F ht⟩) hS.2.2 d hlocks
  · exact k.elim
theorem e_thr (hno : ∀ x ∈ c.exceptionTable.toList, False) (hlocks : meth.locks = false) : okThr p l e R s m args below meth c (vx_MQ below (dQc G fr Q) (dXC G fr Q) args s B.1 B.2 (rg G)) G fr nL B Q :=
  fun _ x σ' _ _ _ _ _ _ _ _ h1 h2 hQ hW hS hc hv hcl => vx_out (fun z hz => (hno z hz).elim) hlocks hc hv hcl (fun t ht _ => ⟨x, σ', rfl, hQ, by rw [ht]; exact hW, hS.F ht⟩) hS.2.2 h1 h2
end MTH
def rx13 : ByteArray := ⟨#[0x2a, 0x2b, 0xb7, 0x00, 0x0d, 0xb1]⟩
def exA (e : Nat) : List Cond := if e = 0 then (dx_atoms "WingTrams" 207 (exn 0) 13 rx13 "java/lang/RuntimeException" ["java/lang/Exception"]).filter vx_no else (dx_atoms "WingTrams" 116 (exn 1) 7 Bundle.six "java/lang/RuntimeException" ["java/lang/Exception"]).filter vx_no
theorem exA_chk : ([0, 1].all (fun e => (exA e).all (fun w => lw_tbl.contains w && goodWord w || NWs.contains w))) = true := by decide +kernel
theorem exA_ot : ([0, 1].all (fun e => (Cond.classLink "WingTrams" (if e = 0 then 203 else 112) (exn e) :: Cond.initialized (exn e) :: exA e).all vx_ot)) = true := by decide +kernel
theorem exA_l : ([0, 1].all (fun e => [Cond.classLink "WingTrams" (if e = 0 then 203 else 112) (exn e), Cond.initialized (exn e)].all (fun w => lw_tbl.contains w && goodWord w))) = true := by decide +kernel
theorem mem_g {w : Cond} (h : (lw_tbl.contains w && goodWord w) = true) : w ∈ TBg := by
  rw [Bool.and_eq_true] at h
  exact List.mem_filter.mpr ⟨List.contains_iff_mem.mp h.1, h.2⟩
theorem Wd.kept {G : dG} {σ : dS} {H H1 : Heap} (h : Wd G false σ H) (hz : H.size ≤ H1.size) (hk : ∀ q : Nat, q < H.size → H1[q]? = H[q]?) : Wd G false σ H1 := by
  obtain ⟨h1, h2, h3, h4, -⟩ := h
  exact ⟨h1.kept (fun k q hq => hk q.1 (h1 k q hq).lt), h2, h3, Nat.le_trans h4 hz, fun q => by cases q⟩
section THR
variable {p : Program} {l : Launch} {e : Env} {R : Room} {s : State} {m : MethodId} {args : Array Value} {below : List Frame} {meth : Method} {c : Code} {G : dG} {fr : Bool} {nL pc : Nat} {cc : ByteArray} {u : Nat × Nat} {ls : dL} {st : List dX} {σ : dS} {B : Nat × Nat} {Q : dR → dS → Prop} {ret : Option FieldType}
theorem e_throw1 (hx : p.tables.exec = Jvm.exec) (hb : c.code = cc) (hml : c.maxLocals = nL) (hl0 : l.stackTraces = false) (hts : ∀ w ∈ TBg, w.before args s = true) (hown : s.vm.findClass "WingTrams" = some m.cls) (hE : dEv G s s.heap) (hno : ∀ x ∈ c.exceptionTable.toList, False) (hlocks : meth.locks = false) (hB : B.1 ≤ R.cells ∧ B.2 ≤ R.slots) (hRf : 20 ≤ R.frames) (hRl : 400 ≤ R.locals)
    {ex ik is ic ix nw : Nat} {tx : String} {rx : ByteArray} (x0 : decode rx 0 = .ok (.aload_n 0, 1)) (x1 : decode rx 1 = .ok (.aload_n 1, 1)) (x2 : decode rx 2 = .ok (.invokespecial ix, 3)) (x5 : decode rx 5 = .ok (.return_, 1)) (hfit : Bundle.fit (exn ex) = true)
    (hk : Cond.classLink "WingTrams" ik (exn ex) ∈ TBg) (hi : Cond.initialized (exn ex) ∈ TBg) (hat : ∀ w ∈ (dx_atoms "WingTrams" ic (exn ex) ix rx "java/lang/RuntimeException" ["java/lang/Exception"]).filter vx_no, w ∈ TBg ∨ w ∈ NWs) (hot : ∀ w ∈ Cond.classLink "WingTrams" ik (exn ex) :: Cond.initialized (exn ex) :: (dx_atoms "WingTrams" ic (exn ex) ix rx "java/lang/RuntimeException" ["java/lang/Exception"]).filter vx_no, vx_ot w = true)
    (hst : ("WingTrams", is, tx) ∈ STs) (d0 : decode cc pc = .ok (.new ik, 3)) (d3 : decode cc (pc + 3) = .ok (.dup, 1)) (d4 : nw = 2 ∧ decode cc (pc + 4) = .ok (.ldc is, 2) ∨ nw = 3 ∧ decode cc (pc + 4) = .ok (.ldc_w is, 3)) (d6 : decode cc (pc + 4 + nw) = .ok (.invokespecial ic, 3)) (d9 : decode cc (pc + 4 + nw + 3) = .ok (.athrow, 1)) (k : s_throw B Q ex u ls st σ) : VW p l e R s m args below meth c (vx_MQ below (dQc G false Q) (dXC G false Q) args s B.1 B.2 (rg G)) G false nL pc u ls st σ := by
  intro hn w1 w2 H locs la hW hS hl
  obtain ⟨h1, h2, h3, k⟩ := k
  obtain ⟨sa, hstr⟩ := hE.2.2.2.2.1 _ hst
  refine dx_makeS hx hb hl0 x0 x1 x2 x5 (sa := sa) (nw := nw) (text := tx) hown hfit (by decide +kernel) (by decide +kernel) (hts _ hk) (hts _ hi) hstr (fun w hw => ?_) hot hE.2.1 hE.2.2.1 hS (hl.1.trans hml.symm) d0 d3 d4 d6 (by show 1 + 4 < R.frames; omega) ?_ (by omega) (by omega) (fun q ce H1 g1 g2 g3 g4 g5 g6 => ?_)
  · rcases hat w hw with h | h
    · exact hts _ h
    · have hw2 := hE.2.2.2.1 w h
      have hon : w.onTables = true := by
        revert w
        unfold NWs
        intro w _ h _
        simp only [List.mem_cons, List.not_mem_nil, or_false] at h
        rcases h with rfl | rfl | rfl | rfl | rfl <;> rfl
      exact va_Nw.use hon hw2
  · rw [dv_cats, wt_sum]
    show _ + (13 * (1 + 2) + 43) ≤ _
    omega
  · refine vx_athrow hx hb d9 ?_
    exact vx_out (fun z hz => (hno z hz).elim) hlocks g1 g2 g3 (fun t ht _ => ⟨ex, σ, rfl, k, by rw [ht]; exact hW.kept g4 g5, g6.F ht⟩) g6.2.2 h1 h2
theorem e_throw (hx : p.tables.exec = Jvm.exec) (hb : c.code = cc) (hml : c.maxLocals = nL) (hl0 : l.stackTraces = false) (hts : ∀ w ∈ TBg, w.before args s = true) {own : String} (hown : s.vm.findClass own = some m.cls) (hE : dEv G s s.heap) (hno : ∀ x ∈ c.exceptionTable.toList, False) (hlocks : meth.locks = false) (hB : B.1 ≤ R.cells ∧ B.2 ≤ R.slots) (hRf : 20 ≤ R.frames) (hRl : 400 ≤ R.locals)
    {b : Nat} {a : Int} {tl : List Nat} (hc : chkX cc pc tl = true) (ho : okI own ret false fr 76 a b tl) (k : s_throw B Q (n0 tl 0) u ls st σ) : VW p l e R s m args below meth c (vx_MQ below (dQc G fr Q) (dXC G fr Q) args s B.1 B.2 (rg G)) G fr nL pc u ls st σ := by
  obtain ⟨rfl, rfl, tx, hst, ho⟩ := ho
  unfold chkX at hc
  rw [Bool.and_eq_true, Bool.and_eq_true] at hc
  obtain ⟨d0, d3, hc⟩ := hc
  have hc2 : ∃ nw : Nat, (nw = 2 ∧ decode cc (pc + 4) = .ok (.ldc (n0 tl 2), 2) ∨ nw = 3 ∧ decode cc (pc + 4) = .ok (.ldc_w (n0 tl 2), 3)) ∧ decode cc (pc + 4 + nw) = .ok (.invokespecial (n0 tl 3), 3) ∧ decode cc (pc + 4 + nw + 3) = .ok (.athrow, 1) := by
    split at hc
    · rw [Bool.and_eq_true, Bool.and_eq_true] at hc
      exact ⟨2, Or.inl ⟨rfl, dcd_at hc.1⟩, dcd_at hc.2.1, dcd_at hc.2.2⟩
    · rw [Bool.and_eq_true, Bool.and_eq_true] at hc
      exact ⟨3, Or.inr ⟨rfl, dcd_at hc.1⟩, dcd_at hc.2.1, dcd_at hc.2.2⟩
  obtain ⟨nw, d4, d6, d9⟩ := hc2
  have q1 := List.all_eq_true.mp exA_chk
  have q2 := List.all_eq_true.mp exA_ot
  have q3 := List.all_eq_true.mp exA_l
  rcases ho with ⟨e1, e2, e3⟩ | ⟨e1, e2, e3⟩
  · rw [e1] at k
    rw [e2] at d0
    rw [e3] at d6
    have a1 := List.all_eq_true.mp (q1 0 (by simp))
    have a2 := List.all_eq_true.mp (q2 0 (by simp))
    have a3 := List.all_eq_true.mp (q3 0 (by simp))
    exact e_throw1 hx hb hml hl0 hts hown hE hno hlocks hB hRf hRl (rx := rx13) (ix := 13) (by decide +kernel) (by decide +kernel) (by decide +kernel) (by decide +kernel) (by decide +kernel) (mem_g (a3 _ (by simp))) (mem_g (a3 _ (by simp)))
      (fun w hw => by
        have := a1 w hw
        rw [Bool.or_eq_true] at this
        exact this.imp mem_g List.contains_iff_mem.mp) (fun w hw => a2 w hw) hst (dcd_at d0) (dcd_at d3) d4 d6 d9 k
  · rw [e1] at k
    rw [e2] at d0
    rw [e3] at d6
    have a1 := List.all_eq_true.mp (q1 1 (by simp))
    have a2 := List.all_eq_true.mp (q2 1 (by simp))
    have a3 := List.all_eq_true.mp (q3 1 (by simp))
    exact e_throw1 hx hb hml hl0 hts hown hE hno hlocks hB hRf hRl (rx := Bundle.six) (ix := 7) (by decide +kernel) (by decide +kernel) (by decide +kernel) (by decide +kernel) (by decide +kernel) (mem_g (a3 _ (by simp))) (mem_g (a3 _ (by simp)))
      (fun w hw => by
        have := a1 w hw
        rw [Bool.or_eq_true] at this
        exact this.imp mem_g List.contains_iff_mem.mp) (fun w hw => a2 w hw) hst (dcd_at d0) (dcd_at d3) d4 d6 d9 k
end THR
/-- what is to be checked of a method's table -/
def okY (blk : Nat → Nat → List dI) (inf : Nat → Nat × Bool × (Nat × Nat)) (y : Nat) (q : dM) : Prop :=
  inf y = (q.2.2.1, q.2.2.2.2.2.2.2, q.2.2.2.2.2.2.1) ∧ plainFor q.1 = true ∧ ∃ pcs : List Nat, pcs[0]? = some 0 ∧ ∀ lb t, pcs[lb]? = some t → chk q.2.1 pcs t (blk y lb) = true ∧ ∀ it ∈ blk y lb, okI q.1.cls q.2.2.2.1 (q.1.name == "<init>") q.2.2.2.2.2.2.2 it.1 it.2.1 it.2.2.1 it.2.2.2
theorem dMet_all {l : Launch} {G : dG} (hl0 : l.stackTraces = false) {blk : Nat → Nat → List dI} {inf : Nat → Nat × Bool × (Nat × Nat)} (hok : ∀ (y : Nat) (q : dM), MT[y]? = some q → okY blk inf y q) : ∀ (d y : Nat) (q : dM), MT[y]? = some q → dMet l G d (fun as σ Q => wpm blk inf d y as σ Q) q
  | 0, _, _, _ => fun _ _ _ _ h => h.elim
  | d + 1, y, q, hq => by
    intro as σ Q was h
    obtain ⟨hinf, hpf, pcs, hp0, hchk⟩ := hok y q hq
    have okm : okM q := MT_ok q (List.mem_of_getElem? hq)
    obtain ⟨⟨hall, hlen⟩, hw⟩ := h
    rw [hinf] at hlen hw
    refine dx_ofW (cc := q.2.1) (maxL := q.2.2.1) (ret := q.2.2.2.1) hpf rfl ?_
    intro p e s m args below meth c s₁ BL hml hno hv
    obtain ⟨rfl, hW, hE⟩ := hv
    have hx := BL.exec
    have hb := BL.bytes
    have hr := BL.returns
    have hts0 := atoms_spec (ws := dWs q) BL.pre
    have hts : ∀ w ∈ TBg, w.before ((as.map (dv G)).toArray) s = true := fun w hw => hts0 w (List.mem_cons_of_mem _ hw)
    have hown : s.vm.findClass q.1.cls = some m.cls := findClass_of_methodNamed BL.named
    have hnm : meth.name = q.1.name := (name_of_methodNamed BL.named BL.method).1
    have hlocks := BL.notSynchronized
    have hc1 : ∀ v ∈ as, c1 v = true := fun v hv => List.all_eq_true.mp hall v hv
    have hsl : (lg_sl (as.map (dv G))).length = as.length := by
      rw [lg_len]
      exact c1_sum as hc1
    have hl := lv_entry (as.map (dv G)) (n := q.2.2.1) (by rw [hsl]; exact hlen)
    rw [lg_entry_eq]
    rw [kl_args G as 0 (q.2.2.1 - as.length) hc1] at hl
    generalize (lg_sl (as.map (dv G)) ++ List.replicate (q.2.2.1 - (lg_sl (as.map (dv G))).length) Slot.unset).toArray = la at hl ⊢
    have hP : ∀ (lb t : Nat), pcs[lb]? = some t → ∀ (u : Nat × Nat) (ls : dL) (st : List dX) (σ : dS), (∀ t : Nat, pcs[lb]? = some t → VW p l e (headSpec (dWs q) (dRm (d + 1) q.2.2.2.2.2.2.1.1 q.2.2.2.2.2.2.1.2)).room s m (as.map (dv G)).toArray below meth c (vx_MQ below (dQc G q.2.2.2.2.2.2.2 Q) (dXC G q.2.2.2.2.2.2.2 Q) (as.map (dv G)).toArray s q.2.2.2.2.2.2.1.1 q.2.2.2.2.2.2.1.2 (rg G)) G q.2.2.2.2.2.2.2 q.2.2.1 t u ls st σ) → VW p l e (headSpec (dWs q) (dRm (d + 1) q.2.2.2.2.2.2.1.1 q.2.2.2.2.2.2.1.2)).room s m (as.map (dv G)).toArray below meth c (vx_MQ below (dQc G q.2.2.2.2.2.2.2 Q) (dXC G q.2.2.2.2.2.2.2 Q) (as.map (dv G)).toArray s q.2.2.2.2.2.2.1.1 q.2.2.2.2.2.2.1.2 (rg G)) G q.2.2.2.2.2.2.2 q.2.2.1 t u ls st σ := fun lb t ht u ls st σ k => k t ht
    have hRf : d + 20 + 1 ≤ (headSpec (dWs q) (dRm (d + 1) q.2.2.2.2.2.2.1.1 q.2.2.2.2.2.2.1.2)).room.frames := by show d + 20 + 1 ≤ d + 1 + 20; omega
    have hRl : 60 * d + 460 ≤ (headSpec (dWs q) (dRm (d + 1) q.2.2.2.2.2.2.1.1 q.2.2.2.2.2.2.1.2)).room.locals := by show 60 * d + 460 ≤ 60 * (d + 1) + 400; exact Nat.le_of_eq (by rw [Nat.mul_add, Nat.add_assoc])
    have hB : (q.2.2.2.2.2.2.1).1 ≤ (headSpec (dWs q) (dRm (d + 1) q.2.2.2.2.2.2.1.1 q.2.2.2.2.2.2.1.2)).room.cells ∧ (q.2.2.2.2.2.2.1).2 ≤ (headSpec (dWs q) (dRm (d + 1) q.2.2.2.2.2.2.1.1 q.2.2.2.2.2.2.1.2)).room.slots := ⟨Nat.le_refl _, Nat.le_refl _⟩
    have hEnd : okEnd p l e (headSpec (dWs q) (dRm (d + 1) q.2.2.2.2.2.2.1.1 q.2.2.2.2.2.2.1.2)).room s m (as.map (dv G)).toArray below meth c (vx_MQ below (dQc G q.2.2.2.2.2.2.2 Q) (dXC G q.2.2.2.2.2.2.2 Q) (as.map (dv G)).toArray s q.2.2.2.2.2.2.1.1 q.2.2.2.2.2.2.1.2 (rg G)) G q.2.2.2.2.2.2.2 q.2.2.1 q.2.1 q.2.2.2.2.2.2.1 Q q.1.cls q.2.2.2.1 :=
      ⟨fun pc z u ls st σ d0 hz k => e_iret hx hb hr hlocks d0 hz k, fun pc u ls st σ d0 hz k => e_lret hx hb hr hlocks d0 hz k, fun pc u ls st σ d0 hz k => e_vret hx hb hr hlocks d0 hz k,
       fun pc b a tl u ls st σ hc ho k => e_throw hx hb hml hl0 hts hown hE hno hlocks hB (Nat.le_trans (by omega) hRf) (Nat.le_trans (Nat.le_trans (Nat.le_of_ble_eq_true rfl) (Nat.le_add_left 460 _)) hRl) hc ho k,
       fun pc u ls st σ ho d0 d1 k => e_tln hx hb hml hts (ho ▸ hown) hE hB (Nat.le_trans (Nat.le_add_left 20 d) (Nat.le_of_succ_le hRf)) (Nat.le_trans (Nat.le_add_left 460 _) hRl) d0 d1 k,
       fun pc b u ls st σ ho d0 d1 d2 k => e_tch hx hb hml hts (ho ▸ hown) hE hB (Nat.le_trans (Nat.le_add_left 20 d) (Nat.le_of_succ_le hRf)) (Nat.le_trans (Nat.le_add_left 460 _) hRl) d0 d1 d2 k,
       fun pc b u ls st σ ho d0 d1 d2 d3 k => e_tix hx hb hml hts (ho ▸ hown) hE hB (Nat.le_trans (Nat.le_add_left 20 d) (Nat.le_of_succ_le hRf)) (Nat.le_trans (Nat.le_add_left 460 _) hRl) d0 d1 d2 d3 k⟩
    have key := hw (fun lb u ls st σ => ∀ t : Nat, pcs[lb]? = some t → VW p l e (headSpec (dWs q) (dRm (d + 1) q.2.2.2.2.2.2.1.1 q.2.2.2.2.2.2.1.2)).room s m (as.map (dv G)).toArray below meth c (vx_MQ below (dQc G q.2.2.2.2.2.2.2 Q) (dXC G q.2.2.2.2.2.2.2 Q) (as.map (dv G)).toArray s q.2.2.2.2.2.2.1.1 q.2.2.2.2.2.2.1.2 (rg G)) G q.2.2.2.2.2.2.2 q.2.2.1 t u ls st σ)
      (fun lb u ls st σ k t ht => snd_items hx hb hml hts hown hE (init := q.1.name == "<init>") (fun hi => by rw [hnm]; exact eq_of_beq hi) hB hRf hRl (wpm_m blk inf d) (dMet_all hl0 hok d) (e_thr hno hlocks) hEnd hP (blk y lb) t (hchk lb t ht).1 (hchk lb t ht).2 u ls st σ k)
      0 hp0
    refine key ?_ ?_ (fun v hv => absurd hv List.not_mem_nil) s.heap [] la hW va_S.rf hl
    · rw [List.length_append, List.length_map, List.length_replicate]
      omega
    · intro i v hv
      by_cases hi : i < (as.map some).length
      · rw [List.getElem?_append_left hi, List.getElem?_map] at hv
        cases ha : as[i]? with
        | none => rw [ha] at hv; cases hv
        | some w =>
          rw [ha] at hv
          simp only [Option.map_some, Option.some.injEq] at hv
          subst hv
          exact was w (List.mem_of_getElem? ha)
      · rw [List.getElem?_append_right (by omega)] at hv
        have := List.mem_of_getElem? hv
        rw [List.mem_replicate] at this
        cases this.2
