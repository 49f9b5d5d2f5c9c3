/-! SOUND: what the items say, the machine does -/
section SND
variable {p : Program} {l : Launch} {e : Env} {R : Room} {s : State} {m : MethodId} {args : Array Value} {below : List Frame} {meth : Method} {c : Code} {Qm : State → Prop} {G : dG} {fr : Bool} {nL : Nat} {cc : ByteArray} {pcs : List Nat} {P : Nat → dK} {C : dC} {B : Nat × Nat} {Q : dR → dS → Prop} {own : String} {ret : Option FieldType} {init : Bool} {d : Nat}
/-- a throw ends the method, or is caught -/
def okThr (p : Program) (l : Launch) (e : Env) (R : Room) (s : State) (m : MethodId) (args : Array Value) (below : List Frame) (meth : Method) (c : Code) (Qm : State → Prop) (G : dG) (fr : Bool) (nL : Nat) (B : Nat × Nat) (Q : dR → dS → Prop) : Prop :=
  ∀ (pc x : Nat) (σ' : dS) (H1 : Heap) (locs1 : List Loc) (ce : Cell) (q9 : Addr) (la : Array Slot) (rest : List Value) (u' : Nat × Nat), la.size = nL → u'.1 ≤ B.1 → u'.2 ≤ B.2 → Q (.inr x) σ' → Wd G fr σ' H1 → va_S (rg G) s.heap H1 locs1 → H1[q9]? = some ce → ce.vm = .none → s.vm.findClass (exn x) = some ce.cls → vx_W p l e R s m args below meth c H1 locs1 u'.1 u'.2 Qm (F0 m pc la rest) q9
/-- the ends: returns, and throws made here -/
def okEnd (p : Program) (l : Launch) (e : Env) (R : Room) (s : State) (m : MethodId) (args : Array Value) (below : List Frame) (meth : Method) (c : Code) (Qm : State → Prop) (G : dG) (fr : Bool) (nL : Nat) (cc : ByteArray) (B : Nat × Nat) (Q : dR → dS → Prop) (own : String) (ret : Option FieldType) : Prop :=
  (∀ (pc z : Nat) (u : Nat × Nat) (ls : dL) (st : List dX) (σ : dS), decode cc pc = .ok (.ireturn, 1) → (z = 0 ∧ ret = some .int ∨ z = 1 ∧ ret = some .boolean) → s_iret B Q z u ls st σ → VW p l e R s m args below meth c Qm G fr nL pc u ls st σ) ∧
  (∀ (pc : Nat) (u : Nat × Nat) (ls : dL) (st : List dX) (σ : dS), decode cc pc = .ok (.lreturn, 1) → ret = some .long → s_lret B Q u ls st σ → VW p l e R s m args below meth c Qm G fr nL pc u ls st σ) ∧
  (∀ (pc : Nat) (u : Nat × Nat) (ls : dL) (st : List dX) (σ : dS), decode cc pc = .ok (.return_, 1) → ret = none → s_vret B Q u ls st σ → VW p l e R s m args below meth c Qm G fr nL pc u ls st σ) ∧
  (∀ (pc b : Nat) (a : Int) (tl : List Nat) (u : Nat × Nat) (ls : dL) (st : List dX) (σ : dS), chkX cc pc tl = true → okI own ret false fr 76 a b tl → s_throw B Q (n0 tl 0) u ls st σ → VW p l e R s m args below meth c Qm G fr nL pc u ls st σ) ∧
  (∀ (pc : Nat) (u : Nat × Nat) (ls : dL) (st : List dX) (σ : dS), own = "WingTrams$Tokens" → decode cc pc = .ok (.ldc 69, 2) → decode cc (pc + 2) = .ok (.invokevirtual 71, 3) → s_tln B 1 (VW p l e R s m args below meth c Qm G fr nL (pc + 5)) u ls st σ → VW p l e R s m args below meth c Qm G fr nL pc u ls st σ) ∧
  (∀ (pc b : Nat) (u : Nat × Nat) (ls : dL) (st : List dX) (σ : dS), own = "WingTrams$Tokens" → decode cc pc = .ok (.ldc 69, 2) → decode cc (pc + 2) = .ok (.iload b, 2) → decode cc (pc + 4) = .ok (.invokevirtual 75, 3) → s_tch B 1 b (VW p l e R s m args below meth c Qm G fr nL (pc + 7)) u ls st σ → VW p l e R s m args below meth c Qm G fr nL pc u ls st σ) ∧
  (∀ (pc b : Nat) (u : Nat × Nat) (ls : dL) (st : List dX) (σ : dS), own = "WingTrams$Tokens" → decode cc pc = .ok (.ldc 58, 2) → decode cc (pc + 2) = .ok (.iload b, 2) → decode cc (pc + 4) = .ok (.i2c, 1) → decode cc (pc + 5) = .ok (.invokevirtual 60, 3) → s_tix B 0 b (VW p l e R s m args below meth c Qm G fr nL (pc + 8)) u ls st σ → VW p l e R s m args below meth c Qm G fr nL pc u ls st σ)
theorem snd_item (hx : p.tables.exec = Jvm.exec) (hb : c.code = cc) (hml : c.maxLocals = nL) (hts : ∀ w ∈ TBg, w.before args s = true) (hown : s.vm.findClass own = some m.cls) (hE : dEv G s s.heap) (hinit : init = true → meth.name = "<init>") (hB : B.1 ≤ R.cells ∧ B.2 ≤ R.slots) (hRf : d + 20 + 1 ≤ R.frames) (hRl : 60 * d + 460 ≤ R.locals)
    (hM : ∀ (y : Nat) (q : dM), MT[y]? = some q → dMet l G d (fun as σ Q => C y as σ Q) q) (hT : okThr p l e R s m args below meth c Qm G fr nL B Q) (hEnd : okEnd p l e R s m args below meth c Qm G fr nL cc B Q own ret)
    (hP : ∀ lb t, pcs[lb]? = some t → ∀ u ls st σ, P lb u ls st σ → VW p l e R s m args below meth c Qm G fr nL t u ls st σ)
    {op : Nat} {a : Int} {b : Nat} {tl : List Nat} {pc : Nat} (hc : chkI cc pcs pc op a b tl = true) (ho : okI own ret init fr op a b tl) {u : Nat × Nat} {ls : dL} {st : List dX} {σ : dS} (k : stp fr B C P Q op a b tl (VW p l e R s m args below meth c Qm G fr nL (pc + lenI op)) u ls st σ) : VW p l e R s m args below meth c Qm G fr nL pc u ls st σ := by
  have hK := hE.1
  have hRl1 : 100 ≤ R.locals := Nat.le_trans (Nat.le_of_ble_eq_true rfl) (Nat.le_trans (Nat.le_add_left _ _) hRl)
  unfold stp at k
  split at k
  · simp only [chkI, Bool.and_eq_true, decide_eq_true_eq] at hc
    exact r_iconst hx hb (dcd_at hc.1) (rngI_R hc.2) k
  · simp only [chkI, Bool.and_eq_true, decide_eq_true_eq] at hc
    exact r_bipush hx hb (dcd_at hc.1) hc.2.1 (rngI_R hc.2.2) k
  · simp only [chkI, Bool.and_eq_true, decide_eq_true_eq] at hc
    exact r_sipush hx hb (dcd_at hc.1) hc.2.1 (rngI_R hc.2.2) k
  · simp only [chkI, Bool.and_eq_true, decide_eq_true_eq] at hc
    exact r_ldc hx hb hown (hts _ ho) (dcd_at hc.1) (rngI_R hc.2) k
  · simp only [chkI, Bool.and_eq_true, decide_eq_true_eq] at hc
    exact r_ldcw hx hb hown (hts _ ho) (dcd_at hc.1) (rngI_R hc.2) k
  · exact r_iload hx hb (dcd_at hc) k
  · simp only [chkI] at hc
    split at hc
    · exact r_iload_n hx hb rfl (dcd_at hc) k
    · cases hc
  · exact r_aload hx hb (dcd_at hc) k
  · simp only [chkI] at hc
    split at hc
    · exact r_aload_n hx hb rfl (dcd_at hc) k
    · cases hc
  · exact r_lload hx hb (dcd_at hc) k
  · simp only [chkI] at hc
    split at hc
    · exact r_lload_n hx hb rfl (dcd_at hc) k
    · cases hc
  · exact r_istore hx hb (dcd_at hc) k
  · simp only [chkI] at hc
    split at hc
    · exact r_istore_n hx hb rfl (dcd_at hc) k
    · cases hc
  · exact r_astore hx hb (dcd_at hc) k
  · simp only [chkI] at hc
    split at hc
    · exact r_astore_n hx hb rfl (dcd_at hc) k
    · cases hc
  · exact r_lstore hx hb (dcd_at hc) k
  · simp only [chkI] at hc
    split at hc
    · exact r_lstore_n hx hb rfl (dcd_at hc) k
    · cases hc
  · exact r_iinc hx hb (dcd_at hc) k
  · exact r_iadd hx hb (dcd_at hc) k
  · exact r_isub hx hb (dcd_at hc) k
  · exact r_imul hx hb (dcd_at hc) k
  · exact r_idiv hx hb (dcd_at hc) k
  · exact r_irem hx hb (dcd_at hc) k
  · exact r_ineg hx hb (dcd_at hc) k
  · exact r_ishl hx hb (dcd_at hc) k
  · exact r_ishr hx hb (dcd_at hc) k
  · exact r_iushr hx hb (dcd_at hc) k
  · exact r_iand hx hb (dcd_at hc) k
  · exact r_ior hx hb (dcd_at hc) k
  · exact r_ixor hx hb (dcd_at hc) k
  · exact r_i2l hx hb (dcd_at hc) k
  · exact r_i2c hx hb (dcd_at hc) k
  · exact r_lcmp hx hb (dcd_at hc) k
  · simp only [chkI] at hc
    split at hc
    · rename_i h9
      exact r_lconst hx hb (dcd_at hc) (by rw [h9]; rfl) (by rw [h9]; unfold lR; omega) k
    · split at hc
      · rename_i h9
        exact r_lconst hx hb (dcd_at hc) (by rw [h9]; rfl) (by rw [h9]; unfold lR; omega) k
      · cases hc
  · exact r_ladd hx hb (dcd_at hc) k
  · exact r_lsub hx hb (dcd_at hc) k
  · exact r_lshl hx hb (dcd_at hc) k
  · exact r_lor hx hb (dcd_at hc) k
  · simp only [chkI, Bool.and_eq_true, decide_eq_true_eq] at hc
    exact r_ldc2 hx hb hown (hts _ ho) (dcd_at hc.1) (iR_l (rngI_R hc.2)) k
  · exact r_dup hx hb (dcd_at hc) k
  · exact r_pop hx hb (dcd_at hc) k
  · exact r_dup2 hx hb (dcd_at hc) k
  · simp only [chkI, Bool.and_eq_true, decide_eq_true_eq] at hc
    obtain ⟨t, j1, j2⟩ := jmp_at hc.2
    exact r_goto hx hb (dcd_at hc.1) j2 (hP _ t j1 _ _ _ _ k)
  · simp only [chkI, Bool.and_eq_true, decide_eq_true_eq] at hc
    obtain ⟨t, j1, j2⟩ := jmp_at hc.2
    exact r_if_eq hx hb (dcd_at hc.1) j2 (s_if_m (hP _ t j1) (fun _ _ _ _ z => z) k)
  · simp only [chkI, Bool.and_eq_true, decide_eq_true_eq] at hc
    obtain ⟨t, j1, j2⟩ := jmp_at hc.2
    exact r_if_ne hx hb (dcd_at hc.1) j2 (s_if_m (hP _ t j1) (fun _ _ _ _ z => z) k)
  · simp only [chkI, Bool.and_eq_true, decide_eq_true_eq] at hc
    obtain ⟨t, j1, j2⟩ := jmp_at hc.2
    exact r_if_lt hx hb (dcd_at hc.1) j2 (s_if_m (hP _ t j1) (fun _ _ _ _ z => z) k)
  · simp only [chkI, Bool.and_eq_true, decide_eq_true_eq] at hc
    obtain ⟨t, j1, j2⟩ := jmp_at hc.2
    exact r_if_ge hx hb (dcd_at hc.1) j2 (s_if_m (hP _ t j1) (fun _ _ _ _ z => z) k)
  · simp only [chkI, Bool.and_eq_true, decide_eq_true_eq] at hc
    obtain ⟨t, j1, j2⟩ := jmp_at hc.2
    exact r_if_gt hx hb (dcd_at hc.1) j2 (s_if_m (hP _ t j1) (fun _ _ _ _ z => z) k)
  · simp only [chkI, Bool.and_eq_true, decide_eq_true_eq] at hc
    obtain ⟨t, j1, j2⟩ := jmp_at hc.2
    exact r_if_le hx hb (dcd_at hc.1) j2 (s_if_m (hP _ t j1) (fun _ _ _ _ z => z) k)
  · simp only [chkI, Bool.and_eq_true, decide_eq_true_eq] at hc
    obtain ⟨t, j1, j2⟩ := jmp_at hc.2
    exact r_icmp_eq hx hb (dcd_at hc.1) j2 (s_icmp_m (hP _ t j1) (fun _ _ _ _ z => z) k)
  · simp only [chkI, Bool.and_eq_true, decide_eq_true_eq] at hc
    obtain ⟨t, j1, j2⟩ := jmp_at hc.2
    exact r_icmp_ne hx hb (dcd_at hc.1) j2 (s_icmp_m (hP _ t j1) (fun _ _ _ _ z => z) k)
  · simp only [chkI, Bool.and_eq_true, decide_eq_true_eq] at hc
    obtain ⟨t, j1, j2⟩ := jmp_at hc.2
    exact r_icmp_lt hx hb (dcd_at hc.1) j2 (s_icmp_m (hP _ t j1) (fun _ _ _ _ z => z) k)
  · simp only [chkI, Bool.and_eq_true, decide_eq_true_eq] at hc
    obtain ⟨t, j1, j2⟩ := jmp_at hc.2
    exact r_icmp_ge hx hb (dcd_at hc.1) j2 (s_icmp_m (hP _ t j1) (fun _ _ _ _ z => z) k)
  · simp only [chkI, Bool.and_eq_true, decide_eq_true_eq] at hc
    obtain ⟨t, j1, j2⟩ := jmp_at hc.2
    exact r_icmp_gt hx hb (dcd_at hc.1) j2 (s_icmp_m (hP _ t j1) (fun _ _ _ _ z => z) k)
  · simp only [chkI, Bool.and_eq_true, decide_eq_true_eq] at hc
    obtain ⟨t, j1, j2⟩ := jmp_at hc.2
    exact r_icmp_le hx hb (dcd_at hc.1) j2 (s_icmp_m (hP _ t j1) (fun _ _ _ _ z => z) k)
  · exact r_getf hx hb hts hown hK ho (dcd_at hc) k
  · exact r_putf hx hb hts hown hK ho (fun q => by cases q) (dcd_at hc) k
  · exact r_iald hx hb hK (dcd_at hc) k
  · exact r_iast hx hb hK (dcd_at hc) k
  · exact r_zald hx hb hK (dcd_at hc) k
  · exact r_zast hx hb hK (dcd_at hc) k
  · exact r_lald hx hb ho hK (dcd_at hc) k
  · exact r_last hx hb ho hK (dcd_at hc) k
  · exact r_alen hx hb hK (dcd_at hc) (fun _ _ _ => spx_kd) k
  · obtain ⟨q, hq, ok, hfr, h9⟩ := ho
    exact r_call hx hb hml hts hown hE ok hfr (hM _ q hq) hB hRf hRl (dcd_at hc) (Or.inl ⟨rfl, rfl⟩) (Or.inl ⟨rfl, rfl, h9⟩) (hT pc) k
  · obtain ⟨q, hq, ok, hfr⟩ := ho
    exact r_call hx hb hml hts hown hE ok hfr (hM _ q hq) hB hRf hRl (dcd_at hc) (Or.inr (Or.inl ⟨rfl, rfl⟩)) (Or.inr (Or.inl ⟨rfl, rfl⟩)) (hT pc) k
  · obtain ⟨q, hq, ok, hfr⟩ := ho
    exact r_call hx hb hml hts hown hE ok hfr (hM _ q hq) hB hRf hRl (dcd_at hc) (Or.inr (Or.inr ⟨rfl, rfl⟩)) (Or.inr (Or.inr ⟨rfl, rfl⟩)) (hT pc) k
  · exact r_objI hx hb hml hown (hts _ ho.1) (hts _ ho.2.1) (hts _ ho.2.2) (Nat.le_trans (Nat.le_add_left _ _) hRf) hRl1 (dcd_at hc) k
  · exact r_new hx hb hts hown hK ho hB (dcd_at hc) k
  · simp only [chkI, Bool.and_eq_true, decide_eq_true_eq] at hc
    refine r_newa hx hb hts hK ?_ ho hB (dcd_at hc.1) k
    have h9 := hc.2
    revert h9
    generalize n0 tl 0 = z
    intro h9
    rcases (show z = 0 ∨ z = 1 ∨ z = 2 by omega) with rfl | rfl | rfl
    · exact Or.inl ⟨rfl, rfl⟩
    · exact Or.inr (Or.inl ⟨rfl, rfl⟩)
    · exact Or.inr (Or.inr ⟨rfl, rfl⟩)
  · exact hEnd.1 _ _ _ _ _ _ (dcd_at hc) ho k
  · exact hEnd.2.1 _ _ _ _ _ (dcd_at hc) ho k
  · exact hEnd.2.2.1 _ _ _ _ _ (dcd_at hc) ho k
  · exact r_tsw hx hb hc hP k
  · exact r_lsw hx hb hc hP k
  · exact hEnd.2.2.2.1 pc b a tl _ _ _ _ hc ho k
  · simp only [chkI] at hc
    split at hc
    · rename_i t ht
      simp only [decide_eq_true_eq] at hc
      subst hc
      exact hP _ _ ht _ _ _ _ k
    · cases hc
  · exact r_putf hx hb hts hown hK ho.2 (fun _ => hinit ho.1) (dcd_at hc) k
  · obtain ⟨ho1, rfl⟩ := ho
    simp only [chkI, Bool.and_eq_true] at hc
    exact hEnd.2.2.2.2.1 pc _ _ _ _ ho1 (dcd_at hc.1) (dcd_at hc.2) k
  · obtain ⟨ho1, rfl⟩ := ho
    simp only [chkI, Bool.and_eq_true] at hc
    exact hEnd.2.2.2.2.2.1 pc b _ _ _ _ ho1 (dcd_at hc.1) (dcd_at hc.2.1) (dcd_at hc.2.2) k
  · obtain ⟨ho1, rfl⟩ := ho
    simp only [chkI, Bool.and_eq_true] at hc
    exact hEnd.2.2.2.2.2.2 pc b _ _ _ _ ho1 (dcd_at hc.1) (dcd_at hc.2.1) (dcd_at hc.2.2.1) (dcd_at hc.2.2.2) k
  · exact k.elim
theorem snd_items (hx : p.tables.exec = Jvm.exec) (hb : c.code = cc) (hml : c.maxLocals = nL) (hts : ∀ w ∈ TBg, w.before args s = true) (hown : s.vm.findClass own = some m.cls) (hE : dEv G s s.heap) (hinit : init = true → meth.name = "<init>") (hB : B.1 ≤ R.cells ∧ B.2 ≤ R.slots) (hRf : d + 20 + 1 ≤ R.frames) (hRl : 60 * d + 460 ≤ R.locals)
    (hCm : ∀ y as σ Q Q', (∀ r σ, Q r σ → Q' r σ) → C y as σ Q → C y as σ Q')
    (hM : ∀ (y : Nat) (q : dM), MT[y]? = some q → dMet l G d (fun as σ Q => C y as σ Q) q) (hT : okThr p l e R s m args below meth c Qm G fr nL B Q) (hEnd : okEnd p l e R s m args below meth c Qm G fr nL cc B Q own ret)
    (hP : ∀ lb t, pcs[lb]? = some t → ∀ u ls st σ, P lb u ls st σ → VW p l e R s m args below meth c Qm G fr nL t u ls st σ) :
    ∀ (is : List dI) (pc : Nat), chk cc pcs pc is = true → (∀ it ∈ is, okI own ret init fr it.1 it.2.1 it.2.2.1 it.2.2.2) → ∀ (u : Nat × Nat) (ls : dL) (st : List dX) (σ : dS), ex fr B C P Q is u ls st σ → VW p l e R s m args below meth c Qm G fr nL pc u ls st σ
  | [], _, _, _, _, _, _, _, k => k.elim
  | (op, a, b, tl) :: is, pc, hc, ho, u, ls, st, σ, k => by
    simp only [chk, Bool.and_eq_true] at hc
    have ih := snd_items hx hb hml hts hown hE hinit hB hRf hRl hCm hM hT hEnd hP is (pc + lenI op) hc.2 (fun it h => ho it (List.mem_cons_of_mem _ h))
    exact snd_item hx hb hml hts hown hE hinit hB hRf hRl hM hT hEnd hP hc.1 (ho (op, a, b, tl) List.mem_cons_self) (stp_m hCm (fun _ _ _ _ _ z => z) (fun _ _ z => z) ih k)
end SND
