/-! THE LAW'S OWN METHODS: a class's call, its answer into out, what it throws told apart -/
abbrev lgR : Type := MethodName × ByteArray × Nat × List (Nat × Nat × Nat × Nat)
def lgPc (G : dG) (as : List dX) (σ : dS) : Array Value → State → Prop := fun v U => dPc G false as σ v U ∧ va_Nc (exn 1) (exn 0) U
def lgWs (w : lgR) : List Cond := Cond.codeWith w.1 w.2.1 w.2.2.1 (some .int) w.2.2.2 :: TBg
/-- what the class's call owes, that the law's method ends in Q -/
def lgQ (cd : Nat → Option Int) (tv : Int → Int) (Q : dR → dS → Prop) : dR → dS → Prop := fun r σ' => match r with
  | .inl (some (.inl v)) => iR v → lS (tv v) ∧ Q (.inl (some (.inl 0))) (up (up σ' 197 0 (lo32 (tv v))) 197 (-1) (hi32 (tv v)))
  | .inr x => ∃ c, cd x = some c ∧ Q (.inl (some (.inl c))) σ'
  | _ => False
def okCat (cc : ByteArray) (hh : List (Nat × Nat × Nat × Nat)) (pc nL : Nat) (x : Nat) (v : Int) : Prop :=
  ∃ (pre suf : List ExceptionTableEntry) (row : ExceptionTableEntry), tableOf hh = pre ++ row :: suf ∧ (pre = [] ∨ x = 1 ∧ ∃ z : ExceptionTableEntry, pre = [z] ∧ z.catchType = 18) ∧ covers row pc = true ∧ (x = 0 ∧ row.catchType = 18 ∨ x = 1 ∧ row.catchType = 13) ∧
    ∃ i len : Nat, (len = 1 ∧ (∃ k : Fin 4, (k : Nat) = i ∧ decode cc row.handlerPc = .ok (.astore_n k, 1)) ∨ len = 2 ∧ decode cc row.handlerPc = .ok (.astore i, 2)) ∧ i < nL ∧ decode cc (row.handlerPc + len) = .ok (.iconst v, 1) ∧ decode cc (row.handlerPc + len + 1) = .ok (.ireturn, 1)
theorem lg_l18 : Cond.classLink "WingTramsLaw" 18 (exn 0) ∈ TBg := mem_g (by decide +kernel)
theorem lg_l13 : Cond.classLink "WingTramsLaw" 13 (exn 1) ∈ TBg := mem_g (by decide +kernel)
section LGW
variable {p : Program} {l : Launch} {e : Env} {R : Room} {s : State} {m : MethodId} {args : Array Value} {below : List Frame} {meth : Method} {c : Code} {Qm : State → Prop} {G : dG} {nL pc : Nat} {cc : ByteArray} {u : Nat × Nat} {ls : dL} {st : List dX} {σ : dS}
theorem lg_open {w : lgR} {as : List dX} {rm : Room} {Q : dR → dS → Prop} {mc ms : Nat} (hpf : plainName w.1.cls = true) (hc1 : ∀ v ∈ as, c1 v = true) (hlen : as.length ≤ w.2.2.1) (was : wfs as)
    (body : ∀ (p : Program) (e : Env) (s : State) (m : MethodId) (below : List Frame) (meth : Method) (c : Code), p.tables.exec = Jvm.exec → c.code = w.2.1 → c.maxLocals = w.2.2.1 → meth.sig.returnType = some .int → meth.locks = false → (∀ w ∈ TBg, w.before (as.map (dv G)).toArray s = true) → s.vm.findClass w.1.cls = some m.cls → dEv G s s.heap → va_Nc (exn 1) (exn 0) s → c.exceptionTable.toList = tableOf w.2.2.2 →
      VW p l e (headSpec (lgWs w) rm).room s m (as.map (dv G)).toArray below meth c (vx_MQ below (dQc G false Q) (dXC G false Q) (as.map (dv G)).toArray s mc ms (rg G)) G false w.2.2.1 0 (0, 0) (as.map some ++ List.replicate (w.2.2.1 - as.length) none) [] σ) :
    vx_Met l w.1 (lgWs w) rm (lgPc G as σ) (dQc G false Q) (dXC G false Q) mc ms (rg G) := by
  refine vx_ofWH (cc := w.2.1) (maxL := w.2.2.1) (ret := some .int) (hh := w.2.2.2) hpf rfl ?_
  intro p e s m args below meth c s₁ BL hml hv
  obtain ⟨⟨rfl, hW, hE⟩, hNc⟩ := hv
  have hts0 := atoms_spec (ws := lgWs w) BL.pre
  have hsl : (lg_sl (as.map (dv G))).length = as.length := by
    rw [lg_len]
    exact c1_sum as hc1
  have hl := lv_entry (as.map (dv G)) (n := w.2.2.1) (by rw [hsl]; exact hlen)
  rw [lg_entry_eq]
  rw [kl_args G as 0 (w.2.2.1 - as.length) hc1] at hl
  generalize (lg_sl (as.map (dv G)) ++ List.replicate (w.2.2.1 - (lg_sl (as.map (dv G))).length) Slot.unset).toArray = la at hl ⊢
  refine body p e s m below meth c BL.exec BL.bytes hml BL.returns BL.notSynchronized (fun w hw => hts0 w (List.mem_cons_of_mem _ hw)) (findClass_of_methodNamed BL.named) hE hNc (vx_table (x := w.1) BL (hts0 _ List.mem_cons_self)) ?_ ?_ (fun v hv => absurd hv List.not_mem_nil) s.heap [] la hW va_S.rf hl
  · rw [List.length_append, List.length_map, List.length_replicate]
    omega
  · intro i v hv
    by_cases hi : i < (as.map some).length
    · rw [List.getElem?_append_left hi, List.getElem?_map] at hv
      cases ha : as[i]? with
      | none => rw [ha] at hv; cases hv
      | some w =>
        rw [ha] at hv
        simp only [Option.map_some, Option.some.injEq] at hv
        subst hv
        exact was w (List.mem_of_getElem? ha)
    · rw [List.getElem?_append_right (by omega)] at hv
      have := List.mem_of_getElem? hv
      rw [List.mem_replicate] at this
      cases this.2
theorem vw_wf (k : wfs st → VW p l e R s m args below meth c Qm G false nL pc u ls st σ) : VW p l e R s m args below meth c Qm G false nL pc u ls st σ :=
  fun hn w1 w2 => k w2 hn w1 w2
theorem lg_cat {Q : dR → dS → Prop} {mc ms : Nat} (hx : p.tables.exec = Jvm.exec) (hb : c.code = cc) (hr : meth.sig.returnType = some .int) (hlocks : meth.locks = false) (hts : ∀ w ∈ TBg, w.before args s = true) (hown : s.vm.findClass "WingTramsLaw" = some m.cls) (hE : dEv G s s.heap) (hNc : va_Nc (exn 1) (exn 0) s) {hh : List (Nat × Nat × Nat × Nat)} (htab : c.exceptionTable.toList = tableOf hh)
    {x : Nat} {v : Int} (hok : okCat cc hh pc nL x v) {H1 : Heap} {locs1 : List Loc} {ce : Cell} {q9 : Addr} {la : Array Slot} {rest : List Value} {u' : Nat × Nat} (hlv : lv_has la nL []) (h1 : u'.1 ≤ mc) (h2 : u'.2 ≤ ms) (hQ : Q (.inl (some (.inl v))) σ) (hv : iR v) (hW : Wd G false σ H1) (hS : va_S (rg G) s.heap H1 locs1) (hce : H1[q9]? = some ce) (hcv : ce.vm = .none) (hcl : s.vm.findClass (exn x) = some ce.cls) :
    vx_W p l e R s m args below meth c H1 locs1 u'.1 u'.2 (vx_MQ below (dQc G false Q) (dXC G false Q) args s mc ms (rg G)) (F0 m pc la rest) q9 := by
  obtain ⟨pre, suf, row, ht, hpre, hcov, hct, i, len, hst, hi, d1, d2⟩ := hok
  have hca : (Cond.castable (exn x) (exn x)).before args s = true := by
    rcases hct with ⟨rfl, -⟩ | ⟨rfl, -⟩
    · exact va_Nw.use rfl (hE.2.2.2.1 _ (by unfold NWs; exact List.mem_cons_self))
    · exact va_Nw.use rfl (hE.2.2.2.1 _ (by unfold NWs; exact List.mem_cons_of_mem _ List.mem_cons_self))
  refine vx_catch (own := "WingTramsLaw") (name := exn x) hown pre row suf (htab.trans ht) ?_ hcov ?_ ?_ hca hce hcv hcl ?_
  · intro z hz
    rcases hpre with rfl | ⟨rfl, z', rfl, hz18⟩
    · exact absurd hz List.not_mem_nil
    · rw [List.mem_singleton.mp hz]
      exact Or.inr ⟨by rw [hz18]; decide, exn 0, by rw [hz18]; exact hts _ lg_l18, hNc⟩
  · rcases hct with ⟨-, h⟩ | ⟨-, h⟩ <;> rw [h] <;> decide
  · rcases hct with ⟨rfl, h⟩ | ⟨rfl, h⟩
    · rw [h]; exact hts _ lg_l18
    · rw [h]; exact hts _ lg_l13
  · have fin : ∀ la' : Array Slot, W p l e R s m args below meth c H1 locs1 u'.1 u'.2 (vx_MQ below (dQc G false Q) (dXC G false Q) args s mc ms (rg G)) (F0 m (row.handlerPc + len) la' []) := by
      intro la'
      refine lv_iconst hx hb d1 rfl ?_
      refine vx_ret (W.widen (k := mc) (n := ms) h1 h2 ?_)
      exact W.iret hx hb hr (fun t ht _ => ⟨⟨some (.inl v), σ, rfl, fun w hw => by cases hw; exact hv, hQ, by rw [ht]; exact hW⟩, hS.F ht⟩) hS.2.2 d2 hlocks
    rcases hst with ⟨rfl, k, hk, d0⟩ | ⟨rfl, d0⟩
    · exact lv_astore_n hx hb d0 hk hlv hi rfl (fun la' _ => fin la')
    · exact lv_astore hx hb d0 hlv hi rfl (fun la' _ => fin la')
/-- from the call on -/
theorem lg_call {Q : dR → dS → Prop} {q : dM} {d y b n : Nat} {as : List dX} {cd : Nat → Option Int} {tv : Int → Int} (hx : p.tables.exec = Jvm.exec) (hb : c.code = cc) (hml : c.maxLocals = nL) (hr : meth.sig.returnType = some .int) (hlocks : meth.locks = false) (hts : ∀ w ∈ TBg, w.before args s = true) (hown : s.vm.findClass "WingTramsLaw" = some m.cls) (hE : dEv G s s.heap) (hNc : va_Nc (exn 1) (exn 0) s) {hh : List (Nat × Nat × Nat × Nat)} (htab : c.exceptionTable.toList = tableOf hh) (hl0 : l.stackTraces = false)
    (hq : MT[y]? = some q) (ok : okK "WingTramsLaw" b [y, n, 12, q.2.2.2.2.2.2.1.1, q.2.2.2.2.2.2.1.2] 0 q) (hfr : q.2.2.2.2.2.2.2 = false) (hB : q.2.2.2.2.2.2.1.1 ≤ R.cells ∧ q.2.2.2.2.2.2.1.2 ≤ R.slots) (hRf : d + 20 + 1 ≤ R.frames) (hRl : 60 * d + 460 ≤ R.locals)
    (hcat : ∀ x v, cd x = some v → iR v ∧ okCat cc hh pc nL x v) (d0 : decode cc pc = .ok (.invokevirtual b, 3))
    (hend : ∀ (v : Int) (σ' : dS) (u' : Nat × Nat) (ls' : dL), iR v → lS (tv v) → u'.1 ≤ q.2.2.2.2.2.2.1.1 → u'.2 ≤ q.2.2.2.2.2.2.1.2 → Q (.inl (some (.inl 0))) (up (up σ' 197 0 (lo32 (tv v))) 197 (-1) (hi32 (tv v))) → VW p l e R s m args below meth c (vx_MQ below (dQc G false Q) (dXC G false Q) args s q.2.2.2.2.2.2.1.1 q.2.2.2.2.2.2.1.2 (rg G)) G false nL (pc + 3) u' ls' [.inl v, .inl 0, .inr (.inr 197)] σ')
    (hst : popN n [] st = some (.inr (.inr 0) :: as, [.inl 0, .inr (.inr 197)]))
    (h : wpm blk inf d y (.inr (.inr 0) :: as) σ (lgQ cd tv Q)) : VW p l e R s m args below meth c (vx_MQ below (dQc G false Q) (dXC G false Q) args s q.2.2.2.2.2.2.1.1 q.2.2.2.2.2.2.1.2 (rg G)) G false nL pc (0, 0) ls st σ := by
  intro hn w1 w2 H locs la hW hS hl
  obtain ⟨okm, hlink, hkind, hnar, hmc, hms, hcls⟩ := ok
  obtain ⟨w, -, hw2, hw3⟩ := hcls rfl
  obtain ⟨pp, hp1, hp2, hp3⟩ := popN_spec _ _ _ _ _ hst
  rw [List.append_nil] at hp3
  have was : wfs (.inr (.inr 0) :: as) := fun v hv => w2 v (by rw [hp2]; rw [hp3] at hv; exact List.mem_append_left _ (List.mem_reverse.mp hv))
  have wr0 : wfs [.inl 0, .inr (.inr 197)] := fun v hv => w2 v (by rw [hp2]; exact List.mem_append_right _ hv)
  have hst2 : st.map (dv G) = (as.map (dv G)).reverse ++ .ref (adr G 0) :: ([.inl 0, .inr (.inr 197)] : List dX).map (dv G) := by
    have e9 : st = (Sum.inr (Sum.inr 0) :: as : List dX).reverse ++ [.inl 0, .inr (.inr 197)] := by rw [hp2, hp3, List.reverse_reverse]
    rw [e9, List.map_append, List.map_reverse, List.map_cons, List.reverse_cons, List.append_assoc]
    rfl
  have hlen : as.length + 1 = n := by
    have h9 : (Sum.inr (Sum.inr 0) :: as : List dX).length = n := by rw [hp3, List.length_reverse]; exact hp1
    exact h9
  have hnar2 : as.length = q.2.2.2.2.2.1 := by
    have h9 : n = q.2.2.2.2.2.1 + 1 := hnar
    omega
  have hMet := met (l := l) (G := G) hl0 d y q hq (.inr (.inr 0) :: as) σ (fun res σ' => match res with
    | .inl (some (.inl v)) => VW p l e R s m args below meth c (vx_MQ below (dQc G false Q) (dXC G false Q) args s q.2.2.2.2.2.2.1.1 q.2.2.2.2.2.2.1.2 (rg G)) G false nL (pc + 3) (0 + q.2.2.2.2.2.2.1.1, 0 + q.2.2.2.2.2.2.1.2) ls [.inl v, .inl 0, .inr (.inr 197)] σ'
    | .inr x => ∃ c, cd x = some c ∧ Q (.inl (some (.inl c))) σ'
    | _ => False) was (wpm_mono h (fun r σ' hr => by
      match r, hr with
      | .inl (some (.inl v)), hr =>
        refine vw_wf (fun hw => ?_)
        obtain ⟨a1, a2⟩ := hr (wfs_h hw)
        exact hend v σ' _ ls (wfs_h hw) a1 (by show 0 + _ ≤ _; rw [Nat.zero_add]; exact Nat.le_refl _) (by show 0 + _ ≤ _; rw [Nat.zero_add]; exact Nat.le_refl _) a2
      | .inr x, hr => exact hr))
  rw [hfr] at hMet
  have hrun := q_runV (R := R) (e := e) (below := below) (meth := meth) (la := la) (as' := as) (r := [.inl 0, .inr (.inr 197)]) (u := (0, 0)) (pc := pc) (locs := locs) hx hb hml hts hown hE hW hS okm hlink hkind hRf hRl hl.1 (by decide) (by show 0 + _ ≤ _ ∧ 0 + _ ≤ _; rw [Nat.zero_add, Nat.zero_add]; exact hB) d0 spA0.1 (fun z => by cases z) hw2 hw3 hnar2 hMet
  show W p l e R s m args below meth c H locs 0 0 _ (F0 m pc la (st.map (dv G)))
  rw [hst2]
  refine q_run (u := (0, 0)) hrun hS ?_ ?_
  · intro res σ' H1 locs1 hwf hQ hW1 hS1
    match res, hQ, hwf with
    | some (.inl v), hQ, hwf => exact hQ hn w1 (wfs_c (hwf _ rfl) wr0) H1 locs1 la hW1 hS1 hl
  · intro x σ' H1 locs1 ce q9 hQ hW1 hS1 g1 g2 g3
    obtain ⟨v, hcd, hQ⟩ := hQ
    obtain ⟨hv, hok⟩ := hcat x v hcd
    refine lg_cat (u' := (0 + q.2.2.2.2.2.2.1.1, 0 + q.2.2.2.2.2.2.1.2)) hx hb hr hlocks hts hown hE hNc htab hok ⟨hl.1, hl.2.1, fun z hz => absurd hz List.not_mem_nil⟩ ?_ ?_ hQ hv hW1 hS1 g1 g2 g3
    · show 0 + _ ≤ _; rw [Nat.zero_add]; exact Nat.le_refl _
    · show 0 + _ ≤ _; rw [Nat.zero_add]; exact Nat.le_refl _
/-- the answer goes into out, 0 is answered -/
theorem lg_end {Q : dR → dS → Prop} {B : Nat × Nat} {a : Int} {tgt : Nat} {v : Int} (hx : p.tables.exec = Jvm.exec) (hb : c.code = cc) (hr : meth.sig.returnType = some .int) (hlocks : meth.locks = false) (hE : dEv G s s.heap) (d1 : decode cc pc = .ok (.lastore, 1)) (d2 : decode cc (pc + 1) = .ok (.goto a, 3)) (ht : ((pc + 1 : Nat) : Int) + a = (tgt : Int)) (d3 : decode cc tgt = .ok (.iconst 0, 1)) (d4 : decode cc (tgt + 1) = .ok (.ireturn, 1)) (hv : lS v) (h1 : u.1 ≤ B.1) (h2 : u.2 ≤ B.2) (h : Q (.inl (some (.inl 0))) (up (up σ 197 0 (lo32 v)) 197 (-1) (hi32 v))) :
    VW p l e R s m args below meth c (vx_MQ below (dQc G false Q) (dXC G false Q) args s B.1 B.2 (rg G)) G false nL pc u ls [.inr (.inl v), .inl 0, .inr (.inr 197)] σ := by
  refine r_last hx hb rfl hE.1 d1 ?_
  refine ⟨rfl, Int.le_refl 0, by decide, hv, ?_⟩
  refine r_goto hx hb d2 ht ?_
  refine r_iconst hx hb d3 (by unfold iR; omega) ?_
  exact e_iret hx hb hr hlocks d4 (Or.inl ⟨rfl, rfl⟩) (z := 0) ⟨h1, h2, fun z => absurd z (by decide), h⟩
end LGW

def cdA (x : Nat) : Option Int := if x = 0 then some 1 else none
def cdB (x : Nat) : Option Int := if x = 1 then some 1 else none
def cdC (x : Nat) : Option Int := if x = 0 then some 1 else if x = 1 then some 2 else none
def nz1 (v : Int) : Int := if v = 0 then 0 else 1
/-- one handler, for no such thing (hc 18) or no good thing (hc 13) -/
def cdK (hc : Nat) : Nat → Option Int := if hc = 18 then cdA else cdB
theorem cat_1 {cc : ByteArray} {pc nL e h hc : Nat} (hh : hc = 18 ∨ hc = 13) (he : pc < e) {i len : Nat} (hi : i < nL) (h0 : len = 1 ∧ (∃ k : Fin 4, (k : Nat) = i ∧ decode cc h = .ok (.astore_n k, 1)) ∨ len = 2 ∧ decode cc h = .ok (.astore i, 2)) (h1 : decode cc (h + len) = .ok (.iconst 1, 1)) (h2 : decode cc (h + len + 1) = .ok (.ireturn, 1)) :
    ∀ x v, cdK hc x = some v → iR v ∧ okCat cc [(0, e, h, hc)] pc nL x v := by
  intro x v hx
  have hcov : covers (⟨0, e, h, hc⟩ : ExceptionTableEntry) pc = true := by
    show (decide (0 ≤ pc) && decide (pc < e)) = true
    rw [decide_eq_true (Nat.zero_le pc), decide_eq_true he]; rfl
  rcases hh with rfl | rfl
  · have hx2 : cdA x = some v := hx
    unfold cdA at hx2
    by_cases hx0 : x = 0
    · rw [if_pos hx0] at hx2
      cases hx2
      exact ⟨by unfold iR; omega, [], [], ⟨0, e, h, 18⟩, rfl, Or.inl rfl, hcov, Or.inl ⟨hx0, rfl⟩, i, len, h0, hi, h1, h2⟩
    · rw [if_neg hx0] at hx2; cases hx2
  · have hx2 : cdB x = some v := hx
    unfold cdB at hx2
    by_cases hx0 : x = 1
    · rw [if_pos hx0] at hx2
      cases hx2
      exact ⟨by unfold iR; omega, [], [], ⟨0, e, h, 13⟩, rfl, Or.inl rfl, hcov, Or.inr ⟨hx0, rfl⟩, i, len, h0, hi, h1, h2⟩
    · rw [if_neg hx0] at hx2; cases hx2
theorem iR_lS {v : Int} (h : iR v) : lS v := by unfold iR at h; unfold lS; omega
theorem nz1_lS {v : Int} : lS (nz1 v) := by unfold nz1 lS; split <;> omega
def okW (w : lgR) (y : Nat) (b : Nat) (q : dM) : Prop := MT[y]? = some q ∧ okK "WingTramsLaw" b [y, q.2.2.2.2.2.1 + 1, 12, q.2.2.2.2.2.2.1.1, q.2.2.2.2.2.2.1.2] 0 q ∧ q.2.2.2.2.2.2.2 = false ∧ w.1.cls = "WingTramsLaw"
section LGS
variable {l : Launch} {G : dG} {d y b hc : Nat} {q : dM} {wy : MethodName} {cc : ByteArray} {σ : dS} {Q : dR → dS → Prop}
def ck1 (cc : ByteArray) (b : Nat) : Bool := dcd cc 0 (.aload_n 2) 1 && (dcd cc 1 (.iconst 0) 1 && (dcd cc 2 (.aload_n 0) 1 && (dcd cc 3 (.iload_n 1) 1 && (dcd cc 4 (.invokevirtual b) 3 && (dcd cc 7 .i2l 1 && (dcd cc 8 .lastore 1 && (dcd cc 9 (.goto 6) 3 && (dcd cc 12 (.astore_n 3) 1 && (dcd cc 13 (.iconst 1) 1 && (dcd cc 14 .ireturn 1 && (dcd cc 15 (.iconst 0) 1 && dcd cc 16 .ireturn 1)))))))))))
def ck2 (cc : ByteArray) (b : Nat) : Bool := dcd cc 0 (.aload_n 3) 1 && (dcd cc 1 (.iconst 0) 1 && (dcd cc 2 (.aload_n 0) 1 && (dcd cc 3 (.iload_n 1) 1 && (dcd cc 4 (.iload_n 2) 1 && (dcd cc 5 (.invokevirtual b) 3 && (dcd cc 8 .i2l 1 && (dcd cc 9 .lastore 1 && (dcd cc 10 (.goto 7) 3 && (dcd cc 13 (.astore 4) 2 && (dcd cc 15 (.iconst 1) 1 && (dcd cc 16 .ireturn 1 && (dcd cc 17 (.iconst 0) 1 && dcd cc 18 .ireturn 1))))))))))))
def ck3 (cc : ByteArray) (b : Nat) (g : Int) (t : Nat) : Bool := dcd cc 0 (.aload 4) 2 && (dcd cc 2 (.iconst 0) 1 && (dcd cc 3 (.aload_n 0) 1 && (dcd cc 4 (.iload_n 1) 1 && (dcd cc 5 (.iload_n 2) 1 && (dcd cc 6 (.iload_n 3) 1 && (dcd cc 7 (.invokevirtual b) 3 && (dcd cc 10 .i2l 1 && (dcd cc 11 .lastore 1 && (dcd cc 12 (.goto g) 3 && (dcd cc 15 (.astore 5) 2 && (dcd cc 17 (.iconst 1) 1 && (dcd cc 18 .ireturn 1 && (dcd cc t (.iconst 0) 1 && dcd cc (t + 1) .ireturn 1)))))))))))))
def ck3b (cc : ByteArray) : Bool := dcd cc 19 (.astore 5) 2 && (dcd cc 21 (.iconst 2) 1 && dcd cc 22 .ireturn 1)
def ckN (cc : ByteArray) (b : Nat) : Bool := dcd cc 0 (.aload_n 3) 1 && (dcd cc 1 (.iconst 0) 1 && (dcd cc 2 (.aload_n 0) 1 && (dcd cc 3 (.iload_n 1) 1 && (dcd cc 4 (.iload_n 2) 1 && (dcd cc 5 (.invokevirtual b) 3 && (dcd cc 8 (.ifCond .eq 7) 3 && (dcd cc 11 (.lconst 1) 1 && (dcd cc 12 (.goto 4) 3 && (dcd cc 15 (.lconst 0) 1 && (dcd cc 16 .lastore 1 && (dcd cc 17 (.goto 7) 3 && (dcd cc 20 (.astore 4) 2 && (dcd cc 22 (.iconst 1) 1 && (dcd cc 23 .ireturn 1 && (dcd cc 24 (.iconst 0) 1 && dcd cc 25 .ireturn 1)))))))))))))))
theorem lg_w1 {x1 : Int} (hl0 : l.stackTraces = false) (hpf : plainName wy.cls = true) (hh : hc = 18 ∨ hc = 13) (hw : okW (wy, cc, 4, [(0, 9, 12, hc)]) y b q) (hn : q.2.2.2.2.2.1 = 1) (ck : ck1 cc b = true) (r1 : iR x1) (h : wpm blk inf d y [.inr (.inr 0), .inl x1] σ (lgQ (cdK hc) id Q)) :
    vx_Met l wy (lgWs (wy, cc, 4, [(0, 9, 12, hc)])) (dRm (d + 1) q.2.2.2.2.2.2.1.1 q.2.2.2.2.2.2.1.2) (lgPc G [.inr (.inr 0), .inl x1, .inr (.inr 197)] σ) (dQc G false Q) (dXC G false Q) q.2.2.2.2.2.2.1.1 q.2.2.2.2.2.2.1.2 (rg G) := by
  obtain ⟨hq, ok, hfr, hcls⟩ := hw
  rw [hn] at ok
  unfold ck1 at ck
  simp only [Bool.and_eq_true] at ck
  obtain ⟨d0, d1, d2, d3, d4, d5, d6, d7, d8, d9, d10, d11, d12⟩ := ck
  refine lg_open (w := (wy, cc, 4, [(0, 9, 12, hc)])) hpf (by intro v hv; simp only [List.mem_cons, List.not_mem_nil, or_false] at hv; rcases hv with rfl | rfl | rfl <;> rfl) (Nat.le_of_ble_eq_true rfl) (wfs_c trivial (wfs_c r1 (wfs_c trivial (fun v hv => absurd hv List.not_mem_nil)))) ?_
  intro p e s m below meth c hx hb hml hr hlocks hts hown hE hNc htab
  rw [hcls] at hown
  refine v_al (n := 2) (t := 197) hx hb rfl rfl (dcd_at d0) ?_
  refine r_iconst hx hb (dcd_at d1) (by unfold iR; omega) ?_
  refine v_al (n := 0) (t := 0) hx hb rfl rfl (dcd_at d2) ?_
  refine v_il (n := 1) (x := x1) hx hb rfl rfl (dcd_at d3) ?_
  refine lg_call (n := 2) (cd := cdK hc) (tv := id) hx hb hml hr hlocks hts hown hE hNc htab hl0 hq ok hfr ⟨Nat.le_refl _, Nat.le_refl _⟩ (by show d + 20 + 1 ≤ d + 1 + 20; omega) (by show 60 * d + 460 ≤ 60 * (d + 1) + 400; omega)
    (cat_1 hh (Nat.le_of_ble_eq_true rfl) (Nat.le_of_ble_eq_true rfl) (Or.inl ⟨rfl, 3, rfl, dcd_at d8⟩) (dcd_at d9) (dcd_at d10)) (dcd_at d4) ?_ rfl h
  intro v σ' u' ls' hv hv2 h1 h2 hQ
  refine r_i2l hx hb (dcd_at d5) ?_
  exact lg_end hx hb hr hlocks hE (dcd_at d6) (dcd_at d7) (tgt := 15) (by decide) (dcd_at d11) (dcd_at d12) hv2 h1 h2 hQ
theorem lg_w2 {x1 x2 : Int} (hl0 : l.stackTraces = false) (hpf : plainName wy.cls = true) (hh : hc = 18 ∨ hc = 13) (hw : okW (wy, cc, 5, [(0, 10, 13, hc)]) y b q) (hn : q.2.2.2.2.2.1 = 2) (ck : ck2 cc b = true) (r1 : iR x1) (r2 : iR x2) (h : wpm blk inf d y [.inr (.inr 0), .inl x1, .inl x2] σ (lgQ (cdK hc) id Q)) :
    vx_Met l wy (lgWs (wy, cc, 5, [(0, 10, 13, hc)])) (dRm (d + 1) q.2.2.2.2.2.2.1.1 q.2.2.2.2.2.2.1.2) (lgPc G [.inr (.inr 0), .inl x1, .inl x2, .inr (.inr 197)] σ) (dQc G false Q) (dXC G false Q) q.2.2.2.2.2.2.1.1 q.2.2.2.2.2.2.1.2 (rg G) := by
  obtain ⟨hq, ok, hfr, hcls⟩ := hw
  rw [hn] at ok
  unfold ck2 at ck
  simp only [Bool.and_eq_true] at ck
  obtain ⟨d0, d1, d2, d3, d3b, d4, d5, d6, d7, d8, d9, d10, d11, d12⟩ := ck
  refine lg_open (w := (wy, cc, 5, [(0, 10, 13, hc)])) hpf (by intro v hv; simp only [List.mem_cons, List.not_mem_nil, or_false] at hv; rcases hv with rfl | rfl | rfl | rfl <;> rfl) (Nat.le_of_ble_eq_true rfl) (wfs_c trivial (wfs_c r1 (wfs_c r2 (wfs_c trivial (fun v hv => absurd hv List.not_mem_nil))))) ?_
  intro p e s m below meth c hx hb hml hr hlocks hts hown hE hNc htab
  rw [hcls] at hown
  refine v_al (n := 3) (t := 197) hx hb rfl rfl (dcd_at d0) ?_
  refine r_iconst hx hb (dcd_at d1) (by unfold iR; omega) ?_
  refine v_al (n := 0) (t := 0) hx hb rfl rfl (dcd_at d2) ?_
  refine v_il (n := 1) (x := x1) hx hb rfl rfl (dcd_at d3) ?_
  refine v_il (n := 2) (x := x2) hx hb rfl rfl (dcd_at d3b) ?_
  refine lg_call (n := 3) (cd := cdK hc) (tv := id) hx hb hml hr hlocks hts hown hE hNc htab hl0 hq ok hfr ⟨Nat.le_refl _, Nat.le_refl _⟩ (by show d + 20 + 1 ≤ d + 1 + 20; omega) (by show 60 * d + 460 ≤ 60 * (d + 1) + 400; omega)
    (cat_1 hh (Nat.le_of_ble_eq_true rfl) (Nat.le_of_ble_eq_true rfl) (Or.inr ⟨rfl, dcd_at d8⟩) (dcd_at d9) (dcd_at d10)) (dcd_at d4) ?_ rfl h
  intro v σ' u' ls' hv hv2 h1 h2 hQ
  refine r_i2l hx hb (dcd_at d5) ?_
  exact lg_end hx hb hr hlocks hE (dcd_at d6) (dcd_at d7) (tgt := 17) (by decide) (dcd_at d11) (dcd_at d12) hv2 h1 h2 hQ
theorem lg_wN {x1 x2 : Int} (hl0 : l.stackTraces = false) (hpf : plainName wy.cls = true) (hh : hc = 18 ∨ hc = 13) (hw : okW (wy, cc, 5, [(0, 17, 20, hc)]) y b q) (hn : q.2.2.2.2.2.1 = 2) (ck : ckN cc b = true) (r1 : iR x1) (r2 : iR x2) (h : wpm blk inf d y [.inr (.inr 0), .inl x1, .inl x2] σ (lgQ (cdK hc) nz1 Q)) :
    vx_Met l wy (lgWs (wy, cc, 5, [(0, 17, 20, hc)])) (dRm (d + 1) q.2.2.2.2.2.2.1.1 q.2.2.2.2.2.2.1.2) (lgPc G [.inr (.inr 0), .inl x1, .inl x2, .inr (.inr 197)] σ) (dQc G false Q) (dXC G false Q) q.2.2.2.2.2.2.1.1 q.2.2.2.2.2.2.1.2 (rg G) := by
  obtain ⟨hq, ok, hfr, hcls⟩ := hw
  rw [hn] at ok
  unfold ckN at ck
  simp only [Bool.and_eq_true] at ck
  obtain ⟨d0, d1, d2, d3, d3b, d4, e1, e2, e3, e4, d6, d7, d8, d9, d10, d11, d12⟩ := ck
  refine lg_open (w := (wy, cc, 5, [(0, 17, 20, hc)])) hpf (by intro v hv; simp only [List.mem_cons, List.not_mem_nil, or_false] at hv; rcases hv with rfl | rfl | rfl | rfl <;> rfl) (Nat.le_of_ble_eq_true rfl) (wfs_c trivial (wfs_c r1 (wfs_c r2 (wfs_c trivial (fun v hv => absurd hv List.not_mem_nil))))) ?_
  intro p e s m below meth c hx hb hml hr hlocks hts hown hE hNc htab
  rw [hcls] at hown
  refine v_al (n := 3) (t := 197) hx hb rfl rfl (dcd_at d0) ?_
  refine r_iconst hx hb (dcd_at d1) (by unfold iR; omega) ?_
  refine v_al (n := 0) (t := 0) hx hb rfl rfl (dcd_at d2) ?_
  refine v_il (n := 1) (x := x1) hx hb rfl rfl (dcd_at d3) ?_
  refine v_il (n := 2) (x := x2) hx hb rfl rfl (dcd_at d3b) ?_
  refine lg_call (n := 3) (cd := cdK hc) (tv := nz1) hx hb hml hr hlocks hts hown hE hNc htab hl0 hq ok hfr ⟨Nat.le_refl _, Nat.le_refl _⟩ (by show d + 20 + 1 ≤ d + 1 + 20; omega) (by show 60 * d + 460 ≤ 60 * (d + 1) + 400; omega)
    (cat_1 hh (Nat.le_of_ble_eq_true rfl) (Nat.le_of_ble_eq_true rfl) (Or.inr ⟨rfl, dcd_at d8⟩) (dcd_at d9) (dcd_at d10)) (dcd_at d4) ?_ rfl h
  intro v σ' u' ls' hv hv2 h1 h2 hQ
  refine r_if_eq hx hb (dcd_at e1) (tgt := 15) (by decide) ⟨fun hz => ?_, fun hz => ?_⟩
  · have e0 : nz1 v = 0 := if_pos hz
    rw [e0] at hQ
    refine r_lconst (a := 0) hx hb (dcd_at e4) rfl (by unfold lR; omega) ?_
    exact lg_end hx hb hr hlocks hE (dcd_at d6) (dcd_at d7) (tgt := 24) (by decide) (dcd_at d11) (dcd_at d12) (by unfold lS; omega) h1 h2 hQ
  · have e0 : nz1 v = 1 := if_neg hz
    rw [e0] at hQ
    refine r_lconst (a := 1) hx hb (dcd_at e2) rfl (by unfold lR; omega) ?_
    refine r_goto hx hb (dcd_at e3) (tgt := 16) (by decide) ?_
    exact lg_end hx hb hr hlocks hE (dcd_at d6) (dcd_at d7) (tgt := 24) (by decide) (dcd_at d11) (dcd_at d12) (by unfold lS; omega) h1 h2 hQ
theorem lg_w3 {x1 x2 x3 : Int} {hh : List (Nat × Nat × Nat × Nat)} {g : Int} {t : Nat} {cd : Nat → Option Int} (hl0 : l.stackTraces = false) (hpf : plainName wy.cls = true) (hcat : ∀ x v, cd x = some v → iR v ∧ okCat cc hh 7 6 x v) (hw : okW (wy, cc, 6, hh) y b q) (hn : q.2.2.2.2.2.1 = 3) (ck : ck3 cc b g t = true) (hg : (12 : Int) + g = (t : Int)) (r1 : iR x1) (r2 : iR x2) (r3 : iR x3) (h : wpm blk inf d y [.inr (.inr 0), .inl x1, .inl x2, .inl x3] σ (lgQ cd id Q)) :
    vx_Met l wy (lgWs (wy, cc, 6, hh)) (dRm (d + 1) q.2.2.2.2.2.2.1.1 q.2.2.2.2.2.2.1.2) (lgPc G [.inr (.inr 0), .inl x1, .inl x2, .inl x3, .inr (.inr 197)] σ) (dQc G false Q) (dXC G false Q) q.2.2.2.2.2.2.1.1 q.2.2.2.2.2.2.1.2 (rg G) := by
  obtain ⟨hq, ok, hfr, hcls⟩ := hw
  rw [hn] at ok
  unfold ck3 at ck
  simp only [Bool.and_eq_true] at ck
  obtain ⟨d0, d1, d2, d3, d3b, d3c, d4, d5, d6, d7, -, -, -, d11, d12⟩ := ck
  refine lg_open (w := (wy, cc, 6, hh)) hpf (by intro v hv; simp only [List.mem_cons, List.not_mem_nil, or_false] at hv; rcases hv with rfl | rfl | rfl | rfl | rfl <;> rfl) (Nat.le_of_ble_eq_true rfl) (wfs_c trivial (wfs_c r1 (wfs_c r2 (wfs_c r3 (wfs_c trivial (fun v hv => absurd hv List.not_mem_nil)))))) ?_
  intro p e s m below meth c hx hb hml hr hlocks hts hown hE hNc htab
  rw [hcls] at hown
  refine r_aload (i := 4) hx hb (dcd_at d0) ?_
  show VW p l e _ s m _ below meth c _ G false 6 2 (0, 0) _ [.inr (.inr 197)] σ
  refine r_iconst hx hb (dcd_at d1) (by unfold iR; omega) ?_
  refine v_al (n := 0) (t := 0) hx hb rfl rfl (dcd_at d2) ?_
  refine v_il (n := 1) (x := x1) hx hb rfl rfl (dcd_at d3) ?_
  refine v_il (n := 2) (x := x2) hx hb rfl rfl (dcd_at d3b) ?_
  refine v_il (n := 3) (x := x3) hx hb rfl rfl (dcd_at d3c) ?_
  refine lg_call (n := 4) (cd := cd) (tv := id) hx hb hml hr hlocks hts hown hE hNc htab hl0 hq ok hfr ⟨Nat.le_refl _, Nat.le_refl _⟩ (by show d + 20 + 1 ≤ d + 1 + 20; omega) (by show 60 * d + 460 ≤ 60 * (d + 1) + 400; omega)
    hcat (dcd_at d4) ?_ rfl h
  intro v σ' u' ls' hv hv2 h1 h2 hQ
  refine r_i2l hx hb (dcd_at d5) ?_
  exact lg_end hx hb hr hlocks hE (dcd_at d6) (dcd_at d7) (tgt := t) hg (dcd_at d11) (dcd_at d12) hv2 h1 h2 hQ
theorem cat_3 {hc : Nat} {g : Int} {t : Nat} (hh : hc = 18 ∨ hc = 13) (ck : ck3 cc b g t = true) : ∀ x v, cdK hc x = some v → iR v ∧ okCat cc [(0, 12, 15, hc)] 7 6 x v := by
  unfold ck3 at ck
  simp only [Bool.and_eq_true] at ck
  obtain ⟨-, -, -, -, -, -, -, -, -, -, d8, d9, d10, -, -⟩ := ck
  exact cat_1 hh (by decide) (by decide) (Or.inr ⟨rfl, dcd_at d8⟩) (dcd_at d9) (dcd_at d10)
theorem cat_3b {g : Int} {t : Nat} (ck : ck3 cc b g t = true) (ck2 : ck3b cc = true) : ∀ x v, cdC x = some v → iR v ∧ okCat cc [(0, 12, 15, 18), (0, 12, 19, 13)] 7 6 x v := by
  unfold ck3 at ck
  unfold ck3b at ck2
  simp only [Bool.and_eq_true] at ck ck2
  obtain ⟨-, -, -, -, -, -, -, -, -, -, d8, d9, d10, -, -⟩ := ck
  obtain ⟨e8, e9, e10⟩ := ck2
  intro x v hx
  unfold cdC at hx
  by_cases h0 : x = 0
  · rw [if_pos h0] at hx
    cases hx
    exact ⟨by unfold iR; omega, [], [⟨0, 12, 19, 13⟩], ⟨0, 12, 15, 18⟩, rfl, Or.inl rfl, rfl, Or.inl ⟨h0, rfl⟩, 5, 2, Or.inr ⟨rfl, dcd_at d8⟩, by decide, dcd_at d9, dcd_at d10⟩
  · rw [if_neg h0] at hx
    by_cases h1 : x = 1
    · rw [if_pos h1] at hx
      cases hx
      exact ⟨by unfold iR; omega, [⟨0, 12, 15, 18⟩], [], ⟨0, 12, 19, 13⟩, rfl, Or.inr ⟨h1, _, rfl, rfl⟩, rfl, Or.inr ⟨h1, rfl⟩, 5, 2, Or.inr ⟨rfl, dcd_at e8⟩, by decide, dcd_at e9, dcd_at e10⟩
    · rw [if_neg h1] at hx; cases hx
end LGS
