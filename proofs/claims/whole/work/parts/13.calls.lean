/-! CONTRACTS over the store, and calls -/
def exn : Nat → String
  | 0 => "java/util/NoSuchElementException"
  | _ => "java/lang/IllegalArgumentException"
/-- words of a throw that stay true when tables warm -/
def NWs : List Cond := [.castable "java/util/NoSuchElementException" "java/util/NoSuchElementException", .castable "java/lang/IllegalArgumentException" "java/lang/IllegalArgumentException",
  .declares (Bundle.initS "java/lang/RuntimeException"), .declares (Bundle.initS "java/lang/Exception"), .declares (Bundle.initS Bundle.tN)]
/-- the texts of the throws, by class and place -/
def STs : List (String × Nat × String) := [("WingTrams", 114, "the tape has not so many bytes"), ("WingTrams", 205, "no such count"), ("WingTrams", 227, "no such thing of a roof"), ("WingTrams", 255, "no such thing of an owl"), ("WingTrams", 257, "no such stop, or thing of a stop"), ("WingTrams", 283, "no such thing of a rider"), ("WingTrams", 288, "no such roof"), ("WingTrams", 290, "no such owl"), ("WingTrams", 292, "no such rider"), ("WingTrams", 317, "riders that there aren't, or a minute below 0"), ("WingTrams", 330, "no row is kept"), ("WingTrams", 348, "no such thing of beams"), ("WingTrams", 350, "not so many beams, or minutes"), ("WingTrams", 361, "not 1 to 8 straps"), ("WingTrams", 399, "no such thing of bats"), ("WingTrams", 413, "no such thing of years"), ("WingTrams", 415, "not 0 to 60 nights")]
/-- the two texts that are read: their literals, String's own whole numbers -/
def tx_b : List (List Int32) := tx_l.map (fun l => l.map Int32.ofInt)
def dTx (G : dG) (U : State) (H : Heap) : Prop :=
  vk_S 2 [9, 91] tx_b (fun i => G.2.1 (1 + i)) (fun i => G.2.1 (11 + i)) (rg G) U H ∧ (vk_R "WingTrams$Tokens" 58 ";()+-*/<=" (G.2.1 1) U ∧ vk_R "WingTrams$Tokens" 69 "roof flight tawny barn white rider dawn hunts or and not mice grain kind stop moon wet hour" (G.2.1 2) U) ∧
  va_Z "java/lang/String" "COMPACT_STRINGS" "Z" (.int 1) (rg G) U H ∧ va_Zq "jdk/internal/util/Preconditions" "SIOOBE_FORMATTER" "Ljava/util/function/BiFunction;" (rg G) U H
theorem dTx.warm {G : dG} {s U : State} {H0 H : Heap} (h : dTx G s H0) (hW : s.WarmedH U.vm) (hk : ∀ q : Nat, q < H0.size → ¬ rg G q → H[q]? = H0[q]?) : dTx G U H := by
  obtain ⟨h1, ⟨h2, h3⟩, h4, h5⟩ := h
  exact ⟨vk_S.moved hW.alike (h1.kept hk), ⟨vk_R.warm hW h2, vk_R.warm hW h3⟩, va_Z.moved hW.alike (h4.kept hk), va_Zq.moved hW.alike (h5.kept hk)⟩
theorem dTx.same {G : dG} {s U : State} {H : Heap} (h : dTx G s H) (hv : U.vm = s.vm) : dTx G U H := by
  obtain ⟨h1, ⟨h2, h3⟩, h4, h5⟩ := h
  have ha : s.vm.Alike U.vm := by rw [hv]; exact Vm.Alike.refl s.vm
  exact ⟨vk_S.moved ha h1, ⟨vk_R.same hv h2, vk_R.same hv h3⟩, va_Z.moved ha h4, va_Zq.moved ha h5⟩
def dEv (G : dG) (U : State) (H : Heap) : Prop :=
  va_K G.2.2.1 vwCl (dT G) U ∧ vx_Zq Bundle.tN "UNASSIGNED_STACK" Bundle.steD (rg G) U H ∧ vx_Zq Bundle.tN "SUPPRESSED_SENTINEL" Bundle.listD (rg G) U H ∧ (∀ w ∈ NWs, va_Nw w U) ∧ (∀ q ∈ STs, ∃ a : Nat, vk_R q.1 q.2.1 q.2.2 a U) ∧ dTx G U H
theorem NWs_warm {s U : State} (hW : s.WarmedH U.vm) (h : ∀ w ∈ NWs, va_Nw w s) : ∀ w ∈ NWs, va_Nw w U := by
  have h1 := h
  unfold NWs at h1 ⊢
  simp only [List.forall_mem_cons] at h1 ⊢
  obtain ⟨a1, a2, a3, a4, a5, -⟩ := h1
  exact ⟨va_Nw.warmC hW a1, va_Nw.warmC hW a2, va_Nw.warmD hW a3, va_Nw.warmD hW a4, va_Nw.warmD hW a5, fun _ h => absurd h List.not_mem_nil⟩
theorem dEv.warm {G : dG} {s U : State} {H0 H : Heap} (h : dEv G s H0) (hW : s.WarmedH U.vm) (hk : ∀ q : Nat, q < H0.size → ¬ rg G q → H[q]? = H0[q]?) : dEv G U H := by
  obtain ⟨h1, h2, h3, h4, h5, h6⟩ := h
  exact ⟨va_K.moved hW.alike h1, vx_Zq.moved hW.alike (h2.kept hk), vx_Zq.moved hW.alike (h3.kept hk), NWs_warm hW h4, fun q hq => (h5 q hq).imp fun a ha => vk_R.warm hW ha, h6.warm hW hk⟩
theorem dEv.same {G : dG} {s U : State} {H : Heap} (h : dEv G s H) (hv : U.vm = s.vm) : dEv G U H := by
  obtain ⟨h1, h2, h3, h4, h5, h6⟩ := h
  have ha : s.vm.Alike U.vm := by rw [hv]; exact Vm.Alike.refl s.vm
  refine ⟨va_K.moved ha h1, vx_Zq.moved ha h2, vx_Zq.moved ha h3, fun w hw => va_Nw.same ?_ hv.symm (h4 w hw), fun q hq => (h5 q hq).imp fun a h => vk_R.same hv h, h6.same hv⟩
  revert w
  unfold NWs
  simp only [List.forall_mem_cons]
  exact ⟨rfl, rfl, rfl, rfl, rfl, fun _ h => absurd h List.not_mem_nil⟩
def dPc (G : dG) (fr : Bool) (as : List dX) (σ : dS) : Array Value → State → Prop := fun v U => v = (as.map (dv G)).toArray ∧ Wd G fr σ U.heap ∧ dEv G U U.heap
def dQc (G : dG) (fr : Bool) (Q : dR → dS → Prop) : Array Value → State → Outcome → State → Prop := fun _ st o t =>
  (∃ (r : Option dX) (σ' : dS), o = .returned (r.map (dv G)) ∧ (∀ v, r = some v → wfx v) ∧ Q (.inl r) σ' ∧ Wd G fr σ' t.heap) ∧ va_F (rg G) st t
def dXC (G : dG) (fr : Bool) (Q : dR → dS → Prop) : String → State → State → Prop := fun E st t => ∃ (x : Nat) (σ' : dS), E = exn x ∧ Q (.inr x) σ' ∧ Wd G fr σ' t.heap ∧ va_F (rg G) st t
def dWs (q : dM) : List Cond := Cond.code q.1 q.2.1 q.2.2.1 q.2.2.2.1 :: TBg
def dRm (d mc ms : Nat) : Room := { frames := d + 20, cells := mc, slots := ms, locals := 60 * d + 400 }
/-- method q keeps its contract, its calls at most d deep, if Cw says of it what wpm says -/
def dMet (l : Launch) (G : dG) (d : Nat) (Cw : List dX → dS → (dR → dS → Prop) → Prop) (q : dM) : Prop := ∀ (as : List dX) (σ : dS) (Q : dR → dS → Prop), wfs as → Cw as σ Q →
  vx_Met l q.1 (dWs q) (dRm d q.2.2.2.2.2.2.1.1 q.2.2.2.2.2.2.1.2) (dPc G q.2.2.2.2.2.2.2 as σ) (dQc G q.2.2.2.2.2.2.2 Q) (dXC G q.2.2.2.2.2.2.2 Q) q.2.2.2.2.2.2.1.1 q.2.2.2.2.2.2.1.2 (rg G)
theorem dPc_blind {G : dG} {fr : Bool} {as : List dX} {σ : dS} : FrameBlind (dPc G fr as σ) := fun _ U _ _ h => ⟨h.1, h.2.1, h.2.2.same (s := U) rfl⟩
theorem popN_spec : ∀ (n : Nat) (acc st as r : List dX), popN n acc st = some (as, r) → ∃ p : List dX, p.length = n ∧ st = p ++ r ∧ as = p.reverse ++ acc
  | 0, acc, st, as, r, h => by
    simp only [popN, Option.some.injEq, Prod.mk.injEq] at h
    exact ⟨[], rfl, by rw [h.2]; rfl, by rw [h.1]; rfl⟩
  | n + 1, acc, [], as, r, h => by simp [popN] at h
  | n + 1, acc, v :: st, as, r, h => by
    obtain ⟨p, h1, h2, h3⟩ := popN_spec n (v :: acc) st as r h
    exact ⟨v :: p, by rw [List.length_cons, h1], by rw [h2]; rfl, by rw [h3]; simp⟩
section DR7
variable {p : Program} {l : Launch} {e : Env} {R : Room} {s : State} {m : MethodId} {args : Array Value} {below : List Frame} {meth : Method} {c : Code} {Qm : State → Prop} {G : dG} {fr : Bool} {nL pc : Nat} {cc : ByteArray} {u : Nat × Nat} {ls : dL} {st : List dX} {σ : dS}
/-- behind a call: it answered, and the machine goes on; or it threw -/
theorem q_run {H : Heap} {locs : List Loc} {la : Array Slot} {mc ms : Nat} {st0 : List Value} {rest : List dX} {a : Array Value} {Q' : dR → dS → Prop}
    (hr : vx_Run p l e R s m args below meth c H locs u.1 u.2 mc ms (F0 m pc la st0) (rest.map (dv G)) (dQc G fr Q' a) (dXC G fr Q') (rg G)) (hS : va_S (rg G) s.heap H locs)
    (kk : ∀ (r : Option dX) (σ' : dS) (H1 : Heap) (locs1 : List Loc), (∀ v, r = some v → wfx v) → Q' (.inl r) σ' → Wd G fr σ' H1 → va_S (rg G) s.heap H1 locs1 → W p l e R s m args below meth c H1 locs1 (u.1 + mc) (u.2 + ms) Qm (F0 m (pc + 3) la ((r.toList ++ rest).map (dv G))))
    (kx : ∀ (x : Nat) (σ' : dS) (H1 : Heap) (locs1 : List Loc) (ce : Cell) (q : Addr), Q' (.inr x) σ' → Wd G fr σ' H1 → va_S (rg G) s.heap H1 locs1 → H1[q]? = some ce → ce.vm = .none → s.vm.findClass (exn x) = some ce.cls → vx_W p l e R s m args below meth c H1 locs1 (u.1 + mc) (u.2 + ms) Qm (F0 m pc la (rest.map (dv G))) q) :
    W p l e R s m args below meth c H locs u.1 u.2 Qm (F0 m pc la st0) := by
  intro T hT X
  rcases hr T hT X with ⟨v, st₀, t, T', L, h0, X', hL, e1, e2, ⟨⟨r, σ', hv, hw, hQ, hW⟩, hF⟩, go⟩ | ⟨q, st₀, t, T', L, E, ce, h0, X', hL, e1, e2, ⟨x, σ', hE, hQ, hW, hF⟩, hce, hcv, hcl, go⟩
  · cases hv
    obtain ⟨-, -, k3⟩ := vx_keep h0 e1 hS (fun q _ h => h) (fun q h => h) hL hF
    obtain ⟨t2, a1, b1⟩ := kk r σ' T'.heap (locs ++ L) hw hQ (by rw [e1]; exact hW) k3 T' rfl X'
    refine ⟨t2, go t2 ?_, b1⟩
    have : (r.map (dv G)).toList ++ rest.map (dv G) = (r.toList ++ rest).map (dv G) := by cases r <;> rfl
    rw [this]
    exact a1
  · obtain ⟨-, -, k3⟩ := vx_keep h0 e1 hS (fun q _ h => h) (fun q h => h) hL hF
    subst hE
    obtain ⟨t2, a1, b1⟩ := kx x σ' T'.heap (locs ++ L) ce q hQ (by rw [e1]; exact hW) k3 (by rw [e1]; exact hce) hcv hcl T' rfl X'
    exact ⟨t2, go.trans a1, b1⟩
set_option maxRecDepth 20000 in
theorem q_room {z d L : Nat} (h : z ≤ 40) (h2 : 60 * d + 460 ≤ L) : 8 + (z + 11) + (60 * d + 400) ≤ L := by omega
theorem q_callB {own : String} {b d n : Nat} {q : dM} (hts : ∀ w ∈ TBg, w.before args s = true) (ok : okM q) (hlink : Cond.methodLink own b q.1 ∈ TBg) (hn : q.2.2.2.2.2.1 = n) (hRf : d + 20 + 1 ≤ R.frames) (hRl : 60 * d + 460 ≤ R.locals) :
    CallB R s args own b q.1 q.2.1 q.2.2.1 q.2.2.2.1 (dWs q) (dRm d q.2.2.2.2.2.2.1.1 q.2.2.2.2.2.2.1.2) q.2.2.2.2.2.2.1.1 q.2.2.2.2.2.2.1.2 n := by
  obtain ⟨o1, o2, -, -, -, o6, o7, o8⟩ := ok
  have good : ∀ w ∈ TBg, ∀ (a' : Array Value) (U : State), s.WarmedH U.vm → w.before a' U = true := fun w hw a' U hW => word_at hW (good_of_word (List.mem_filter.mp hw).2) (hts w hw)
  refine ⟨rfl, rfl, hRf, ?_, fun w hw => ?_, List.mem_cons_self, hts _ o1, hts _ o2, o6, fun sig h => ?_, hts _ hlink⟩
  · exact q_room o8 hRl
  · rcases List.mem_cons.mp hw with rfl | hw
    · exact good _ o1
    · exact good _ hw
  · rw [h] at o7
    rw [← hn]
    exact (Option.some.inj o7).symm
/-- what a call item says of its callee's row q -/
def okK (own : String) (b : Nat) (tl : List Nat) (kind : Nat) (q : dM) : Prop := okM q ∧ Cond.methodLink own b q.1 ∈ TBg ∧ q.2.2.2.2.1 = kind ∧ n0 tl 1 = q.2.2.2.2.2.1 + (if kind = 1 then 0 else 1) ∧ n0 tl 3 = q.2.2.2.2.2.2.1.1 ∧ n0 tl 4 = q.2.2.2.2.2.2.1.2 ∧ (kind = 0 → ∃ w : vw_C, 1 ≤ n0 tl 2 ∧ vwCl[n0 tl 2 - 1]? = some w ∧ w.1 = q.1.cls)
theorem q_runV {own : String} {b d : Nat} {q : dM} {H : Heap} {locs : List Loc} {la : Array Slot} {t c0 : Nat} {fs : List Nat} {as' r : List dX} {Q' : dR → dS → Prop} {w : vw_C} (hx : p.tables.exec = Jvm.exec) (hb : c.code = cc) (hml : c.maxLocals = nL) (hts : ∀ w ∈ TBg, w.before args s = true) (hown : s.vm.findClass own = some m.cls) (hE : dEv G s s.heap) (hW : Wd G fr σ H) (hS : va_S (rg G) s.heap H locs) (okm : okM q) (hlink : Cond.methodLink own b q.1 ∈ TBg) (hkind : q.2.2.2.2.1 = 0) (hRf : d + 20 + 1 ≤ R.frames) (hRl : 60 * d + 460 ≤ R.locals)
    (hla : la.size = nL) (hwt : wt r ≤ 8) (hroom : u.1 + q.2.2.2.2.2.2.1.1 ≤ R.cells ∧ u.2 + q.2.2.2.2.2.2.1.2 ≤ R.slots) (hd : decode cc pc = .ok (.invokevirtual b, 3)) (hs : spx t = some (.inr (c0, fs))) (hT : isT fr σ t) (hw2 : vwCl[c0]? = some w) (hw3 : w.1 = q.1.cls) (hnar : as'.length = q.2.2.2.2.2.1)
    (hMet : vx_Met l q.1 (dWs q) (dRm d q.2.2.2.2.2.2.1.1 q.2.2.2.2.2.2.1.2) (dPc G fr (.inr (.inr t) :: as') σ) (dQc G fr Q') (dXC G fr Q') q.2.2.2.2.2.2.1.1 q.2.2.2.2.2.2.1.2 (rg G)) :
    vx_Run p l e R s m args below meth c H locs u.1 u.2 q.2.2.2.2.2.2.1.1 q.2.2.2.2.2.2.1.2 (F0 m pc la ((as'.map (dv G)).reverse ++ .ref (adr G t) :: r.map (dv G))) (r.map (dv G)) (dQc G fr Q' ((Value.ref (adr G t) :: as'.map (dv G)).toArray)) (dXC G fr Q') (rg G) := by
  obtain ⟨hi, hse⟩ := okm.2.2.1 hkind
  have hcell := hW.cell (isT_lt hT hs) hs
  have hrc := va_recv hE.1 hW.1 hw2 hcell
  rw [hw3, ← adr_spx hs] at hrc
  refine vx_runV (As := as'.map (dv G)) (rest := r.map (dv G)) ⟨hx, hb, hml, hown, hts⟩ hMet ⟨q_callB hts okm hlink rfl hRf hRl, hts _ hi, hts _ hse⟩ ⟨dPc_blind, hrc, fun U hU hWm => ⟨rfl, by rw [hU]; exact hW, by rw [hU]; exact hE.warm hWm hS.2.1⟩⟩ rfl (by rw [List.length_map]; exact hnar) hla rfl ?_ hd hroom
  rw [dv_cats, wt_sum]
  show 2 * 0 + _ ≤ 8
  omega
theorem q_runS {own : String} {b d : Nat} {q : dM} {H : Heap} {locs : List Loc} {la : Array Slot} {as' r : List dX} {Q' : dR → dS → Prop} (hx : p.tables.exec = Jvm.exec) (hb : c.code = cc) (hml : c.maxLocals = nL) (hts : ∀ w ∈ TBg, w.before args s = true) (hown : s.vm.findClass own = some m.cls) (hE : dEv G s s.heap) (hW : Wd G fr σ H) (hS : va_S (rg G) s.heap H locs) (okm : okM q) (hlink : Cond.methodLink own b q.1 ∈ TBg) (hkind : q.2.2.2.2.1 = 1) (hRf : d + 20 + 1 ≤ R.frames) (hRl : 60 * d + 460 ≤ R.locals)
    (hla : la.size = nL) (hwt : wt r ≤ 8) (hroom : u.1 + q.2.2.2.2.2.2.1.1 ≤ R.cells ∧ u.2 + q.2.2.2.2.2.2.1.2 ≤ R.slots) (hd : decode cc pc = .ok (.invokestatic b, 3)) (hnar : as'.length = q.2.2.2.2.2.1)
    (hMet : vx_Met l q.1 (dWs q) (dRm d q.2.2.2.2.2.2.1.1 q.2.2.2.2.2.2.1.2) (dPc G fr as' σ) (dQc G fr Q') (dXC G fr Q') q.2.2.2.2.2.2.1.1 q.2.2.2.2.2.2.1.2 (rg G)) :
    vx_Run p l e R s m args below meth c H locs u.1 u.2 q.2.2.2.2.2.2.1.1 q.2.2.2.2.2.2.1.2 (F0 m pc la ((as'.map (dv G)).reverse ++ r.map (dv G))) (r.map (dv G)) (dQc G fr Q' (as'.map (dv G)).toArray) (dXC G fr Q') (rg G) := by
  refine vx_runS (As := as'.map (dv G)) (rest := r.map (dv G)) ⟨hx, hb, hml, hown, hts⟩ hMet ⟨q_callB hts okm hlink rfl hRf hRl, hts _ (okm.2.2.2.1 hkind)⟩ ⟨dPc_blind, fun U hU hWm => ⟨rfl, by rw [hU]; exact hW, by rw [hU]; exact hE.warm hWm hS.2.1⟩⟩ rfl (by rw [List.length_map]; exact hnar) hla rfl ?_ hd hroom
  rw [dv_cats, wt_sum]
  show 2 * 0 + _ ≤ 8
  omega
theorem q_runI {own : String} {b d : Nat} {q : dM} {H : Heap} {locs : List Loc} {la : Array Slot} {t : Nat} {as' r : List dX} {Q' : dR → dS → Prop} (hx : p.tables.exec = Jvm.exec) (hb : c.code = cc) (hml : c.maxLocals = nL) (hts : ∀ w ∈ TBg, w.before args s = true) (hown : s.vm.findClass own = some m.cls) (hE : dEv G s s.heap) (hW : Wd G fr σ H) (hS : va_S (rg G) s.heap H locs) (okm : okM q) (hlink : Cond.methodLink own b q.1 ∈ TBg) (hkind : q.2.2.2.2.1 = 2) (hRf : d + 20 + 1 ≤ R.frames) (hRl : 60 * d + 460 ≤ R.locals)
    (hla : la.size = nL) (hwt : wt r ≤ 8) (hroom : u.1 + q.2.2.2.2.2.2.1.1 ≤ R.cells ∧ u.2 + q.2.2.2.2.2.2.1.2 ≤ R.slots) (hd : decode cc pc = .ok (.invokespecial b, 3)) (hnar : as'.length = q.2.2.2.2.2.1)
    (hMet : vx_Met l q.1 (dWs q) (dRm d q.2.2.2.2.2.2.1.1 q.2.2.2.2.2.2.1.2) (dPc G fr (.inr (.inr t) :: as') σ) (dQc G fr Q') (dXC G fr Q') q.2.2.2.2.2.2.1.1 q.2.2.2.2.2.2.1.2 (rg G)) :
    vx_Run p l e R s m args below meth c H locs u.1 u.2 q.2.2.2.2.2.2.1.1 q.2.2.2.2.2.2.1.2 (F0 m pc la ((as'.map (dv G)).reverse ++ .ref (adr G t) :: r.map (dv G))) (r.map (dv G)) (dQc G fr Q' ((Value.ref (adr G t) :: as'.map (dv G)).toArray)) (dXC G fr Q') (rg G) := by
  obtain ⟨hi, hnm, hrt⟩ := okm.2.2.2.2.1 hkind
  have hcb := q_callB (R := R) (d := d) hts okm hlink rfl hRf hRl
  rw [hrt] at hcb
  refine vx_runI (As := as'.map (dv G)) (rest := r.map (dv G)) ⟨hx, hb, hml, hown, hts⟩ hMet ⟨hcb, hnm, hts _ hi⟩ ⟨dPc_blind, fun U hU hWm => ⟨rfl, by rw [hU]; exact hW, by rw [hU]; exact hE.warm hWm hS.2.1⟩⟩ rfl (by rw [List.length_map]; exact hnar) hla rfl ?_ hd hroom
  rw [dv_cats, wt_sum]
  show 2 * 0 + _ ≤ 8
  omega
theorem r_call {C : dC} {B : Nat × Nat} {Q : dR → dS → Prop} {own : String} {b d kind : Nat} {tl : List Nat} {q : dM} {ins : Instr} (hx : p.tables.exec = Jvm.exec) (hb : c.code = cc) (hml : c.maxLocals = nL) (hts : ∀ w ∈ TBg, w.before args s = true) (hown : s.vm.findClass own = some m.cls) (hE : dEv G s s.heap) (ok : okK own b tl kind q) (hfr : q.2.2.2.2.2.2.2 = fr)
    (hM : dMet l G d (fun as σ Q => C (n0 tl 0) as σ Q) q) (hB : B.1 ≤ R.cells ∧ B.2 ≤ R.slots) (hRf : d + 20 + 1 ≤ R.frames) (hRl : 60 * d + 460 ≤ R.locals)
    (hd : decode cc pc = .ok (ins, 3)) (hins : kind = 0 ∧ ins = .invokevirtual b ∨ kind = 1 ∧ ins = .invokestatic b ∨ kind = 2 ∧ ins = .invokespecial b) {ci : Nat} (hci : kind = 0 ∧ ci = n0 tl 2 ∧ ci ≠ 999 ∨ kind = 1 ∧ ci = 0 ∨ kind = 2 ∧ ci = 999)
    (hthr : ∀ (x : Nat) (σ' : dS) (H1 : Heap) (locs1 : List Loc) (ce : Cell) (q9 : Addr) (la : Array Slot) (rest : List Value) (u' : Nat × Nat), la.size = nL → u'.1 ≤ B.1 → u'.2 ≤ B.2 → Q (.inr x) σ' → Wd G fr σ' H1 → va_S (rg G) s.heap H1 locs1 → H1[q9]? = some ce → ce.vm = .none → s.vm.findClass (exn x) = some ce.cls → vx_W p l e R s m args below meth c H1 locs1 u'.1 u'.2 Qm (F0 m pc la rest) q9)
    (k : s_call fr C B Q (n0 tl 0) (n0 tl 1) ci (n0 tl 3) (n0 tl 4) (VW p l e R s m args below meth c Qm G fr nL (pc + 3)) u ls st σ) : VW p l e R s m args below meth c Qm G fr nL pc u ls st σ := by
  intro hn w1 w2 H locs la hW hS hl
  obtain ⟨okm, hlink, hkind, hnar, hmc, hms, hcls⟩ := ok
  unfold s_call at k
  split at k
  · rename_i as r hp
    obtain ⟨hwt, hb1, hb2, hrec, hC⟩ := k
    obtain ⟨pp, hp1, hp2, hp3⟩ := popN_spec _ _ _ _ _ hp
    rw [List.append_nil] at hp3
    have was : wfs as := fun v hv => w2 v (by rw [hp2]; rw [hp3] at hv; exact List.mem_append_left _ (List.mem_reverse.mp hv))
    have wr0 : wfs r := fun v hv => w2 v (by rw [hp2]; exact List.mem_append_right _ hv)
    have hMet := hM as σ _ was hC
    rw [hfr] at hMet
    have hroom : u.1 + q.2.2.2.2.2.2.1.1 ≤ R.cells ∧ u.2 + q.2.2.2.2.2.2.1.2 ≤ R.slots := by rw [← hmc, ← hms]; omega
    have hst2 : st.map (dv G) = (as.map (dv G)).reverse ++ r.map (dv G) := by
      rw [hp2, hp3, List.map_append, List.map_reverse, List.reverse_reverse]
    have hlen : as.length = n0 tl 1 := by rw [hp3, List.length_reverse]; exact hp1
    generalize hQ' : (fun (res : dR) (σ' : dS) => match res with
      | .inl (some v) => VW p l e R s m args below meth c Qm G fr nL (pc + 3) (u.1 + n0 tl 3, u.2 + n0 tl 4) ls (v :: r) σ'
      | .inl none => VW p l e R s m args below meth c Qm G fr nL (pc + 3) (u.1 + n0 tl 3, u.2 + n0 tl 4) ls r σ'
      | .inr e => Q (.inr e) σ') = Q' at hMet
    have hrun : vx_Run p l e R s m args below meth c H locs u.1 u.2 q.2.2.2.2.2.2.1.1 q.2.2.2.2.2.2.1.2 (F0 m pc la (st.map (dv G))) (r.map (dv G)) (dQc G fr Q' (as.map (dv G)).toArray) (dXC G fr Q') (rg G) := by
      rw [hst2]
      rcases hins with ⟨hk0, rfl⟩ | ⟨hk0, rfl⟩ | ⟨hk0, rfl⟩
      · subst hk0
        have hci : ci = n0 tl 2 ∧ ci ≠ 999 := by
          rcases hci with h | h | h
          · exact h.2
          · exact absurd h.1 (by decide)
          · exact absurd h.1 (by decide)
        obtain ⟨hci, hci9⟩ := hci
        obtain ⟨w, hw1, hw2, hw3⟩ := hcls rfl
        rcases hrec with hrec | hrec
        · omega
        · split at hrec
          · rename_i t as'
            rcases hrec with hrec | hrec
            · exact absurd hrec hci9
            split at hrec
            · rename_i c0 fs hs
              obtain ⟨hc0, hT⟩ := hrec
              have hq := q_runV (R := R) (e := e) (below := below) (meth := meth) (la := la) (as' := as') (r := r) (u := u) hx hb hml hts hown hE hW hS okm hlink hkind hRf hRl hl.1 hwt hroom hd hs hT (by rw [show c0 = n0 tl 2 - 1 by omega]; exact hw2) hw3 (by simp at hlen hnar; omega) hMet
              have e9 : ((Sum.inr (Sum.inr t) :: as' : List dX).map (dv G)).reverse ++ r.map (dv G) = (as'.map (dv G)).reverse ++ .ref (adr G t) :: r.map (dv G) := by
                rw [List.map_cons, List.reverse_cons, List.append_assoc]
                rfl
              rw [e9]
              exact hq
            · exact hrec.elim
          · exact hrec.elim
      · subst hk0
        exact q_runS hx hb hml hts hown hE hW hS okm hlink hkind hRf hRl hl.1 hwt hroom hd (by simp at hnar; omega) hMet
      · subst hk0
        have hci : ci = 999 := by
          rcases hci with h | h | h
          · exact absurd h.1 (by decide)
          · exact absurd h.1 (by decide)
          · exact h.2
        have h9 : ∃ (t : Nat) (as' : List dX), as = .inr (.inr t) :: as' := by
          rcases hrec with hrec | hrec
          · omega
          · split at hrec
            · rename_i t as'
              exact ⟨t, as', rfl⟩
            · exact hrec.elim
        obtain ⟨t, as', rfl⟩ := h9
        have hq := q_runI (R := R) (e := e) (below := below) (meth := meth) (la := la) (t := t) (as' := as') (r := r) (u := u) hx hb hml hts hown hE hW hS okm hlink hkind hRf hRl hl.1 hwt hroom hd (by simp at hlen hnar; omega) hMet
        have e9 : ((Sum.inr (Sum.inr t) :: as' : List dX).map (dv G)).reverse ++ r.map (dv G) = (as'.map (dv G)).reverse ++ .ref (adr G t) :: r.map (dv G) := by
          rw [List.map_cons, List.reverse_cons, List.append_assoc]
          rfl
        rw [e9]
        exact hq
    subst hQ'
    refine q_run hrun hS ?_ ?_
    · intro res σ' H1 locs1 hwf hQ hW1 hS1
      rw [← hmc, ← hms]
      rcases res with _ | v
      · exact hQ hn w1 wr0 H1 locs1 la hW1 hS1 hl
      · exact hQ hn w1 (wfs_c (hwf v rfl) wr0) H1 locs1 la hW1 hS1 hl
    · intro x σ' H1 locs1 ce q9 hQ hW1 hS1 h1 h2 h3
      rw [← hmc, ← hms]
      exact hthr x σ' H1 locs1 ce q9 la _ (u.1 + n0 tl 3, u.2 + n0 tl 4) hl.1 hb1 hb2 hQ hW1 hS1 h1 h2 h3
  · exact k.elim
end DR7
