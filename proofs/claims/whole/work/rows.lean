section
/-! ===== BEGIN words of one list among another's, by their places ===== -/
theorem goodIn_r {big : List Cond} (ws : List Cond) (ps : List Nat) (hp : ws = ps.filterMap (fun i => big[i]?)) (h : ws.all goodWord = true) : GoodIn big ws := by
  intro w hw
  have h1 := List.all_eq_true.mp h w hw
  rw [hp] at hw
  obtain ⟨i, -, hi⟩ := List.mem_filterMap.mp hw
  have hm : w ∈ big := by first | exact List.mem_of_getElem? hi | exact List.getElem?_mem hi
  exact ⟨hm, good_of_word h1⟩
theorem goodIn_app {big a b : List Cond} (ha : GoodIn big a) (hb : GoodIn big b) : GoodIn big (a ++ b) := fun w h => (List.mem_append.mp h).elim (ha w) (hb w)
theorem goodIn_ca {big a b : List Cond} {c : Cond} (ha : GoodIn big (c :: a)) (hb : GoodIn big b) : GoodIn big (c :: (a ++ b)) := fun w h => (List.mem_cons.mp h).elim (fun e => ha w (List.mem_cons.mpr (Or.inl e))) (fun h => (List.mem_append.mp h).elim (fun h => ha w (List.mem_cons.mpr (Or.inr h))) (hb w))
theorem goodIn_sub {big ws : List Cond} (hm : ∀ w ∈ ws, w ∈ big) (h : ws.all goodWord = true) : GoodIn big ws := fun w hw => ⟨hm w hw, good_of_word (List.all_eq_true.mp h w hw)⟩
/-! ===== END ===== -/
/-! ===== BEGIN exceptions that leave a method, and their catching by the caller (launches without stack traces) ===== -/
section VXA
/-! The laws vx_back, vx_callV, vx_callS, vx_callSW, vx_throw0, vx_throwS follow proofs of the library, with one case more: JvmDerived/Free/Laws.lean (Back.of_free), Shelf42/LK1.lean (callV, callS), Shelf/KitTraced.lean (throwNew0V, throwNewS). -/
/-- where a method has thrown q: the class by its name, the cell, what was written, the world -/
def vx_T (XC : String → State → State → Prop) (st : State) (q : Addr) (t : State) (mc ms : Nat) (free : Addr → Prop) : Prop :=
  ∃ (E : String) (ce : Cell) (L : List Loc), XC E st t ∧ t.heap[q]? = some ce ∧ ce.vm = .none ∧ st.vm.findClass E = some ce.cls ∧ st.WarmedH t.vm ∧ st.sameButNew ({ t with vm := st.vm } : State) L mc ms ∧ ∀ z ∈ L, free z.base
def vx_Q (Qc : Array Value → State → Outcome → State → Prop) (XC : String → State → State → Prop) (mc ms : Nat) (free : Addr → Prop) : Array Value → State → Outcome → State → Prop := fun a st o t =>
  (Qc a st o t ∧ ∃ L, FrameEnd st o t L mc ms ∧ ∀ q ∈ L, free q.base) ∨ ∃ q, o = .threw q ∧ vx_T XC st q t mc ms free
/-- a callee that returns or throws -/
def vx_Met (l : Launch) (y : MethodName) (ws : List Cond) (rm : Room) (Pc : Array Value → State → Prop) (Qc : Array Value → State → Outcome → State → Prop) (XC : String → State → State → Prop) (mc ms : Nat) (free : Addr → Prop) : Prop :=
  MetFree l y (headSpec ws rm) Pc (fun _ _ _ _ _ => True) (vx_Q Qc XC mc ms free)
def vx_Post (XC : String → State → State → Prop) (mc ms : Nat) (free : Addr → Prop) : Pt → Array Value → Addr → Pt → Prop := fun A a q B =>
  ∃ (g : JFrame) (mk : MethodId) (t : State) (L : List Loc) (E : String) (ce : Cell), B.U.heap = t.heap ∧ B.U.vm = t.vm ∧ XC E (A.U.calling g mk a) t ∧ t.heap[q]? = some ce ∧ ce.vm = .none ∧ A.U.vm.findClass E = some ce.cls ∧ B.locs = A.locs ++ L ∧ (∀ z ∈ L, free z.base) ∧ B.cells = A.cells + mc ∧ B.slots = A.slots + ms
def vx_Back (l : Launch) (R : Room) (p : Program) (e : Env) (below : List Frame) (s : State) (sargs : Array Value) (y : MethodName) (len W9 : Nat)
    (Pre : Pt → Array Value → Prop) (Post : Pt → Array Value → Option Value → Pt → Prop) (PostX : Pt → Array Value → Addr → Pt → Prop) : Prop :=
  ∀ (m : MethodId) (meth : Method) (c : Code) (A : Pt) (g : JFrame) (ig : Instr) (mk : MethodId) (a : Array Value),
    Stand p l e R s m sargs below meth c A.U A.locs A.cells A.slots → g.method = m → g.locals.size = c.maxLocals → decode c.code g.pc = .ok (ig, len) →
    2 * g.monitorRoom + (g.stack.map fun v => v.category).sum ≤ W9 → A.U.methodNamed? y = some mk → Pre A a →
    (∃ (v : Option Value) (B : Pt), Stand p l e R s m sargs below meth c B.U B.locs B.cells B.slots ∧ Post A a v B ∧
      Steps p.tables e below (doInvoke e (A.U.setTop g) [] mk a).1 (B.U.setTop { g with pc := g.pc + len, stack := v.toList ++ g.stack })) ∨
    (∃ (q : Addr) (B : Pt), Stand p l e R s m sargs below meth c B.U B.locs B.cells B.slots ∧ PostX A a q B ∧
      Steps p.tables e below (doInvoke e (A.U.setTop g) [] mk a).1 ((B.U.setTop g).pushFrame (.throwing q)))
section Payer
variable {l : Launch} {R : Room} {p : Program} {e : Env} {below : List Frame} {s : State} {sargs : Array Value} {y : MethodName} {len W9 : Nat}
theorem vx_back {ws : List Cond} {rm : Room} {Pc : Array Value → State → Prop} {Qc : Array Value → State → Outcome → State → Prop} {XC : String → State → State → Prop} {mc ms : Nat} {free : Addr → Prop} {bytes : ByteArray} {maxL : Nat} {ret : Option FieldType}
    (hM : vx_Met l y ws rm Pc Qc XC mc ms free) (hblind : FrameBlind Pc) (hrc : rm.cells = mc) (hrs : rm.slots = ms)
    (hframes : rm.frames + 1 ≤ R.frames) (hlocals : W9 + (maxL + 11) + rm.locals ≤ R.locals)
    (hws : ∀ w ∈ ws, ∀ a' U, s.WarmedH U.vm → w.before a' U = true) (hcode : Cond.code y bytes maxL ret ∈ ws) (hinit : ∀ a' U, s.WarmedH U.vm → (Cond.initialized y.cls).before a' U = true) :
    vx_Back l R p e below s sargs y len W9 (PreOf R mc ms Pc) (PostOf Qc mc ms free) (vx_Post XC mc ms free) := by
  intro m meth c A g ig mk a X hg hsize hdg hW hn hp
  have h1 : (headSpec ws rm).pre.before a A.U = true := atoms_intro fun w hw => hws w hw _ _ X.warmed
  have h2 : (Cond.code y bytes maxL ret).before a A.U = true := hws _ hcode _ _ X.warmed
  have h3 : (Cond.initialized y.cls).before a A.U = true := hinit _ _ X.warmed
  have h4 : A.cells + (headSpec ws rm).room.cells ≤ R.cells := by rw [show (headSpec ws rm).room.cells = mc from hrc]; exact hp.1
  have h5 : A.slots + (headSpec ws rm).room.slots ≤ R.slots := by rw [show (headSpec ws rm).room.slots = ms from hrs]; exact hp.2.1
  have hPc : Pc a (A.U.calling g mk a) := hblind _ _ _ _ hp.2.2
  obtain ⟨U, Ls, c0, s0⟩ := A
  dsimp only [Pt.U, Pt.locs, Pt.cells, Pt.slots] at h1 h2 h3 h4 h5 X hn hPc ⊢
  obtain ⟨methY, cY, hmY, hcY, -, hlY, -, -, -, -⟩ := Cond.code_spec hn h2
  obtain ⟨kY, hkY, -⟩ := className_of_methodNamed hn
  have hinitY : kY.init = .initialized := Cond.initialized_spec (findClass_of_methodNamed hn) hkY h3
  have h : At U g.method c below := by rw [hg]; exact X.here
  have hlocals9 : W9 + (maxL + 11) + (headSpec ws rm).room.locals ≤ R.locals := hlocals
  have happ : (headSpec ws rm).appliesLoose y e.platform (U.calling g mk a) = true :=
    Spec.appliesLoose_calling (g := g) h hdg hn hkY hinitY
      (X.room_calling (g := g) (R' := (headSpec ws rm).room) hsize hmY hcY hframes (by rw [hlY]; omega) h4 h5) h1
  obtain ⟨mid, hmid⟩ := h.above
  have hfr : (U.setTop g).frames = (.java g :: mid) ++ below := by rw [State.frames_setTop' g h.top, hmid]; rfl
  obtain ⟨o, s₂, hsteps, -, hend, hq⟩ := Steps.callFree hM p X.admits X.cas X.clock (acts := []) hfr happ hPc trivial
  have hq' : vx_Q Qc XC mc ms free a (U.calling g mk a) o s₂ := hq
  rw [State.frames_setTop' g h.top] at hend
  obtain ⟨g₀, hg0⟩ := Option.isSome_iff_exists.mp h.top
  obtain ⟨r, hr⟩ := State.topJava?_eq_some.mp hg0
  have hr' : (({ U with heap := s₂.heap, slotsUsed := s₂.slotsUsed } : State).setVm s₂.vm).frames = .java g₀ :: r := hr
  rcases hq' with ⟨hqc, L, hfe, hL⟩ | ⟨q, rfl, E, ce, L, hx, hce, hcv, hcl, hW₂, hsm, hL⟩
  · obtain ⟨⟨v, rfl⟩, hW₂, e2, q2, q3, q4, q5, q6⟩ := id hfe
    have e3 : s₂ = ({ (U.calling g mk a).setFrames s₂.frames with heap := s₂.heap, slotsUsed := s₂.slotsUsed } : State).setVm s₂.vm := by
      have : s₂ = ({ s₂ with vm := (U.calling g mk a).vm } : State).setVm s₂.vm := rfl
      rw [e2] at this
      exact this
    obtain ⟨c₂, i₂, len₂, hc₂, hd₂, hf₂⟩ := hend
    have hW' : U.WarmedH s₂.vm := hW₂
    have hcc : c₂ = c := by
      have h1 : s₂.code? g.method = U.code? g.method := by
        rw [State.code?_eq, State.code?_eq, hW'.alike.method?]
      exact Option.some.inj (hc₂.symm.trans (h1.trans h.code))
    subst hcc
    have hlen : len₂ = len := by rw [hdg] at hd₂; cases hd₂; rfl
    subst hlen
    have hs₂ : s₂ = (({ U with heap := s₂.heap, slotsUsed := s₂.slotsUsed } : State).setVm s₂.vm).setTop { g with pc := g.pc + len₂, stack := v.toList ++ g.stack } := by
      refine e3.trans ?_
      rw [hf₂, State.calling_eq h.top, State.setFrames_setFrames, State.setTop_of_frames _ hr', hr]
      rfl
    have hsame : U.sameButNew ({ U with heap := s₂.heap, slotsUsed := s₂.slotsUsed } : State) L mc ms := by
      refine ⟨?_, q2, q3, q4, q5, q6⟩
      obtain ⟨t, ht, -⟩ := State.frames_cons hr
      show ({ U with heap := s₂.heap, slotsUsed := s₂.slotsUsed } : State) = { U.setFrames U.frames with heap := s₂.heap, slotsUsed := s₂.slotsUsed }
      rw [State.setFrames_self ht]
    subst hg
    refine Or.inl ⟨v, ⟨(({ U with heap := s₂.heap, slotsUsed := s₂.slotsUsed } : State).setVm s₂.vm), Ls ++ L, c0 + mc, s0 + ms⟩,
      ⟨X.admits, X.cas, X.clock, X.frames, X.room, X.hears, X.method, X.code, (X.here.setHeapUsed s₂.heap s₂.slotsUsed).setVm hW'.alike, X.tail, State.WarmedH.trans X.warmed hW', X.limits, X.bytes, X.same.trans (hsame.setVm s.vm)⟩,
      ⟨g, mk, s₂, L, rfl, rfl, hqc, rfl, hL, rfl, rfl⟩, ?_⟩
    show Steps p.tables e below _ ((({ U with heap := s₂.heap, slotsUsed := s₂.slotsUsed } : State).setVm s₂.vm).setTop { g with pc := g.pc + len₂, stack := v.toList ++ g.stack })
    rw [← hs₂]
    exact hsteps
  · obtain ⟨e2, q2, q3, q4, q5, q6⟩ := id hsm
    have e3 : s₂ = ({ (U.calling g mk a).setFrames s₂.frames with heap := s₂.heap, slotsUsed := s₂.slotsUsed } : State).setVm s₂.vm := by
      have : s₂ = ({ s₂ with vm := (U.calling g mk a).vm } : State).setVm s₂.vm := rfl
      rw [e2] at this
      exact this
    have hf₂ : s₂.frames = .throwing q :: .java g :: U.frames.tail := hend
    have hW' : U.WarmedH s₂.vm := hW₂
    have hs₂ : s₂ = ((({ U with heap := s₂.heap, slotsUsed := s₂.slotsUsed } : State).setVm s₂.vm).setTop g).pushFrame (.throwing q) := by
      refine e3.trans ?_
      rw [hf₂, State.calling_eq h.top, State.setFrames_setFrames, State.pushFrame, State.frames_setTop _ hr', State.setTop_of_frames _ hr', State.setFrames_setFrames, hr]
      rfl
    have hsame : U.sameButNew ({ U with heap := s₂.heap, slotsUsed := s₂.slotsUsed } : State) L mc ms := by
      refine ⟨?_, q2, q3, q4, q5, q6⟩
      obtain ⟨t, ht, -⟩ := State.frames_cons hr
      show ({ U with heap := s₂.heap, slotsUsed := s₂.slotsUsed } : State) = { U.setFrames U.frames with heap := s₂.heap, slotsUsed := s₂.slotsUsed }
      rw [State.setFrames_self ht]
    subst hg
    refine Or.inr ⟨q, ⟨(({ U with heap := s₂.heap, slotsUsed := s₂.slotsUsed } : State).setVm s₂.vm), Ls ++ L, c0 + mc, s0 + ms⟩,
      ⟨X.admits, X.cas, X.clock, X.frames, X.room, X.hears, X.method, X.code, (X.here.setHeapUsed s₂.heap s₂.slotsUsed).setVm hW'.alike, X.tail, State.WarmedH.trans X.warmed hW', X.limits, X.bytes, X.same.trans (hsame.setVm s.vm)⟩,
      ⟨g, mk, s₂, L, E, ce, rfl, rfl, hx, hce, hcv, hcl, rfl, hL, rfl, rfl⟩, ?_⟩
    show Steps p.tables e below _ (((({ U with heap := s₂.heap, slotsUsed := s₂.slotsUsed } : State).setVm s₂.vm).setTop g).pushFrame (.throwing q))
    rw [← hs₂]
    exact hsteps
end Payer
section Calls
variable {p : Program} {l : Launch} {e : Env} {R : Room} {s : State} {m : MethodId} {args : Array Value} {below : List Frame} {meth : Method} {c : Code} {T : State} {locs : List Loc} {cells slots : Nat}
theorem vx_callV (X : Stand p l e R s m args below meth c T locs cells slots) (hexec : p.tables.exec = Jvm.exec) {own C : String} {index : Nat} {y : MethodName} {bytes : ByteArray} {maxL : Nat} {ret : Option FieldType}
    (hown : s.vm.findClass own = some m.cls) (hlink : (Cond.methodLink own index y).before args s = true) (hinst : (Cond.instanceMethod y).before args s = true) (hsel : (Cond.selects C y y).before args s = true)
    (hcode : (Cond.code y bytes maxL ret).before args s = true) (hy : y.cls ≠ "java/lang/invoke/MethodHandle" ∧ y.cls ≠ "java/lang/invoke/VarHandle")
    {W9 : Nat} {Pre : Pt → Array Value → Prop} {Post : Pt → Array Value → Option Value → Pt → Prop} {PostX : Pt → Array Value → Addr → Pt → Prop} (hK : vx_Back l R p e below s args y 3 W9 Pre Post PostX)
    {b : Addr} {cellB : Cell} (hcell : T.heap[b]? = some cellB) (hobj : cellB.vm.isStatics = false) (hcls : s.vm.findClass C = some cellB.cls)
    {g : JFrame} (hg : g.method = m) (hsize : g.locals.size = c.maxLocals) {argsL rest : List Value} (hlen : ∀ sig, parseMethodDescriptor y.desc = some sig → argsL.length = sig.parameters.length)
    (hstack : g.stack = argsL.reverse ++ .ref b :: rest) (hW : 2 * g.monitorRoom + (rest.map fun v => v.category).sum ≤ W9) (hdg : decode c.code g.pc = .ok (.invokevirtual index, 3))
    (hpre : ∀ vm₁, s.WarmedH vm₁ → Pre ⟨T.setVm vm₁, locs, cells, slots⟩ (Value.ref b :: argsL).toArray) :
    (∃ (v : Option Value) (vm₁ : Vm) (B : Pt), s.WarmedH vm₁ ∧ Stand p l e R s m args below meth c B.U B.locs B.cells B.slots ∧ Post ⟨T.setVm vm₁, locs, cells, slots⟩ (Value.ref b :: argsL).toArray v B ∧
      ∀ target, Steps p.tables e below (B.U.setTop { g with pc := g.pc + 3, stack := v.toList ++ rest }) target → Steps p.tables e below (T.setTop g) target) ∨
    (∃ (q : Addr) (vm₁ : Vm) (B : Pt), s.WarmedH vm₁ ∧ Stand p l e R s m args below meth c B.U B.locs B.cells B.slots ∧ PostX ⟨T.setVm vm₁, locs, cells, slots⟩ (Value.ref b :: argsL).toArray q B ∧
      Steps p.tables e below (T.setTop g) ((B.U.setTop { g with stack := rest }).pushFrame (.throwing q))) := by
  obtain ⟨mk, methM, hnamed, hmethM, hstM, habM⟩ := Cond.instanceMethod_spec hinst
  obtain ⟨methM', cM, hmethM', -, -, -, -, -, -, hsigM⟩ := Cond.code_spec hnamed hcode
  cases hmethM.symm.trans hmethM'
  obtain ⟨c2, r2, m2, q1, q2, q3, q4, kP, hkP, hkPi⟩ := Cond.selects_spec hsel
  cases hcls.symm.trans q1
  cases (State.methodFound?_of_named hnamed hy).symm.trans q2
  cases hnamed.symm.trans q3
  have hselP : selectMethod e.platform s.vm cellB.cls mk = .method mk := by rw [Launch.admits_selectMethod X.admits]; exact q4
  obtain ⟨vm₁, X₁, hstep₁⟩ := X.invokevirtual hexec hown hlink hnamed hmethM hstM hkP hkPi hy (a := b) (cell := cellB) hcell
    (fun z h => by rw [h] at hobj; cases hobj) hselP hmethM habM hkP hkPi (g := g) hg (argsL := argsL) (rest := rest) (hlen _ hsigM) hstack hdg
  rcases hK m meth c ⟨T.setVm vm₁, locs, cells, slots⟩ { g with stack := rest } (.invokevirtual index) mk (Value.ref b :: argsL).toArray X₁ hg hsize hdg hW (X₁.named hnamed) (hpre vm₁ X₁.warmed) with ⟨v, B, X', hpost, hsteps⟩ | ⟨q, B, X', hpost, hsteps⟩
  · exact Or.inl ⟨v, vm₁, B, X₁.warmed, X', hpost, fun target h => hstep₁ _ fun acts => by rw [doInvoke_state]; exact hsteps.trans h⟩
  · exact Or.inr ⟨q, vm₁, B, X₁.warmed, X', hpost, hstep₁ _ fun acts => by rw [doInvoke_state]; exact hsteps⟩
theorem vx_callS (X : Stand p l e R s m args below meth c T locs cells slots) (hexec : p.tables.exec = Jvm.exec) {own : String} {index : Nat} {y : MethodName} {bytes : ByteArray} {maxL : Nat} {ret : Option FieldType}
    (hown : s.vm.findClass own = some m.cls) (hlink : (Cond.methodLink own index y).before args s = true) (hstat : (Cond.static y).before args s = true) (hinit : (Cond.initialized y.cls).before args s = true)
    (hcode : (Cond.code y bytes maxL ret).before args s = true) (hy : y.cls ≠ "java/lang/invoke/MethodHandle" ∧ y.cls ≠ "java/lang/invoke/VarHandle")
    {W9 : Nat} {Pre : Pt → Array Value → Prop} {Post : Pt → Array Value → Option Value → Pt → Prop} {PostX : Pt → Array Value → Addr → Pt → Prop} (hK : vx_Back l R p e below s args y 3 W9 Pre Post PostX)
    {g : JFrame} (hg : g.method = m) (hsize : g.locals.size = c.maxLocals) {argsL rest : List Value} (hlen : ∀ sig, parseMethodDescriptor y.desc = some sig → argsL.length = sig.parameters.length)
    (hstack : g.stack = argsL.reverse ++ rest) (hW : 2 * g.monitorRoom + (rest.map fun v => v.category).sum ≤ W9) (hdg : decode c.code g.pc = .ok (.invokestatic index, 3))
    (hpre : ∀ vm₁, s.WarmedH vm₁ → Pre ⟨T.setVm vm₁, locs, cells, slots⟩ argsL.toArray) :
    (∃ (v : Option Value) (vm₁ : Vm) (B : Pt), s.WarmedH vm₁ ∧ Stand p l e R s m args below meth c B.U B.locs B.cells B.slots ∧ Post ⟨T.setVm vm₁, locs, cells, slots⟩ argsL.toArray v B ∧
      ∀ target, Steps p.tables e below (B.U.setTop { g with pc := g.pc + 3, stack := v.toList ++ rest }) target → Steps p.tables e below (T.setTop g) target) ∨
    (∃ (q : Addr) (vm₁ : Vm) (B : Pt), s.WarmedH vm₁ ∧ Stand p l e R s m args below meth c B.U B.locs B.cells B.slots ∧ PostX ⟨T.setVm vm₁, locs, cells, slots⟩ argsL.toArray q B ∧
      Steps p.tables e below (T.setTop g) ((B.U.setTop { g with stack := rest }).pushFrame (.throwing q))) := by
  obtain ⟨mk, hnamed⟩ := Cond.code_named hcode
  obtain ⟨methM, cM, hmethM, -, -, -, -, -, -, hsigM⟩ := Cond.code_spec hnamed hcode
  have hstatic : methM.isStatic = true := Cond.static_spec hnamed hmethM hstat
  obtain ⟨kP, hkP, -⟩ := className_of_methodNamed hnamed
  have hinitP : kP.init = .initialized := Cond.initialized_spec (findClass_of_methodNamed hnamed) hkP hinit
  obtain ⟨vm₁, X₁, hstep₁⟩ := X.invokestatic hexec hown hlink hnamed hmethM hstatic hkP hinitP hy (g := g) hg (argsL := argsL) (rest := rest) (hlen _ hsigM) hstack hdg
  rcases hK m meth c ⟨T.setVm vm₁, locs, cells, slots⟩ { g with stack := rest } (.invokestatic index) mk argsL.toArray X₁ hg hsize hdg hW (X₁.named hnamed) (hpre vm₁ X₁.warmed) with ⟨v, B, X', hpost, hsteps⟩ | ⟨q, B, X', hpost, hsteps⟩
  · exact Or.inl ⟨v, vm₁, B, X₁.warmed, X', hpost, fun target h => hstep₁ _ fun acts => by rw [doInvoke_state]; exact hsteps.trans h⟩
  · exact Or.inr ⟨q, vm₁, B, X₁.warmed, X', hpost, hstep₁ _ fun acts => by rw [doInvoke_state]; exact hsteps⟩
end Calls
theorem vx_cls {s : State} {T : State} {vm₁ : Vm} {E : String} {k : ClassId} (hW : s.WarmedH vm₁) (h : (T.setVm vm₁).vm.findClass E = some k) : s.vm.findClass E = some k := by
  have h1 : vm₁.findClass E = some k := h
  rw [hW.alike.findClass] at h1
  exact h1
/-- the method's frame g, with q thrown over it -/
def vx_W (p : Program) (l : Launch) (e : Env) (R : Room) (s : State) (m : MethodId) (args : Array Value) (below : List Frame) (meth : Method) (c : Code) (H : Heap) (locs : List Loc) (cells slots : Nat) (Q : State → Prop) (g : JFrame) (q : Addr) : Prop :=
  ∀ T : State, T.heap = H → Stand p l e R s m args below meth c T locs cells slots → ∃ t, Steps p.tables e below ((T.setTop g).pushFrame (.throwing q)) t ∧ Q t
def vx_Run (p : Program) (l : Launch) (e : Env) (R : Room) (s : State) (m : MethodId) (args : Array Value) (below : List Frame) (meth : Method) (c : Code) (H : Heap) (locs : List Loc) (cells slots mc ms : Nat) (g : JFrame) (rest : List Value) (Qa : State → Outcome → State → Prop) (XC : String → State → State → Prop) (free : Addr → Prop) : Prop :=
  ∀ T : State, T.heap = H → Stand p l e R s m args below meth c T locs cells slots →
    (∃ (v : Option Value) (st₀ t T' : State) (L : List Loc), st₀.heap = H ∧ Stand p l e R s m args below meth c T' (locs ++ L) (cells + mc) (slots + ms) ∧ (∀ q ∈ L, free q.base) ∧ T'.heap = t.heap ∧ T'.vm = t.vm ∧ Qa st₀ (.returned v) t ∧
      Goes p e below T g T' { g with pc := g.pc + 3, stack := v.toList ++ rest }) ∨
    (∃ (q : Addr) (st₀ t T' : State) (L : List Loc) (E : String) (ce : Cell), st₀.heap = H ∧ Stand p l e R s m args below meth c T' (locs ++ L) (cells + mc) (slots + ms) ∧ (∀ z ∈ L, free z.base) ∧ T'.heap = t.heap ∧ T'.vm = t.vm ∧ XC E st₀ t ∧ t.heap[q]? = some ce ∧ ce.vm = .none ∧ s.vm.findClass E = some ce.cls ∧
      Steps p.tables e below (T.setTop g) ((T'.setTop { g with stack := rest }).pushFrame (.throwing q)))
def vx_X {S : Type} (px : S → Prop) (B : String → S → State → Prop) (A : Nat → Prop) : String → State → State → Prop := fun E st t => ∃ u : S, px u ∧ B E u t ∧ va_F A st t
section Runs
variable {p : Program} {l : Launch} {e : Env} {R : Room} {s : State} {m : MethodId} {args : Array Value} {below : List Frame} {meth : Method} {c : Code} {H : Heap} {locs : List Loc} {cells slots : Nat}
variable {y : MethodName} {bytes cc : ByteArray} {maxL nL mc ms n index : Nat} {ret : Option FieldType} {ws : List Cond} {rm : Room} {Pc : Array Value → State → Prop} {Qc : Array Value → State → Outcome → State → Prop} {XC : String → State → State → Prop} {free : Addr → Prop} {Ts : List Cond} {own C : String} {b : Addr} {As rest : List Value} {g : JFrame}
theorem vx_callBack (cb : CallB R s args own index y bytes maxL ret ws rm mc ms n) (hM : vx_Met l y ws rm Pc Qc XC mc ms free) (hbl : FrameBlind Pc) : vx_Back l R p e below s args y 3 8 (PreOf R mc ms Pc) (PostOf Qc mc ms free) (vx_Post XC mc ms free) := by
  obtain ⟨hrc, hrs, hfr, hlo, hws, hcw, -, hini, -⟩ := cb
  exact vx_back (bytes := bytes) (maxL := maxL) (ret := ret) hM hbl hrc hrs hfr hlo hws hcw (fun a' U hW => word_at hW (Or.inl (by first | rfl | simp [Cond.onTables, Cond.keeps, Cond.steady])) hini)
theorem vx_runV (S : CallFix p m c cc nL s args Ts own) (hM : vx_Met l y ws rm Pc Qc XC mc ms free) (cw : CallW R s args own C index y bytes maxL ret ws rm mc ms n) (hp : PreV s H C b Pc As)
    (hg : g.method = m) (hn : As.length = n) (hsize : g.locals.size = nL) (hstack : g.stack = As.reverse ++ .ref b :: rest) (hW : 2 * g.monitorRoom + (rest.map fun v => v.category).sum ≤ 8) (hdg : decode cc g.pc = .ok (.invokevirtual index, 3)) (hf : cells + mc ≤ R.cells ∧ slots + ms ≤ R.slots) :
    vx_Run p l e R s m args below meth c H locs cells slots mc ms g rest (Qc (Value.ref b :: As).toArray) XC free := by
  have hK : vx_Back l R p e below s args y 3 8 (PreOf R mc ms Pc) (PostOf Qc mc ms free) (vx_Post XC mc ms free) := vx_callBack cw.1 hM hp.1
  obtain ⟨⟨-, -, -, -, -, -, hcode, -, hy, hlen, hl⟩, hin, hse⟩ := cw
  obtain ⟨hx, hb, hml, ho, -⟩ := S
  obtain ⟨-, ⟨cellB, hcB, hoB, hclB⟩, hPc⟩ := hp
  intro T hT X
  rcases vx_callV X hx (C := C) (bytes := bytes) (maxL := maxL) (ret := ret) ho hl hin hse hcode hy hK (by rw [hT]; exact hcB) hoB hclB hg (hsize.trans hml.symm) (argsL := As) (rest := rest) (fun sig h => hn.trans (hlen sig h)) hstack hW (by rw [hb]; exact hdg)
    (fun vm₁ hW₁ => ⟨hf.1, hf.2, hPc (T.setVm vm₁) hT hW₁⟩) with ⟨v, vm₁, ⟨U', l2, c2, s2⟩, hW₁, X', ⟨g', mk, t, L, e1, e2, hq, h1, hL, h2, h3⟩, st⟩ | ⟨q, vm₁, ⟨U', l2, c2, s2⟩, hW₁, X', ⟨g', mk, t, L, E, ce, e1, e2, hq, hce, hcv, hcl, h1, hL, h2, h3⟩, st⟩
  · dsimp only [Pt.U, Pt.locs, Pt.cells, Pt.slots] at X' e1 e2 h1 h2 h3 st
    subst h1; subst h2; subst h3
    exact Or.inl ⟨v, (T.setVm vm₁).calling g' mk (Value.ref b :: As).toArray, t, U', L, hT, X', hL, e1, e2, hq, st⟩
  · dsimp only [Pt.U, Pt.locs, Pt.cells, Pt.slots] at X' e1 e2 h1 h2 h3 st hcl
    subst h1; subst h2; subst h3
    exact Or.inr ⟨q, (T.setVm vm₁).calling g' mk (Value.ref b :: As).toArray, t, U', L, E, ce, hT, X', hL, e1, e2, hq, hce, hcv, vx_cls hW₁ hcl, st⟩
theorem vx_runS (S : CallFix p m c cc nL s args Ts own) (hM : vx_Met l y ws rm Pc Qc XC mc ms free) (cw : CallB R s args own index y bytes maxL ret ws rm mc ms n ∧ (Cond.static y).before args s = true) (hp : PreS s H Pc As)
    (hg : g.method = m) (hn : As.length = n) (hsize : g.locals.size = nL) (hstack : g.stack = As.reverse ++ rest) (hW : 2 * g.monitorRoom + (rest.map fun v => v.category).sum ≤ 8) (hdg : decode cc g.pc = .ok (.invokestatic index, 3)) (hf : cells + mc ≤ R.cells ∧ slots + ms ≤ R.slots) :
    vx_Run p l e R s m args below meth c H locs cells slots mc ms g rest (Qc As.toArray) XC free := by
  have hK : vx_Back l R p e below s args y 3 8 (PreOf R mc ms Pc) (PostOf Qc mc ms free) (vx_Post XC mc ms free) := vx_callBack cw.1 hM hp.1
  obtain ⟨⟨-, -, -, -, -, -, hcode, hini, hy, hlen, hl⟩, hstt⟩ := cw
  obtain ⟨hx, hb, hml, ho, -⟩ := S
  intro T hT X
  rcases vx_callS X hx (bytes := bytes) (maxL := maxL) (ret := ret) ho hl hstt hini hcode hy hK hg (hsize.trans hml.symm) (argsL := As) (rest := rest) (fun sig h => hn.trans (hlen sig h)) hstack hW (by rw [hb]; exact hdg)
    (fun vm₁ hW₁ => ⟨hf.1, hf.2, hp.2 (T.setVm vm₁) hT hW₁⟩) with ⟨v, vm₁, ⟨U', l2, c2, s2⟩, hW₁, X', ⟨g', mk, t, L, e1, e2, hq, h1, hL, h2, h3⟩, st⟩ | ⟨q, vm₁, ⟨U', l2, c2, s2⟩, hW₁, X', ⟨g', mk, t, L, E, ce, e1, e2, hq, hce, hcv, hcl, h1, hL, h2, h3⟩, st⟩
  · dsimp only [Pt.U, Pt.locs, Pt.cells, Pt.slots] at X' e1 e2 h1 h2 h3 st
    subst h1; subst h2; subst h3
    exact Or.inl ⟨v, (T.setVm vm₁).calling g' mk As.toArray, t, U', L, hT, X', hL, e1, e2, hq, st⟩
  · dsimp only [Pt.U, Pt.locs, Pt.cells, Pt.slots] at X' e1 e2 h1 h2 h3 st hcl
    subst h1; subst h2; subst h3
    exact Or.inr ⟨q, (T.setVm vm₁).calling g' mk As.toArray, t, U', L, E, ce, hT, X', hL, e1, e2, hq, hce, hcv, vx_cls hW₁ hcl, st⟩
end Runs
section Rows
variable {p : Program} {l : Launch} {e : Env} {R : Room} {s : State} {m : MethodId} {args : Array Value} {below : List Frame} {meth : Method} {c : Code} {H : Heap} {locs : List Loc} {cells slots : Nat} {Q : State → Prop}
variable {mc ms : Nat} {free : Addr → Prop} {A0 A1 : Nat → Prop} {H0 : Heap} {a : Array Value} {pc : Nat} {ls : Array Slot} {st0 rest : List Value}
theorem vx_keep {st₀ t T' : State} {L : List Loc} (h0 : st₀.heap = H) (e1 : T'.heap = t.heap) (hS : va_S A0 H0 H locs) (hA : ∀ q, q < H.size → A1 q → A0 q) (hf : ∀ q, free q → A0 q) (hL : ∀ q ∈ L, free q.base) (hF : va_F A1 st₀ t) :
    H.size ≤ T'.heap.size ∧ (∀ q : Nat, q < H.size → ¬ A1 q → T'.heap[q]? = H[q]?) ∧ va_S A0 H0 T'.heap (locs ++ L) := by
  obtain ⟨hz, hk⟩ := hF
  rw [h0] at hz hk
  exact ⟨by rw [e1]; exact hz, fun q h1 h2 => by rw [e1]; exact hk q h1 h2,
    ⟨Nat.le_trans hS.1 (by rw [e1]; exact hz), fun q h1 h2 => by rw [e1, hk q (Nat.lt_of_lt_of_le h1 hS.1) (fun z => h2 (hA q (Nat.lt_of_lt_of_le h1 hS.1) z))]; exact hS.2.1 q h1 h2, fun q hq => by
      rcases List.mem_append.mp hq with h | h
      · exact hS.2.2 q h
      · exact hf _ (hL q h)⟩⟩
theorem vx_calli {S SX : Type} {post : Int32 → S → Prop} {px : SX → Prop} {B : S → State → Prop} {BX : String → SX → State → Prop} {AX : Nat → Prop} (hr : vx_Run p l e R s m args below meth c H locs cells slots mc ms (F0 m pc ls st0) rest (va_Qi post B A1 a) (vx_X px BX AX) free) (hS : va_S A0 H0 H locs) (hA : ∀ q, q < H.size → A1 q → A0 q) (hf : ∀ q, free q → A0 q) (hAX : ∀ q, q < H.size → AX q → A0 q)
    (kx : ∀ (E : String) (ce : Cell) (q9 : Addr) (u : SX) (t : State) (H1 : Heap) (locs1 : List Loc), t.heap = H1 → s.vm.Alike t.vm → px u → BX E u t → H.size ≤ H1.size → (∀ q : Nat, q < H.size → ¬ AX q → H1[q]? = H[q]?) → va_S A0 H0 H1 locs1 → H1[q9]? = some ce → ce.vm = .none → s.vm.findClass E = some ce.cls → vx_W p l e R s m args below meth c H1 locs1 (cells + mc) (slots + ms) Q (F0 m pc ls rest) q9)
    (kk : ∀ (r : Int32) (u : S) (t : State) (H1 : Heap) (locs1 : List Loc), t.heap = H1 → s.vm.Alike t.vm → post r u → B u t → H.size ≤ H1.size → (∀ q : Nat, q < H.size → ¬ A1 q → H1[q]? = H[q]?) → va_S A0 H0 H1 locs1 → W p l e R s m args below meth c H1 locs1 (cells + mc) (slots + ms) Q (F0 m (pc + 3) ls (.int r :: rest))) : W p l e R s m args below meth c H locs cells slots Q (F0 m pc ls st0) := by
  intro T hT X
  rcases hr T hT X with ⟨v, st₀, t, T', L, h0, X', hL, e1, e2, ⟨⟨r, u, hv, hp, hb⟩, hF⟩, st⟩ | ⟨q, st₀, t, T', L, E, ce, h0, X', hL, e1, e2, ⟨u, hp, hb, hF⟩, hce, hcv, hcl, st⟩
  · cases hv
    obtain ⟨k1, k2, k3⟩ := vx_keep h0 e1 hS hA hf hL hF
    obtain ⟨t2, a1, b1⟩ := kk r u t T'.heap (locs ++ L) e1.symm (by rw [← e2]; exact X'.warmed.alike) hp hb k1 k2 k3 T' rfl X'
    exact ⟨t2, st t2 a1, b1⟩
  · obtain ⟨k1, k2, k3⟩ := vx_keep h0 e1 hS hAX hf hL hF
    obtain ⟨t2, a1, b1⟩ := kx E ce q u t T'.heap (locs ++ L) e1.symm (by rw [← e2]; exact X'.warmed.alike) hp hb k1 k2 k3 (by rw [e1]; exact hce) hcv hcl T' rfl X'
    exact ⟨t2, st.trans a1, b1⟩
theorem vx_calll {S SX : Type} {post : Int64 → S → Prop} {px : SX → Prop} {B : S → State → Prop} {BX : String → SX → State → Prop} {AX : Nat → Prop} (hr : vx_Run p l e R s m args below meth c H locs cells slots mc ms (F0 m pc ls st0) rest (va_Ql post B A1 a) (vx_X px BX AX) free) (hS : va_S A0 H0 H locs) (hA : ∀ q, q < H.size → A1 q → A0 q) (hf : ∀ q, free q → A0 q) (hAX : ∀ q, q < H.size → AX q → A0 q)
    (kx : ∀ (E : String) (ce : Cell) (q9 : Addr) (u : SX) (t : State) (H1 : Heap) (locs1 : List Loc), t.heap = H1 → s.vm.Alike t.vm → px u → BX E u t → H.size ≤ H1.size → (∀ q : Nat, q < H.size → ¬ AX q → H1[q]? = H[q]?) → va_S A0 H0 H1 locs1 → H1[q9]? = some ce → ce.vm = .none → s.vm.findClass E = some ce.cls → vx_W p l e R s m args below meth c H1 locs1 (cells + mc) (slots + ms) Q (F0 m pc ls rest) q9)
    (kk : ∀ (r : Int64) (u : S) (t : State) (H1 : Heap) (locs1 : List Loc), t.heap = H1 → s.vm.Alike t.vm → post r u → B u t → H.size ≤ H1.size → (∀ q : Nat, q < H.size → ¬ A1 q → H1[q]? = H[q]?) → va_S A0 H0 H1 locs1 → W p l e R s m args below meth c H1 locs1 (cells + mc) (slots + ms) Q (F0 m (pc + 3) ls (.long r :: rest))) : W p l e R s m args below meth c H locs cells slots Q (F0 m pc ls st0) := by
  intro T hT X
  rcases hr T hT X with ⟨v, st₀, t, T', L, h0, X', hL, e1, e2, ⟨⟨r, u, hv, hp, hb⟩, hF⟩, st⟩ | ⟨q, st₀, t, T', L, E, ce, h0, X', hL, e1, e2, ⟨u, hp, hb, hF⟩, hce, hcv, hcl, st⟩
  · cases hv
    obtain ⟨k1, k2, k3⟩ := vx_keep h0 e1 hS hA hf hL hF
    obtain ⟨t2, a1, b1⟩ := kk r u t T'.heap (locs ++ L) e1.symm (by rw [← e2]; exact X'.warmed.alike) hp hb k1 k2 k3 T' rfl X'
    exact ⟨t2, st t2 a1, b1⟩
  · obtain ⟨k1, k2, k3⟩ := vx_keep h0 e1 hS hAX hf hL hF
    obtain ⟨t2, a1, b1⟩ := kx E ce q u t T'.heap (locs ++ L) e1.symm (by rw [← e2]; exact X'.warmed.alike) hp hb k1 k2 k3 (by rw [e1]; exact hce) hcv hcl T' rfl X'
    exact ⟨t2, st.trans a1, b1⟩
theorem vx_callf {S SX : Type} {post : UInt32 → S → Prop} {px : SX → Prop} {B : S → State → Prop} {BX : String → SX → State → Prop} {AX : Nat → Prop} (hr : vx_Run p l e R s m args below meth c H locs cells slots mc ms (F0 m pc ls st0) rest (va_Qf post B A1 a) (vx_X px BX AX) free) (hS : va_S A0 H0 H locs) (hA : ∀ q, q < H.size → A1 q → A0 q) (hf : ∀ q, free q → A0 q) (hAX : ∀ q, q < H.size → AX q → A0 q)
    (kx : ∀ (E : String) (ce : Cell) (q9 : Addr) (u : SX) (t : State) (H1 : Heap) (locs1 : List Loc), t.heap = H1 → s.vm.Alike t.vm → px u → BX E u t → H.size ≤ H1.size → (∀ q : Nat, q < H.size → ¬ AX q → H1[q]? = H[q]?) → va_S A0 H0 H1 locs1 → H1[q9]? = some ce → ce.vm = .none → s.vm.findClass E = some ce.cls → vx_W p l e R s m args below meth c H1 locs1 (cells + mc) (slots + ms) Q (F0 m pc ls rest) q9)
    (kk : ∀ (r : UInt32) (u : S) (t : State) (H1 : Heap) (locs1 : List Loc), t.heap = H1 → s.vm.Alike t.vm → post r u → B u t → H.size ≤ H1.size → (∀ q : Nat, q < H.size → ¬ A1 q → H1[q]? = H[q]?) → va_S A0 H0 H1 locs1 → W p l e R s m args below meth c H1 locs1 (cells + mc) (slots + ms) Q (F0 m (pc + 3) ls (.float r :: rest))) : W p l e R s m args below meth c H locs cells slots Q (F0 m pc ls st0) := by
  intro T hT X
  rcases hr T hT X with ⟨v, st₀, t, T', L, h0, X', hL, e1, e2, ⟨⟨r, u, hv, hp, hb⟩, hF⟩, st⟩ | ⟨q, st₀, t, T', L, E, ce, h0, X', hL, e1, e2, ⟨u, hp, hb, hF⟩, hce, hcv, hcl, st⟩
  · cases hv
    obtain ⟨k1, k2, k3⟩ := vx_keep h0 e1 hS hA hf hL hF
    obtain ⟨t2, a1, b1⟩ := kk r u t T'.heap (locs ++ L) e1.symm (by rw [← e2]; exact X'.warmed.alike) hp hb k1 k2 k3 T' rfl X'
    exact ⟨t2, st t2 a1, b1⟩
  · obtain ⟨k1, k2, k3⟩ := vx_keep h0 e1 hS hAX hf hL hF
    obtain ⟨t2, a1, b1⟩ := kx E ce q u t T'.heap (locs ++ L) e1.symm (by rw [← e2]; exact X'.warmed.alike) hp hb k1 k2 k3 (by rw [e1]; exact hce) hcv hcl T' rfl X'
    exact ⟨t2, st.trans a1, b1⟩
theorem vx_calld {S SX : Type} {post : UInt64 → S → Prop} {px : SX → Prop} {B : S → State → Prop} {BX : String → SX → State → Prop} {AX : Nat → Prop} (hr : vx_Run p l e R s m args below meth c H locs cells slots mc ms (F0 m pc ls st0) rest (va_Qd post B A1 a) (vx_X px BX AX) free) (hS : va_S A0 H0 H locs) (hA : ∀ q, q < H.size → A1 q → A0 q) (hf : ∀ q, free q → A0 q) (hAX : ∀ q, q < H.size → AX q → A0 q)
    (kx : ∀ (E : String) (ce : Cell) (q9 : Addr) (u : SX) (t : State) (H1 : Heap) (locs1 : List Loc), t.heap = H1 → s.vm.Alike t.vm → px u → BX E u t → H.size ≤ H1.size → (∀ q : Nat, q < H.size → ¬ AX q → H1[q]? = H[q]?) → va_S A0 H0 H1 locs1 → H1[q9]? = some ce → ce.vm = .none → s.vm.findClass E = some ce.cls → vx_W p l e R s m args below meth c H1 locs1 (cells + mc) (slots + ms) Q (F0 m pc ls rest) q9)
    (kk : ∀ (r : UInt64) (u : S) (t : State) (H1 : Heap) (locs1 : List Loc), t.heap = H1 → s.vm.Alike t.vm → post r u → B u t → H.size ≤ H1.size → (∀ q : Nat, q < H.size → ¬ A1 q → H1[q]? = H[q]?) → va_S A0 H0 H1 locs1 → W p l e R s m args below meth c H1 locs1 (cells + mc) (slots + ms) Q (F0 m (pc + 3) ls (.double r :: rest))) : W p l e R s m args below meth c H locs cells slots Q (F0 m pc ls st0) := by
  intro T hT X
  rcases hr T hT X with ⟨v, st₀, t, T', L, h0, X', hL, e1, e2, ⟨⟨r, u, hv, hp, hb⟩, hF⟩, st⟩ | ⟨q, st₀, t, T', L, E, ce, h0, X', hL, e1, e2, ⟨u, hp, hb, hF⟩, hce, hcv, hcl, st⟩
  · cases hv
    obtain ⟨k1, k2, k3⟩ := vx_keep h0 e1 hS hA hf hL hF
    obtain ⟨t2, a1, b1⟩ := kk r u t T'.heap (locs ++ L) e1.symm (by rw [← e2]; exact X'.warmed.alike) hp hb k1 k2 k3 T' rfl X'
    exact ⟨t2, st t2 a1, b1⟩
  · obtain ⟨k1, k2, k3⟩ := vx_keep h0 e1 hS hAX hf hL hF
    obtain ⟨t2, a1, b1⟩ := kx E ce q u t T'.heap (locs ++ L) e1.symm (by rw [← e2]; exact X'.warmed.alike) hp hb k1 k2 k3 (by rw [e1]; exact hce) hcv hcl T' rfl X'
    exact ⟨t2, st.trans a1, b1⟩
theorem vx_callv {S SX : Type} {post : S → Prop} {px : SX → Prop} {B : S → State → Prop} {BX : String → SX → State → Prop} {AX : Nat → Prop} (hr : vx_Run p l e R s m args below meth c H locs cells slots mc ms (F0 m pc ls st0) rest (va_Qv post B A1 a) (vx_X px BX AX) free) (hS : va_S A0 H0 H locs) (hA : ∀ q, q < H.size → A1 q → A0 q) (hf : ∀ q, free q → A0 q) (hAX : ∀ q, q < H.size → AX q → A0 q)
    (kx : ∀ (E : String) (ce : Cell) (q9 : Addr) (u : SX) (t : State) (H1 : Heap) (locs1 : List Loc), t.heap = H1 → s.vm.Alike t.vm → px u → BX E u t → H.size ≤ H1.size → (∀ q : Nat, q < H.size → ¬ AX q → H1[q]? = H[q]?) → va_S A0 H0 H1 locs1 → H1[q9]? = some ce → ce.vm = .none → s.vm.findClass E = some ce.cls → vx_W p l e R s m args below meth c H1 locs1 (cells + mc) (slots + ms) Q (F0 m pc ls rest) q9)
    (kk : ∀ (u : S) (t : State) (H1 : Heap) (locs1 : List Loc), t.heap = H1 → s.vm.Alike t.vm → post u → B u t → H.size ≤ H1.size → (∀ q : Nat, q < H.size → ¬ A1 q → H1[q]? = H[q]?) → va_S A0 H0 H1 locs1 → W p l e R s m args below meth c H1 locs1 (cells + mc) (slots + ms) Q (F0 m (pc + 3) ls (rest))) : W p l e R s m args below meth c H locs cells slots Q (F0 m pc ls st0) := by
  intro T hT X
  rcases hr T hT X with ⟨v, st₀, t, T', L, h0, X', hL, e1, e2, ⟨⟨u, hv, hp, hb⟩, hF⟩, st⟩ | ⟨q, st₀, t, T', L, E, ce, h0, X', hL, e1, e2, ⟨u, hp, hb, hF⟩, hce, hcv, hcl, st⟩
  · cases hv
    obtain ⟨k1, k2, k3⟩ := vx_keep h0 e1 hS hA hf hL hF
    obtain ⟨t2, a1, b1⟩ := kk u t T'.heap (locs ++ L) e1.symm (by rw [← e2]; exact X'.warmed.alike) hp hb k1 k2 k3 T' rfl X'
    exact ⟨t2, st t2 a1, b1⟩
  · obtain ⟨k1, k2, k3⟩ := vx_keep h0 e1 hS hAX hf hL hF
    obtain ⟨t2, a1, b1⟩ := kx E ce q u t T'.heap (locs ++ L) e1.symm (by rw [← e2]; exact X'.warmed.alike) hp hb k1 k2 k3 (by rw [e1]; exact hce) hcv hcl T' rfl X'
    exact ⟨t2, st.trans a1, b1⟩
/-- caught by the row x of this method's table; the rows ahead don't take it -/
theorem vx_catch {own name : String} {E : String} {ce : Cell} {q : Addr} (hown : s.vm.findClass own = some m.cls) (pre : List ExceptionTableEntry) (x : ExceptionTableEntry) (suf : List ExceptionTableEntry) (hsplit : c.exceptionTable.toList = pre ++ x :: suf)
    (hpass : ∀ z ∈ pre, covers z pc = false ∨ (z.catchType ≠ 0 ∧ ∃ nm : String, (Cond.classLink own z.catchType nm).before args s = true ∧ va_Nc E nm s)) (hx : covers x pc = true) (h0 : x.catchType ≠ 0)
    (hlink : (Cond.classLink own x.catchType name).before args s = true) (hcast : (Cond.castable E name).before args s = true) (hcell : H[q]? = some ce) (hv : ce.vm = .none) (hcl : s.vm.findClass E = some ce.cls)
    (kk : W p l e R s m args below meth c H locs cells slots Q (F0 m x.handlerPc ls [.ref q])) : vx_W p l e R s m args below meth c H locs cells slots Q (F0 m pc ls rest) q := by
  intro T hT X
  have hpl : e.platform.magicAccessors = ({} : Platform).magicAccessors := by rw [X.admits.platform]
  obtain ⟨c3, c4, hc3, hc4, hasg⟩ := Cond.castable_spec hcast
  cases Option.some.inj (hc3.symm.trans hcl)
  obtain ⟨c5, hc5, hcl5⟩ := Cond.classLink_spec hown hlink e.platform hpl
  cases Option.some.inj (hc4.symm.trans hc5)
  obtain ⟨vm', X', st⟩ := X.thenCaughtThrough q (g := F0 m pc ls rest) rfl (Steps.refl _) (by rw [hT]; exact hcell) (by rw [hv]; rfl) (by obtain ⟨k9, h9, -⟩ := Vm.findClass_spec hcl; exact ⟨k9, h9⟩) pre x suf hsplit
    (fun z hz => by
      rcases hpass z hz with h | ⟨hz0, nm, hl1, hn1⟩
      · exact Or.inl h
      · obtain ⟨c6, hc6, hcl6⟩ := Cond.classLink_spec hown hl1 e.platform hpl
        obtain ⟨a8, b8, h1, h2, h3⟩ := hn1
        cases Option.some.inj (h1.symm.trans hcl)
        cases Option.some.inj (h2.symm.trans hc6)
        exact Or.inr ⟨hz0, _, hcl6, h3⟩) hx (Or.inr ⟨h0, c4, hcl5, hasg⟩)
  obtain ⟨t, a1, b1⟩ := kk (T.setVm vm') hT X'
  exact ⟨t, st.trans a1, b1⟩
end Rows
section Ends
variable {p : Program} {l : Launch} {e : Env} {R : Room} {s : State} {m : MethodId} {args : Array Value} {below : List Frame} {meth : Method} {c : Code} {H : Heap} {locs : List Loc} {cells slots : Nat} {Q : State → Prop}
variable {mc ms : Nat} {free : Addr → Prop} {A0 A1 : Nat → Prop} {H0 : Heap} {a : Array Value} {ls : Array Slot} {st0 rest : List Value}
variable {Qc : Array Value → State → Outcome → State → Prop} {XC : String → State → State → Prop}
/-- what a body that may throw owes at its end -/
def vx_MQ (below : List Frame) (Qc : Array Value → State → Outcome → State → Prop) (XC : String → State → State → Prop) (a : Array Value) (s : State) (mc ms : Nat) (free : Addr → Prop) : State → Prop := fun t =>
  ∃ o, t.status = .running ∧ Ended t below o ∧ vx_Q Qc XC mc ms free a s o t
theorem vx_ret {g : JFrame} {mc ms : Nat} (k : W p l e R s m args below meth c H locs cells slots (MQ below Qc args s mc ms free) g) : W p l e R s m args below meth c H locs cells slots (vx_MQ below Qc XC args s mc ms free) g := by
  intro T hT X
  obtain ⟨t, a1, o, b1, b2, b3, b4⟩ := k T hT X
  exact ⟨t, a1, o, b1, b2, Or.inl ⟨b3, b4⟩⟩
/-- not caught here: it goes on to the caller -/
theorem vx_widen {g : JFrame} {q : Addr} {k n : Nat} (h1 : cells ≤ k) (h2 : slots ≤ n) (kk : vx_W p l e R s m args below meth c H locs k n Q g q) : vx_W p l e R s m args below meth c H locs cells slots Q g q := fun T hT X => kk T hT (stand_widen X h1 h2)
theorem vx_out {pc : Nat} {E : String} {ce : Cell} {q : Addr} {mc ms : Nat} (hout : ∀ x ∈ c.exceptionTable.toList, covers x pc = false) (hlocks : meth.locks = false) (hcell : H[q]? = some ce) (hv : ce.vm = .none) (hcl : s.vm.findClass E = some ce.cls)
    (hx : ∀ t : State, t.heap = H → s.vm.Alike t.vm → XC E s t) (hf : ∀ z ∈ locs, free z.base) (hc : cells ≤ mc) (hs : slots ≤ ms) :
    vx_W p l e R s m args below meth c H locs cells slots (vx_MQ below Qc XC args s mc ms free) (F0 m pc ls rest) q := by
  intro T hT X
  obtain ⟨st1, hrun, hend, hW, hsm⟩ := X.leaveThrown q (g := F0 m pc ls rest) rfl rfl rfl hout hlocks
  have hcell9 : (T.setFrames (.throwing q :: below)).heap[q]? = some ce := by
    show T.heap[q]? = some ce
    rw [hT]; exact hcell
  exact ⟨_, st1, .threw q, hrun, hend, Or.inr ⟨q, rfl, E, ce, locs, hx _ hT hW.alike, hcell9, hv, hcl, hW, hsm.mono hc hs, hf⟩⟩
theorem vx_frame {U : State} {k n : Nat} (h : s.sameButNew ({ U with vm := s.vm } : State) locs k n) : s.heap.size ≤ U.heap.size ∧ ∀ q : Nat, q < s.heap.size → (∀ z ∈ locs, z.base ≠ q) → U.heap[q]? = s.heap[q]? := by
  obtain ⟨-, h2, -, -, -, h6⟩ := h
  refine ⟨h2, fun q hq hz => ?_⟩
  obtain ⟨c9, e1, e2, e3, e4⟩ := h6 q _ (Array.getElem?_eq_getElem hq)
  have hs : c9.slots = (s.heap[q]).slots := Array.ext_getElem? fun i => e4 i fun hm => hz _ hm rfl
  have h9 : c9 = s.heap[q] := by
    rw [hs] at e2
    exact e2
  have e5 : U.heap[q]? = some c9 := e1
  rw [e5, h9, Array.getElem?_eq_getElem hq]
/-- the words of a throw but the four that speak of the heap -/
def vx_no (w : Cond) : Bool := decide (w ≠ .isRef (.static Bundle.tN "UNASSIGNED_STACK" Bundle.steD)) && decide (w ≠ .isRef (.static Bundle.tN "SUPPRESSED_SENTINEL" Bundle.listD)) && decide (w ≠ .laysStatic Bundle.tN "UNASSIGNED_STACK" Bundle.steD) && decide (w ≠ .laysStatic Bundle.tN "SUPPRESSED_SENTINEL" Bundle.listD)
def vx_at0 (own : String) (ic : Nat) (X : String) (names : List String) : List Cond := (Bundle.ownAtoms0 own ic X names).filter vx_no
def vx_atS (own : String) (ic : Nat) (X : String) (names : List String) : List Cond := (Bundle.ownAtoms own ic X names).filter vx_no
/-- a word that the tables alone decide, or a good one -/
def vx_ot (w : Cond) : Bool := w.onTables || goodWord w
theorem vx_ot_at {args a' : Array Value} {s U : State} {w : Cond} (hW : s.WarmedH U.vm) (hvm : s.vm = U.vm) (hg : vx_ot w = true) (h : w.before args s = true) : w.before a' U = true := by
  simp only [vx_ot, Bool.or_eq_true] at hg
  rcases hg with hg | hg
  · exact va_tabs hg hvm h
  · exact word_at hW (good_of_word hg) h
/-- a list's words: the good ones out of the method's own list, the others by premises of their own -/
theorem vx_hat {args : Array Value} {s : State} {L B : List Cond} (h1 : ∀ w ∈ L.filter goodWord, w.before args s = true) (h2 : ∀ w ∈ L.filter (fun w => !goodWord w), w ∈ B) (h3 : ∀ w ∈ B, w.before args s = true) : ∀ w ∈ L, w.before args s = true := by
  intro w hw
  by_cases g : goodWord w = true
  · exact h1 w (List.mem_filter.mpr ⟨hw, g⟩)
  · refine h3 w (h2 w (List.mem_filter.mpr ⟨hw, ?_⟩))
    show (!goodWord w) = true
    cases hgw : goodWord w
    · rfl
    · exact absurd hgw g
theorem vx_c {args : Array Value} {s : State} {w : Cond} {B : List Cond} (h : w.before args s = true) (t : ∀ w ∈ B, w.before args s = true) : ∀ w' ∈ w :: B, w'.before args s = true := fun w' h' => (List.mem_cons.mp h').elim (fun e => by rw [e]; exact h) (t w')
theorem vx_n {args : Array Value} {s : State} : ∀ w ∈ ([] : List Cond), w.before args s = true := fun _ h => nomatch h
theorem vx_own {args : Array Value} {s : State} {L : List Cond} (h1 : ∀ w ∈ L.filter vx_no, w.before args s = true)
    (hU : (Cond.isRef (.static Bundle.tN "UNASSIGNED_STACK" Bundle.steD)).before args s = true) (hN : (Cond.isRef (.static Bundle.tN "SUPPRESSED_SENTINEL" Bundle.listD)).before args s = true)
    (lU : (Cond.laysStatic Bundle.tN "UNASSIGNED_STACK" Bundle.steD).before args s = true) (lN : (Cond.laysStatic Bundle.tN "SUPPRESSED_SENTINEL" Bundle.listD).before args s = true) : ∀ w ∈ L, w.before args s = true := by
  intro w hw
  by_cases e1 : w = .isRef (.static Bundle.tN "UNASSIGNED_STACK" Bundle.steD)
  · rw [e1]; exact hU
  · by_cases e2 : w = .isRef (.static Bundle.tN "SUPPRESSED_SENTINEL" Bundle.listD)
    · rw [e2]; exact hN
    · by_cases e3 : w = .laysStatic Bundle.tN "UNASSIGNED_STACK" Bundle.steD
      · rw [e3]; exact lU
      · by_cases e4 : w = .laysStatic Bundle.tN "SUPPRESSED_SENTINEL" Bundle.listD
        · rw [e4]; exact lN
        · exact h1 w (List.mem_filter.mpr ⟨hw, by unfold vx_no; rw [decide_eq_true e1, decide_eq_true e2, decide_eq_true e3, decide_eq_true e4]; rfl⟩)
/-- where a static field lies, its class's statics cell in H -/
def vx_L (C n d : String) (A : Nat → Prop) (U : State) (H : Heap) : Prop := ∃ (c : ClassId) (k : Class) (i : Nat) (f : Field) (a : Nat) (cell : Cell), U.vm.findClass C = some c ∧ U.fieldFound? C n d = some (c, k, i, f) ∧ f.isStatic = true ∧ k.statics = some a ∧ H[a]? = some cell ∧ cell.vm.isStatics = true ∧ cell.cls = c ∧ f.slot < cell.slots.size ∧ k.staticTypes[f.slot]? = some f.type ∧ ¬ A a
theorem vx_L.moved {C n d : String} {A : Nat → Prop} {u U : State} {H : Heap} (hvm : u.vm.Alike U.vm) (h : vx_L C n d A u H) : vx_L C n d A U H := by
  obtain ⟨c, k, i, f, a, cell, h1, h2, h3, h4, h5, h6, h7, h8, h9, h10⟩ := h
  obtain ⟨k', hi', he⟩ := State.fieldFound?_setVm hvm h2
  exact ⟨c, k', i, f, a, cell, by rw [hvm.findClass]; exact h1, hi', h3, by rw [he]; exact h4, h5, h6, h7, h8, by rw [he]; exact h9, h10⟩
theorem vx_L.kept {C n d : String} {A : Nat → Prop} {U : State} {H H1 : Heap} (h : vx_L C n d A U H) (hq : ∀ a : Nat, a < H.size → ¬ A a → H1[a]? = H[a]?) : vx_L C n d A U H1 := by
  obtain ⟨c, k, i, f, a, cell, h1, h2, h3, h4, h5, h6, h7, h8, h9, h10⟩ := h
  exact ⟨c, k, i, f, a, cell, h1, h2, h3, h4, by rw [hq a (Array.getElem?_eq_some_iff.mp h5).1 h10]; exact h5, h6, h7, h8, h9, h10⟩
theorem vx_L.narrow {C n d : String} {A B : Nat → Prop} {U : State} {H : Heap} (h : vx_L C n d A U H) (hAB : ∀ q, B q → A q) : vx_L C n d B U H := by
  obtain ⟨c, k, i, f, a, cell, h1, h2, h3, h4, h5, h6, h7, h8, h9, h10⟩ := h
  exact ⟨c, k, i, f, a, cell, h1, h2, h3, h4, h5, h6, h7, h8, h9, fun z => h10 (hAB _ z)⟩
theorem vx_L.word {C n d : String} {A : Nat → Prop} {s : State} {args : Array Value} (h : vx_L C n d A s s.heap) : (Cond.laysStatic C n d).before args s = true := by
  obtain ⟨c, k, i, f, a, cell, h1, h2, h3, h4, h5, h6, h7, h8, h9, -⟩ := h
  show (Cond.laysStatic C n d).holds args s none s [] = true
  exact Cond.laysStatic_of h1 h2 h3 h4 h5 h6 h7 h8 h9
/-- .. and what it holds: null or some reference -/
def vx_Zq (C n d : String) (A : Nat → Prop) (U : State) (H : Heap) : Prop := va_Zq C n d A U H ∧ vx_L C n d A U H
theorem vx_Zq.moved {C n d : String} {A : Nat → Prop} {u U : State} {H : Heap} (hvm : u.vm.Alike U.vm) (h : vx_Zq C n d A u H) : vx_Zq C n d A U H := ⟨va_Zq.moved hvm h.1, vx_L.moved hvm h.2⟩
theorem vx_Zq.kept {C n d : String} {A : Nat → Prop} {U : State} {H H1 : Heap} (h : vx_Zq C n d A U H) (hq : ∀ a : Nat, a < H.size → ¬ A a → H1[a]? = H[a]?) : vx_Zq C n d A U H1 := ⟨va_Zq.kept h.1 hq, vx_L.kept h.2 hq⟩
theorem vx_Zq.narrow {C n d : String} {A B : Nat → Prop} {U : State} {H : Heap} (h : vx_Zq C n d A U H) (hAB : ∀ q, B q → A q) : vx_Zq C n d B U H := ⟨va_Zq.narrow h.1 hAB, vx_L.narrow h.2 hAB⟩
theorem vx_Zqof {args : Array Value} {s : State} {C n d : String} {A : Nat → Prop} (hl : (Cond.laysStatic C n d).before args s = true) (hini : (Cond.initialized C).before args s = true) (h : (Cond.isRef (.static C n d)).before args s = true) (hA : ∀ a : Nat, a < s.heap.size → ¬ A a) : vx_Zq C n d A s s.heap := by
  refine ⟨va_Zqof hl hini h hA, ?_⟩
  obtain ⟨c, k, i, f, a, cell, h1, h2, h3, h4, h5, h6, h7, h8, h9⟩ := Cond.laysStatic_spec hl
  exact ⟨c, k, i, f, a, cell, h1, h2, h3, h4, h5, h6, h7, h8, h9, hA a (Array.getElem?_eq_some_iff.mp h5).1⟩
theorem vx_isRef {C n d : String} {v : Value} {A : Nat → Prop} {s : State} {args : Array Value} (h : va_Z C n d v A s s.heap) (hv : v.isRef = true) : (Cond.isRef (.static C n d)).before args s = true := by
  obtain ⟨cf, kf, fi, f, a, cell, h1, h2, h3, h4, h5, h6, h7, -⟩ := h
  have he : (Term.static C n d).eval args s none [] s = some v := by
    simp [Term.eval, State.fieldNamed?, h1, h2, h4, h5, h6, h7]
  simp only [Cond.before, Cond.holds, Cond.value, he]
  cases v <;> simp_all [Value.isRef]
theorem vx_isRefq {C n d : String} {A : Nat → Prop} {s : State} {args : Array Value} (h : va_Zq C n d A s s.heap) : (Cond.isRef (.static C n d)).before args s = true := by
  rcases h with h | ⟨t, h⟩
  · exact vx_isRef h rfl
  · exact vx_isRef h rfl
/-- the same frame, seen from here: as if the method were called anew in this heap -/
theorem vx_rebase {T : State} (X : Stand p l e R s m args below meth c T locs cells slots) {R' : Room} (hf : R'.frames ≤ R.frames) (hl : R'.locals ≤ R.locals) (hc : cells + R'.cells ≤ R.cells) (hs : slots + R'.slots ≤ R.slots) :
    Stand p l e R' ((T.setVm s.vm).setFrames (.invoking m args :: below)) m args below meth c T [] 0 0 := by
  have htop : (T.setVm s.vm).topJava?.isSome := X.here.top
  have hF : ((T.setVm s.vm).setFrames (.invoking m args :: below)).frames = .invoking m args :: below := State.frames_setFrames _ (State.cur_lt_of_top htop)
  obtain ⟨g₀, hg0⟩ := Option.isSome_iff_exists.mp htop
  obtain ⟨r, hr⟩ := State.topJava?_eq_some.mp hg0
  have hl9 : e.platform.stackLimits (T.setVm s.vm).me = e.platform.stackLimits s.me := X.limits
  have hb9 : (T.setVm s.vm).me.stackBytes = s.me.stackBytes := X.bytes
  refine ⟨X.admits, X.cas, X.clock, hF, ?_, X.hears, X.method, X.code, X.here, X.tail, X.warmed, ?_, ?_, ?_⟩
  · have h := X.room
    have hU : ((T.setVm s.vm).setFrames (.invoking m args :: below)).localsInUse = s.localsInUse := by
      rw [State.localsInUse_invoking hF (meth := meth) (c := c) X.method X.code, State.localsInUse_invoking X.frames X.method X.code]
    simp only [State.hasRoom, Bool.and_eq_true, decide_eq_true_eq] at h ⊢
    obtain ⟨⟨⟨⟨h1, h2, h3, h4, h5, h6⟩, h7⟩, h8⟩, h9⟩ := h
    rw [X.frames, List.length_cons] at h2 h3
    have q1 := X.heapSize
    have q2 := X.used
    simp only [hF, hU, List.length_cons, State.stackLimits_setFrames, State.stackBytes_setFrames, hl9, hb9]
    refine ⟨⟨⟨⟨by omega, by omega, by omega, by omega, by omega, h6⟩, ?_⟩, ?_⟩, X.book⟩
    · show T.heap.size + R'.cells ≤ e.platform.maxCells
      omega
    · show T.slotsUsed + R'.slots ≤ e.platform.maxSlots
      omega
  · rw [State.stackLimits_setFrames]; rfl
  · rw [State.stackBytes_setFrames]; rfl
  · refine ⟨?_, Nat.le_refl _, Nat.le_refl _, ?_, ?_, fun a c9 h9 => ⟨c9, h9, rfl, rfl, fun _ _ => rfl⟩⟩
    · obtain ⟨t, ht, -⟩ := State.frames_cons hr
      show T.setVm s.vm = { ((T.setVm s.vm).setFrames (.invoking m args :: below)).setFrames (T.setVm s.vm).frames with heap := T.heap, slotsUsed := T.slotsUsed }
      rw [State.setFrames_setFrames, State.setFrames_self ht]
      rfl
    · show T.slotsUsed = T.slotsUsed + ((T.heap.toList.drop T.heap.size).map (·.slots.size)).sum
      rw [List.drop_eq_nil_of_le (Nat.le_of_eq Array.length_toList)]
      rfl
    · show ((T.heap.toList.drop T.heap.size).map (·.slots.size)).sum ≤ 0
      rw [List.drop_eq_nil_of_le (Nat.le_of_eq Array.length_toList)]
      exact Nat.le_refl _
/-- 'throw new E()': new; dup; invokespecial; athrow -/
theorem vx_throw0 {cc : ByteArray} {pc : Nat} (hexec : p.tables.exec = Jvm.exec) (hb : c.code = cc) (hl : l.stackTraces = false) {own cls : String} {names : List String} {ik ic mc ms : Nat} {A : Nat → Prop}
    (hown : s.vm.findClass own = some m.cls) (hcls : Bundle.fit cls = true) (hnames : ∀ n ∈ names, Bundle.fit n = true)
    (hk : (Cond.classLink own ik cls).before args s = true) (hini : (Cond.initialized cls).before args s = true) (hat : ∀ w ∈ vx_at0 own ic cls names, w.before args s = true)
    (hgood : ∀ w ∈ Cond.classLink own ik cls :: Cond.initialized cls :: vx_at0 own ic cls names, vx_ot w = true)
    (hU : vx_Zq Bundle.tN "UNASSIGNED_STACK" Bundle.steD A s s.heap) (hN : vx_Zq Bundle.tN "SUPPRESSED_SENTINEL" Bundle.listD A s s.heap) (hS : va_S A s.heap H locs) (hsize : ls.size = c.maxLocals)
    (d0 : decode cc pc = .ok (.new ik, 3)) (d3 : decode cc (pc + 3) = .ok (.dup, 1)) (d4 : decode cc (pc + 4) = .ok (.invokespecial ic, 3)) (d7 : decode cc (pc + 7) = .ok (.athrow, 1))
    (hout : ∀ x ∈ c.exceptionTable.toList, covers x (pc + 7) = false)
    (hRframes : names.length + 3 < R.frames) (hRlocals : (rest.map fun v => v.category).sum + (13 * (names.length + 1) + 42) ≤ R.locals) (hRcells : cells + 1 ≤ R.cells) (hRslots : slots + 6 ≤ R.slots) (hlocks : meth.locks = false)
    (hx : ∀ t : State, s.vm.Alike t.vm → H.size ≤ t.heap.size → (∀ q : Nat, q < H.size → t.heap[q]? = H[q]?) → XC cls s t)
    (hf : ∀ z ∈ locs, free z.base) (hc : cells + 1 ≤ mc) (hs : slots + 6 ≤ ms) :
    W p l e R s m args below meth c H locs cells slots (vx_MQ below Qc XC args s mc ms free) (F0 m pc ls rest) := by
  intro T hT X
  have htr : e.platform.stackTraces = false := (show e.platform.stackTraces = l.stackTraces by rw [X.admits.platform]).trans hl
  have Y := vx_rebase X (R' := { frames := R.frames, locals := R.locals, cells := 1, slots := 6 }) (Nat.le_refl _) (Nat.le_refl _) hRcells hRslots
  obtain ⟨s', hA⟩ : ∃ z, z = (T.setVm s.vm).setFrames (.invoking m args :: below) := ⟨_, rfl⟩
  rw [← hA] at Y
  have hvm : s'.vm = s.vm := by rw [hA]; rfl
  have hhp : s'.heap = H := by rw [hA]; exact hT
  have hW0 : s.WarmedH s'.vm := by rw [hvm]; exact State.WarmedH.refl s
  have hat' : ∀ w ∈ vx_at0 own ic cls names, w.before args s' = true := fun w hw => vx_ot_at hW0 hvm.symm (hgood w (List.mem_cons_of_mem _ (List.mem_cons_of_mem _ hw))) (hat w hw)
  have hk' : (Cond.classLink own ik cls).before args s' = true := vx_ot_at hW0 hvm.symm (hgood _ List.mem_cons_self) hk
  have hini' : (Cond.initialized cls).before args s' = true := vx_ot_at hW0 hvm.symm (hgood _ (List.mem_cons_of_mem _ List.mem_cons_self)) hini
  have hU' : vx_Zq Bundle.tN "UNASSIGNED_STACK" Bundle.steD A s' s'.heap := by rw [hhp]; exact vx_Zq.moved hW0.alike (hU.kept hS.2.1)
  have hN' : vx_Zq Bundle.tN "SUPPRESSED_SENTINEL" Bundle.listD A s' s'.heap := by rw [hhp]; exact vx_Zq.moved hW0.alike (hN.kept hS.2.1)
  have h : ∀ w ∈ Bundle.ownAtoms0 own ic cls names, w.before args s' = true := vx_own hat' (vx_isRefq hU'.1) (vx_isRefq hN'.1) hU'.2.word hN'.2.word
  have hown' : s'.vm.findClass own = some m.cls := by rw [hvm]; exact hown
  have hins : (Cond.instantiable cls 6).before args s' = true := h _ (by simp [Bundle.ownAtoms0])
  obtain ⟨vm₁, cX, kX, hfX, hkX, -, -, X₁, st1⟩ := Y.newCold hexec (own := own) (C := cls) (index := ik) (n := 6) hown' hk' hins hini'
    (g := F0 m pc ls rest) rfl (by rw [hb]; exact d0) (Nat.le_refl _) (Nat.le_refl _)
  generalize hT1 : (T.setVm vm₁).pushCell { cls := cX, slots := kX.instanceTypes.map defaultValue, vm := .none } = T1 at X₁ st1
  have hcat : (Value.ref T.heap.size).category = 1 := rfl
  have hcellA : T1.heap[T.heap.size]? = some (freshCell cX kX) := by rw [← hT1]; exact State.heap_pushCell_size _ _
  have d3' : decode c.code (pc + 3) = .ok (.dup, 1) := by rw [hb]; exact d3
  obtain ⟨U, hsteps, hrun, hend, hW, hsame, ce, hce, hO⟩ := X₁.ctorThrow0 hexec htr (own := own) (cls := cls) (names := names) (ic := ic) hown' hcls hnames h (fun x hx => nomatch hx) hfX hkX hcellA (by rw [hhp, hT]; exact Nat.le_refl _)
    (g := { method := m, pc := pc + 4, locals := ls, stack := .ref T.heap.size :: .ref T.heap.size :: rest, locked := none }) rfl hsize rfl rfl (rest := rest) rfl
    (by rw [hb]; exact d4) (by rw [hb]; exact d7) hout hRframes (by simp only [List.map_cons, List.sum_cons, hcat]; omega) hlocks
  obtain ⟨f1, f2⟩ := vx_frame hsame
  rw [hhp] at f1 f2
  have hWs : s.WarmedH U.vm := State.WarmedH.trans hW0 hW
  have hcl : s.vm.findClass cls = some ce.cls := by
    have h9 := hO.cls
    rw [hvm] at h9
    exact h9
  have hall : s.sameButNew ({ U with vm := s.vm } : State) locs mc ms := by
    subst hA
    obtain ⟨e1, e2⟩ := hsame
    rw [State.setFrames_setFrames] at e1
    have h2 : (T.setVm s.vm).sameButNew ({ U with vm := s.vm } : State) [] (0 + 1) (0 + 6) := ⟨e1, e2⟩
    have h3 := X.same.trans h2
    rw [List.append_nil] at h3
    exact h3.mono hc hs
  refine ⟨U, ?_, .threw T.heap.size, hrun, hend, Or.inr ⟨T.heap.size, rfl, cls, ce, locs, hx U hWs.alike f1 (fun q hq => f2 q hq (fun z hz => nomatch hz)), hce, hO.vm, hcl, hWs, hall, hf⟩⟩
  refine st1 _ ?_
  show Steps p.tables e below (T1.setTop { method := m, pc := pc + 3, locals := ls, stack := .ref T.heap.size :: rest, locked := none }) _
  jvm_step X₁.here [X₁.here.top, hexec, d3', Value.category]
  exact hsteps
/-- 'throw new E("text")': new; dup; ldc; invokespecial; athrow -/
theorem vx_throwS {cc : ByteArray} {pc : Nat} (hexec : p.tables.exec = Jvm.exec) (hb : c.code = cc) (hl : l.stackTraces = false) {own cls text : String} {names : List String} {ik is ic mc ms sa : Nat} {A : Nat → Prop}
    (hown : s.vm.findClass own = some m.cls) (hcls : Bundle.fit cls = true) (hnames : ∀ n ∈ names, Bundle.fit n = true)
    (hk : (Cond.classLink own ik cls).before args s = true) (hini : (Cond.initialized cls).before args s = true) (hstr : vk_R own is text sa s) (hat : ∀ w ∈ vx_atS own ic cls names, w.before args s = true)
    (hgood : ∀ w ∈ Cond.classLink own ik cls :: Cond.initialized cls :: vx_atS own ic cls names, vx_ot w = true)
    (hU : vx_Zq Bundle.tN "UNASSIGNED_STACK" Bundle.steD A s s.heap) (hN : vx_Zq Bundle.tN "SUPPRESSED_SENTINEL" Bundle.listD A s s.heap) (hS : va_S A s.heap H locs) (hsize : ls.size = c.maxLocals)
    (d0 : decode cc pc = .ok (.new ik, 3)) (d3 : decode cc (pc + 3) = .ok (.dup, 1)) (d4 : decode cc (pc + 4) = .ok (.ldc is, 2)) (d6 : decode cc (pc + 6) = .ok (.invokespecial ic, 3)) (d9 : decode cc (pc + 9) = .ok (.athrow, 1))
    (hout : ∀ x ∈ c.exceptionTable.toList, covers x (pc + 9) = false)
    (hRframes : names.length + 3 < R.frames) (hRlocals : (rest.map fun v => v.category).sum + (13 * (names.length + 1) + 43) ≤ R.locals) (hRcells : cells + 1 ≤ R.cells) (hRslots : slots + 6 ≤ R.slots) (hlocks : meth.locks = false)
    (hx : ∀ t : State, s.vm.Alike t.vm → H.size ≤ t.heap.size → (∀ q : Nat, q < H.size → t.heap[q]? = H[q]?) → XC cls s t)
    (hf : ∀ z ∈ locs, free z.base) (hc : cells + 1 ≤ mc) (hs : slots + 6 ≤ ms) :
    W p l e R s m args below meth c H locs cells slots (vx_MQ below Qc XC args s mc ms free) (F0 m pc ls rest) := by
  intro T hT X
  have htr : e.platform.stackTraces = false := (show e.platform.stackTraces = l.stackTraces by rw [X.admits.platform]).trans hl
  have Y := vx_rebase X (R' := { frames := R.frames, locals := R.locals, cells := 1, slots := 6 }) (Nat.le_refl _) (Nat.le_refl _) hRcells hRslots
  obtain ⟨s', hA⟩ : ∃ z, z = (T.setVm s.vm).setFrames (.invoking m args :: below) := ⟨_, rfl⟩
  rw [← hA] at Y
  have hvm : s'.vm = s.vm := by rw [hA]; rfl
  have hhp : s'.heap = H := by rw [hA]; exact hT
  have hW0 : s.WarmedH s'.vm := by rw [hvm]; exact State.WarmedH.refl s
  have hat' : ∀ w ∈ vx_atS own ic cls names, w.before args s' = true := fun w hw => vx_ot_at hW0 hvm.symm (hgood w (List.mem_cons_of_mem _ (List.mem_cons_of_mem _ hw))) (hat w hw)
  have hk' : (Cond.classLink own ik cls).before args s' = true := vx_ot_at hW0 hvm.symm (hgood _ List.mem_cons_self) hk
  have hini' : (Cond.initialized cls).before args s' = true := vx_ot_at hW0 hvm.symm (hgood _ (List.mem_cons_of_mem _ List.mem_cons_self)) hini
  have hU' : vx_Zq Bundle.tN "UNASSIGNED_STACK" Bundle.steD A s' s'.heap := by rw [hhp]; exact vx_Zq.moved hW0.alike (hU.kept hS.2.1)
  have hN' : vx_Zq Bundle.tN "SUPPRESSED_SENTINEL" Bundle.listD A s' s'.heap := by rw [hhp]; exact vx_Zq.moved hW0.alike (hN.kept hS.2.1)
  have h : ∀ w ∈ Bundle.ownAtoms own ic cls names, w.before args s' = true := vx_own hat' (vx_isRefq hU'.1) (vx_isRefq hN'.1) hU'.2.word hN'.2.word
  have hown' : s'.vm.findClass own = some m.cls := by rw [hvm]; exact hown
  have hins : (Cond.instantiable cls 6).before args s' = true := h _ (by simp [Bundle.ownAtoms])
  obtain ⟨vm₁, cX, kX, hfX, hkX, -, -, X₁, st1⟩ := Y.newCold hexec (own := own) (C := cls) (index := ik) (n := 6) hown' hk' hins hini'
    (g := F0 m pc ls rest) rfl (by rw [hb]; exact d0) (Nat.le_refl _) (Nat.le_refl _)
  generalize hT1 : (T.setVm vm₁).pushCell { cls := cX, slots := kX.instanceTypes.map defaultValue, vm := .none } = T1 at X₁ st1
  have hcat : (Value.ref T.heap.size).category = 1 := rfl
  have hcellA : T1.heap[T.heap.size]? = some (freshCell cX kX) := by rw [← hT1]; exact State.heap_pushCell_size _ _
  have d3' : decode c.code (pc + 3) = .ok (.dup, 1) := by rw [hb]; exact d3
  have d4' : decode c.code (pc + 4) = .ok (.ldc is, 2) := by rw [hb]; exact d4
  have hstr' : vk_R own is text sa s' := vk_R.warm hW0 hstr
  obtain ⟨U, hsteps, hrun, hend, hW, hsame, ce, hce, hO⟩ := X₁.ctorThrowS hexec htr (own := own) (cls := cls) (names := names) (ic := ic) hown' hcls hnames h (fun x hx => nomatch hx) hfX hkX hcellA (by rw [hhp, hT]; exact Nat.le_refl _) (msg := .ref sa) rfl
    (g := { method := m, pc := pc + 6, locals := ls, stack := .ref sa :: .ref T.heap.size :: .ref T.heap.size :: rest, locked := none }) rfl hsize rfl rfl (rest := rest) rfl
    (by rw [hb]; exact d6) (by rw [hb]; exact d9) hout hRframes (by simp only [List.map_cons, List.sum_cons, hcat]; omega) hlocks
  obtain ⟨f1, f2⟩ := vx_frame hsame
  rw [hhp] at f1 f2
  have hWs : s.WarmedH U.vm := State.WarmedH.trans hW0 hW
  have hcl : s.vm.findClass cls = some ce.cls := by
    have h9 := hO.cls
    rw [hvm] at h9
    exact h9
  have hall : s.sameButNew ({ U with vm := s.vm } : State) locs mc ms := by
    subst hA
    obtain ⟨e1, e2⟩ := hsame
    rw [State.setFrames_setFrames] at e1
    have h2 : (T.setVm s.vm).sameButNew ({ U with vm := s.vm } : State) [] (0 + 1) (0 + 6) := ⟨e1, e2⟩
    have h3 := X.same.trans h2
    rw [List.append_nil] at h3
    exact h3.mono hc hs
  refine ⟨U, ?_, .threw T.heap.size, hrun, hend, Or.inr ⟨T.heap.size, rfl, cls, ce, locs, hx U hWs.alike f1 (fun q hq => f2 q hq (fun z hz => nomatch hz)), hce, hO.vm, hcl, hWs, hall, hf⟩⟩
  refine st1 _ ?_
  show Steps p.tables e below (T1.setTop { method := m, pc := pc + 3, locals := ls, stack := .ref T.heap.size :: rest, locked := none }) _
  jvm_step X₁.here [X₁.here.top, hexec, d3', Value.category]
  exact X₁.ldcString hexec (own := own) (text := text) (index := is) (a := sa) hown' hstr'.1 hstr'.2
    (g := { method := m, pc := pc + 4, locals := ls, stack := .ref T.heap.size :: .ref T.heap.size :: rest, locked := none }) rfl d4' _ hsteps
/-- 'throw new E("text")', the text by a wide index -/
theorem vx_throwSW {cc : ByteArray} {pc : Nat} (hexec : p.tables.exec = Jvm.exec) (hb : c.code = cc) (hl : l.stackTraces = false) {own cls text : String} {names : List String} {ik is ic mc ms sa : Nat} {A : Nat → Prop}
    (hown : s.vm.findClass own = some m.cls) (hcls : Bundle.fit cls = true) (hnames : ∀ n ∈ names, Bundle.fit n = true)
    (hk : (Cond.classLink own ik cls).before args s = true) (hini : (Cond.initialized cls).before args s = true) (hstr : vk_R own is text sa s) (hat : ∀ w ∈ vx_atS own ic cls names, w.before args s = true)
    (hgood : ∀ w ∈ Cond.classLink own ik cls :: Cond.initialized cls :: vx_atS own ic cls names, vx_ot w = true)
    (hU : vx_Zq Bundle.tN "UNASSIGNED_STACK" Bundle.steD A s s.heap) (hN : vx_Zq Bundle.tN "SUPPRESSED_SENTINEL" Bundle.listD A s s.heap) (hS : va_S A s.heap H locs) (hsize : ls.size = c.maxLocals)
    (d0 : decode cc pc = .ok (.new ik, 3)) (d3 : decode cc (pc + 3) = .ok (.dup, 1)) (d4 : decode cc (pc + 4) = .ok (.ldc_w is, 3)) (d7 : decode cc (pc + 7) = .ok (.invokespecial ic, 3)) (d10 : decode cc (pc + 10) = .ok (.athrow, 1))
    (hout : ∀ x ∈ c.exceptionTable.toList, covers x (pc + 10) = false)
    (hRframes : names.length + 3 < R.frames) (hRlocals : (rest.map fun v => v.category).sum + (13 * (names.length + 1) + 43) ≤ R.locals) (hRcells : cells + 1 ≤ R.cells) (hRslots : slots + 6 ≤ R.slots) (hlocks : meth.locks = false)
    (hx : ∀ t : State, s.vm.Alike t.vm → H.size ≤ t.heap.size → (∀ q : Nat, q < H.size → t.heap[q]? = H[q]?) → XC cls s t)
    (hf : ∀ z ∈ locs, free z.base) (hc : cells + 1 ≤ mc) (hs : slots + 6 ≤ ms) :
    W p l e R s m args below meth c H locs cells slots (vx_MQ below Qc XC args s mc ms free) (F0 m pc ls rest) := by
  intro T hT X
  have htr : e.platform.stackTraces = false := (show e.platform.stackTraces = l.stackTraces by rw [X.admits.platform]).trans hl
  have Y := vx_rebase X (R' := { frames := R.frames, locals := R.locals, cells := 1, slots := 6 }) (Nat.le_refl _) (Nat.le_refl _) hRcells hRslots
  obtain ⟨s', hA⟩ : ∃ z, z = (T.setVm s.vm).setFrames (.invoking m args :: below) := ⟨_, rfl⟩
  rw [← hA] at Y
  have hvm : s'.vm = s.vm := by rw [hA]; rfl
  have hhp : s'.heap = H := by rw [hA]; exact hT
  have hW0 : s.WarmedH s'.vm := by rw [hvm]; exact State.WarmedH.refl s
  have hat' : ∀ w ∈ vx_atS own ic cls names, w.before args s' = true := fun w hw => vx_ot_at hW0 hvm.symm (hgood w (List.mem_cons_of_mem _ (List.mem_cons_of_mem _ hw))) (hat w hw)
  have hk' : (Cond.classLink own ik cls).before args s' = true := vx_ot_at hW0 hvm.symm (hgood _ List.mem_cons_self) hk
  have hini' : (Cond.initialized cls).before args s' = true := vx_ot_at hW0 hvm.symm (hgood _ (List.mem_cons_of_mem _ List.mem_cons_self)) hini
  have hU' : vx_Zq Bundle.tN "UNASSIGNED_STACK" Bundle.steD A s' s'.heap := by rw [hhp]; exact vx_Zq.moved hW0.alike (hU.kept hS.2.1)
  have hN' : vx_Zq Bundle.tN "SUPPRESSED_SENTINEL" Bundle.listD A s' s'.heap := by rw [hhp]; exact vx_Zq.moved hW0.alike (hN.kept hS.2.1)
  have h : ∀ w ∈ Bundle.ownAtoms own ic cls names, w.before args s' = true := vx_own hat' (vx_isRefq hU'.1) (vx_isRefq hN'.1) hU'.2.word hN'.2.word
  have hown' : s'.vm.findClass own = some m.cls := by rw [hvm]; exact hown
  have hins : (Cond.instantiable cls 6).before args s' = true := h _ (by simp [Bundle.ownAtoms])
  obtain ⟨vm₁, cX, kX, hfX, hkX, -, -, X₁, st1⟩ := Y.newCold hexec (own := own) (C := cls) (index := ik) (n := 6) hown' hk' hins hini'
    (g := F0 m pc ls rest) rfl (by rw [hb]; exact d0) (Nat.le_refl _) (Nat.le_refl _)
  generalize hT1 : (T.setVm vm₁).pushCell { cls := cX, slots := kX.instanceTypes.map defaultValue, vm := .none } = T1 at X₁ st1
  have hcat : (Value.ref T.heap.size).category = 1 := rfl
  have hcellA : T1.heap[T.heap.size]? = some (freshCell cX kX) := by rw [← hT1]; exact State.heap_pushCell_size _ _
  have d3' : decode c.code (pc + 3) = .ok (.dup, 1) := by rw [hb]; exact d3
  have d4' : decode c.code (pc + 4) = .ok (.ldc_w is, 3) := by rw [hb]; exact d4
  have hstr' : vk_R own is text sa s' := vk_R.warm hW0 hstr
  obtain ⟨U, hsteps, hrun, hend, hW, hsame, ce, hce, hO⟩ := X₁.ctorThrowS hexec htr (own := own) (cls := cls) (names := names) (ic := ic) hown' hcls hnames h (fun x hx => nomatch hx) hfX hkX hcellA (by rw [hhp, hT]; exact Nat.le_refl _) (msg := .ref sa) rfl
    (g := { method := m, pc := pc + 7, locals := ls, stack := .ref sa :: .ref T.heap.size :: .ref T.heap.size :: rest, locked := none }) rfl hsize rfl rfl (rest := rest) rfl
    (by rw [hb]; exact d7) (by rw [hb]; exact d10) hout hRframes (by simp only [List.map_cons, List.sum_cons, hcat]; omega) hlocks
  obtain ⟨f1, f2⟩ := vx_frame hsame
  rw [hhp] at f1 f2
  have hWs : s.WarmedH U.vm := State.WarmedH.trans hW0 hW
  have hcl : s.vm.findClass cls = some ce.cls := by
    have h9 := hO.cls
    rw [hvm] at h9
    exact h9
  have hall : s.sameButNew ({ U with vm := s.vm } : State) locs mc ms := by
    subst hA
    obtain ⟨e1, e2⟩ := hsame
    rw [State.setFrames_setFrames] at e1
    have h2 : (T.setVm s.vm).sameButNew ({ U with vm := s.vm } : State) [] (0 + 1) (0 + 6) := ⟨e1, e2⟩
    have h3 := X.same.trans h2
    rw [List.append_nil] at h3
    exact h3.mono hc hs
  refine ⟨U, ?_, .threw T.heap.size, hrun, hend, Or.inr ⟨T.heap.size, rfl, cls, ce, locs, hx U hWs.alike f1 (fun q hq => f2 q hq (fun z hz => nomatch hz)), hce, hO.vm, hcl, hWs, hall, hf⟩⟩
  refine st1 _ ?_
  show Steps p.tables e below (T1.setTop { method := m, pc := pc + 3, locals := ls, stack := .ref T.heap.size :: rest, locked := none }) _
  jvm_step X₁.here [X₁.here.top, hexec, d3', Value.category]
  exact X₁.ldcStringW hexec (own := own) (text := text) (index := is) (a := sa) hown' hstr'.1 hstr'.2
    (g := { method := m, pc := pc + 4, locals := ls, stack := .ref T.heap.size :: .ref T.heap.size :: rest, locked := none }) rfl d4' _ hsteps
end Ends
section Bodies
variable {l : Launch}
theorem vx_ofW {y : MethodName} {ws ws' : List Cond} {rm : Room} {Pc : Array Value → State → Prop} {Qc : Array Value → State → Outcome → State → Prop} {XC : String → State → State → Prop} {mc ms : Nat} {free : Addr → Prop} {cc : ByteArray} {maxL : Nat} {ret : Option FieldType}
    (hy : plainName y.cls = true) (hw : ws = Cond.code y cc maxL ret :: ws')
    (body : ∀ p e s m args below meth c s₁, BodyLoose p l y (headSpec ws rm) cc maxL ret e s m args below meth c s₁ → c.maxLocals = maxL → (∀ x ∈ c.exceptionTable.toList, False) → Pc args s →
      W p l e (headSpec ws rm).room s m args below meth c s.heap [] 0 0 (vx_MQ below Qc XC args s mc ms free) (entryFrame m args maxL)) : vx_Met l y ws rm Pc Qc XC mc ms free := by
  refine MetFree.of_bodyS (code := cc) (maxLocals := maxL) (ret := ret) hy ?_ ?_
  · intro args s m h hn
    obtain ⟨meth, c, h1, h2, h3, h4, h5, h6, -, -⟩ := Cond.code_spec hn (atoms_spec (ws := ws) h _ (by rw [hw]; exact List.mem_cons_self))
    exact ⟨meth, c, h1, h2, h3, h4, h5, h6⟩
  · intro p e s m args below meth c s₁ B hml hP _
    have hh0 : s₁.heap = s.heap := by rw [B.state]; rfl
    have ht : ∀ x ∈ c.exceptionTable.toList, False := by
      obtain ⟨meth9, c9, h1, h2, -, -, -, -, h7, -⟩ := Cond.code_spec B.named (atoms_spec (ws := ws) B.pre _ (by rw [hw]; exact List.mem_cons_self))
      cases Option.some.inj (h1.symm.trans B.method)
      cases Option.some.inj (h2.symm.trans (Stand.of_body B).code)
      intro x hx
      rw [Array.isEmpty_iff.mp h7] at hx
      cases hx
    obtain ⟨t, a1, o, b1, b2, b3⟩ := body p e s m args below meth c s₁ B hml ht hP s₁ hh0 (Stand.of_body B)
    exact ⟨t, o, a1, b1, b2, b3⟩
/-- the table of a body with handlers -/
theorem vx_table {p : Program} {x y : MethodName} {S : Spec} {cc bytes : ByteArray} {maxL maxL' : Nat} {ret ret' : Option FieldType} {e : Env} {s s₁ : State} {m : MethodId} {args : Array Value} {below : List Frame} {meth : Method} {c : Code} {hh : List (Nat × Nat × Nat × Nat)}
    (B : BodyLoose p l y S cc maxL ret e s m args below meth c s₁) (h : (Cond.codeWith y bytes maxL' ret' hh).before args s = true) : c.exceptionTable.toList = tableOf hh := by
  obtain ⟨m9, meth9, c9, hn9, h1, h2, -, -, h6, -⟩ := Cond.codeWith_spec h
  cases Option.some.inj (hn9.symm.trans B.named)
  cases Option.some.inj (h1.symm.trans B.method)
  cases Option.some.inj (h2.symm.trans (Stand.of_body B).code)
  rw [← h6, table_eq]
end Bodies
end VXA
/-! ===== END ===== -/
/-! ===== BEGIN a static call of a method with an exception table ===== -/
section VXS
variable {p : Program} {l : Launch} {e : Env} {R : Room} {s : State} {m : MethodId} {args : Array Value} {below : List Frame} {meth : Method} {c : Code} {T : State} {H : Heap} {locs : List Loc} {cells slots : Nat}
abbrev vx_CSW (R : Room) (s : State) (args : Array Value) (own : String) (index : Nat) (y : MethodName) (bytes : ByteArray) (maxL : Nat) (ret : Option FieldType) (hh : List (Nat × Nat × Nat × Nat)) (ws : List Cond) (rm : Room) (mc ms n : Nat) : Prop :=
  (rm.cells = mc ∧ rm.slots = ms ∧ rm.frames + 1 ≤ R.frames ∧ 8 + (maxL + 11) + rm.locals ≤ R.locals ∧ (∀ w ∈ ws, ∀ (a' : Array Value) (U : State), s.WarmedH U.vm → w.before a' U = true) ∧ Cond.codeWith y bytes maxL ret hh ∈ ws) ∧
  (Cond.codeWith y bytes maxL ret hh).before args s = true ∧ (Cond.initialized y.cls).before args s = true ∧ (y.cls ≠ "java/lang/invoke/MethodHandle" ∧ y.cls ≠ "java/lang/invoke/VarHandle") ∧
  (∀ sig, parseMethodDescriptor y.desc = some sig → n = sig.parameters.length) ∧ (Cond.methodLink own index y).before args s = true ∧ (Cond.static y).before args s = true
theorem vx_cwSW {own : String} {index maxL mc ms : Nat} {y : MethodName} {bytes : ByteArray} {ret : Option FieldType} {hh : List (Nat × Nat × Nat × Nat)} {Ts ws ws' : List Cond} {rm : Room} (n : Nat) (ht : ∀ w ∈ Ts, w.before args s = true) (hT : GoodIn Ts (va_wsS own index y ws)) (hw : ws = Cond.codeWith y bytes maxL ret hh :: ws') (hrc : rm.cells = mc) (hrs : rm.slots = ms)
    (hd : y.cls ≠ "java/lang/invoke/MethodHandle" ∧ y.cls ≠ "java/lang/invoke/VarHandle" ∧ (parseMethodDescriptor y.desc).map (fun d => d.parameters.length) = some n) (hR : rm.frames + 1 ≤ R.frames ∧ 8 + (maxL + 11) + rm.locals ≤ R.locals) :
    vx_CSW R s args own index y bytes maxL ret hh ws rm mc ms n := by
  have ok : ∀ w ∈ va_wsS own index y ws, w.before args s = true := fun w h => ht w (hT w h).1
  have hG : GoodIn Ts ws := fun w h => hT w (by unfold va_wsS; exact List.mem_append_right _ h)
  have hc : Cond.codeWith y bytes maxL ret hh ∈ ws := by rw [hw]; exact List.mem_cons_self
  refine ⟨⟨hrc, hrs, hR.1, hR.2, pay_in ht hG, hc⟩, ht _ (hG _ hc).1, ok _ (by simp [va_wsS]), ⟨hd.1, hd.2.1⟩, fun sig h => ?_, ok _ (by simp [va_wsS]), ok _ (by simp [va_wsS])⟩
  have h2 := hd.2.2
  rw [h] at h2
  exact (Option.some.inj h2).symm
theorem vx_callSW (X : Stand p l e R s m args below meth c T locs cells slots) (hexec : p.tables.exec = Jvm.exec) {own : String} {index : Nat} {y : MethodName} {bytes : ByteArray} {maxL : Nat} {ret : Option FieldType} {hh : List (Nat × Nat × Nat × Nat)}
    (hown : s.vm.findClass own = some m.cls) (hlink : (Cond.methodLink own index y).before args s = true) (hstat : (Cond.static y).before args s = true) (hinit : (Cond.initialized y.cls).before args s = true)
    (hcode : (Cond.codeWith y bytes maxL ret hh).before args s = true) (hy : y.cls ≠ "java/lang/invoke/MethodHandle" ∧ y.cls ≠ "java/lang/invoke/VarHandle")
    {W9 : Nat} {Pre : Pt → Array Value → Prop} {Post : Pt → Array Value → Option Value → Pt → Prop} (hK : Back l R p e below s args y 3 W9 Pre Post)
    {g : JFrame} (hg : g.method = m) (hsize : g.locals.size = c.maxLocals) {argsL rest : List Value} (hlen : ∀ sig, parseMethodDescriptor y.desc = some sig → argsL.length = sig.parameters.length)
    (hstack : g.stack = argsL.reverse ++ rest) (hW : 2 * g.monitorRoom + (rest.map fun v => v.category).sum ≤ W9) (hdg : decode c.code g.pc = .ok (.invokestatic index, 3))
    (hpre : ∀ vm₁, s.WarmedH vm₁ → Pre ⟨T.setVm vm₁, locs, cells, slots⟩ argsL.toArray) :
    ∃ (v : Option Value) (vm₁ : Vm) (B : Pt), s.WarmedH vm₁ ∧ Stand p l e R s m args below meth c B.U B.locs B.cells B.slots ∧ Post ⟨T.setVm vm₁, locs, cells, slots⟩ argsL.toArray v B ∧
      ∀ target, Steps p.tables e below (B.U.setTop { g with pc := g.pc + 3, stack := v.toList ++ rest }) target → Steps p.tables e below (T.setTop g) target := by
  obtain ⟨mk, methM, cM, hnamed, hmethM, -, -, -, -, -, -, hsigM⟩ := Cond.codeWith_spec hcode
  have hstatic : methM.isStatic = true := Cond.static_spec hnamed hmethM hstat
  obtain ⟨kP, hkP, -⟩ := className_of_methodNamed hnamed
  have hinitP : kP.init = .initialized := Cond.initialized_spec (findClass_of_methodNamed hnamed) hkP hinit
  obtain ⟨vm₁, X₁, hstep₁⟩ := X.invokestatic hexec hown hlink hnamed hmethM hstatic hkP hinitP hy (g := g) hg (argsL := argsL) (rest := rest) (hlen _ hsigM) hstack hdg
  obtain ⟨v, B, X', hpost, hsteps⟩ := hK m meth c ⟨T.setVm vm₁, locs, cells, slots⟩ { g with stack := rest } (.invokestatic index) mk argsL.toArray X₁ hg hsize hdg hW (X₁.named hnamed) (hpre vm₁ X₁.warmed)
  exact ⟨v, vm₁, B, X₁.warmed, X', hpost, fun target h => hstep₁ _ fun acts => by rw [doInvoke_state]; exact hsteps.trans h⟩
theorem vx_runSW {y : MethodName} {bytes cc : ByteArray} {maxL nL mc ms n index : Nat} {ret : Option FieldType} {hh : List (Nat × Nat × Nat × Nat)} {ws : List Cond} {rm : Room} {Pc : Array Value → State → Prop} {Qc : Array Value → State → Outcome → State → Prop} {free : Addr → Prop} {Ts : List Cond} {own : String} {As rest : List Value} {g : JFrame}
    (S : CallFix p m c cc nL s args Ts own) (hM : Met l y ws rm Pc Qc mc ms free) (cw : vx_CSW R s args own index y bytes maxL ret hh ws rm mc ms n) (hp : PreS s H Pc As)
    (hg : g.method = m) (hn : As.length = n) (hsize : g.locals.size = nL) (hstack : g.stack = As.reverse ++ rest) (hW : 2 * g.monitorRoom + (rest.map fun v => v.category).sum ≤ 8) (hdg : decode cc g.pc = .ok (.invokestatic index, 3)) (hf : cells + mc ≤ R.cells ∧ slots + ms ≤ R.slots) :
    va_Run p l e R s m args below meth c H locs cells slots mc ms g rest (Qc As.toArray) (free) := by
  obtain ⟨⟨hrc, hrs, hfr, hlo, hws, hcw⟩, hcode, hini, hy, hlen, hl, hstt⟩ := cw
  have hK : Back l R p e below s args y 3 8 (PreOf R mc ms Pc) (PostOf Qc mc ms free) := va_backW (hh := hh) (bytes := bytes) (maxL := maxL) (ret := ret) hM hp.1 hrc hrs hfr hlo hws hcw (fun a' U hW => word_at hW (Or.inl (by first | rfl | simp [Cond.onTables, Cond.keeps, Cond.steady])) hini)
  obtain ⟨hx, hb, hml, ho, -⟩ := S
  intro T hT X
  obtain ⟨v, vm₁, ⟨U', l2, c2, s2⟩, hW₁, X', ⟨g', mk, t, L, e1, e2, hq, h1, hL, h2, h3⟩, st⟩ := vx_callSW X hx (hh := hh) (bytes := bytes) (maxL := maxL) (ret := ret) ho hl hstt hini hcode hy hK hg (hsize.trans hml.symm) (argsL := As) (rest := rest) (fun sig h => hn.trans (hlen sig h)) hstack hW (by rw [hb]; exact hdg)
    (fun vm₁ hW₁ => ⟨hf.1, hf.2, hp.2 (T.setVm vm₁) hT hW₁⟩)
  dsimp only [Pt.U, Pt.locs, Pt.cells, Pt.slots] at X' e1 e2 h1 h2 h3 st
  subst h1; subst h2; subst h3
  exact ⟨v, (T.setVm vm₁).calling g' mk As.toArray, t, U', L, hT, X', hL, e1, e2, hq, st⟩
/-- not caught here, past rows that name other classes: it goes on to the caller -/
theorem vx_outP {p : Program} {l : Launch} {e : Env} {R : Room} {s : State} {m : MethodId} {args : Array Value} {below : List Frame} {meth : Method} {c : Code} {H : Heap} {locs : List Loc} {cells slots : Nat} {free : Addr → Prop} {ls : Array Slot} {rest : List Value} {Qc : Array Value → State → Outcome → State → Prop} {XC : String → State → State → Prop}
    {pc : Nat} {own E : String} {ce : Cell} {q : Addr} {mc ms : Nat} (hown : s.vm.findClass own = some m.cls) (hlocks : meth.locks = false)
    (hpass : ∀ z ∈ c.exceptionTable.toList, covers z pc = false ∨ (z.catchType ≠ 0 ∧ ∃ nm : String, (Cond.classLink own z.catchType nm).before args s = true ∧ va_Nc E nm s)) (hcell : H[q]? = some ce) (hv : ce.vm = .none) (hcl : s.vm.findClass E = some ce.cls)
    (hx : ∀ t : State, t.heap = H → s.vm.Alike t.vm → XC E s t) (hf : ∀ z ∈ locs, free z.base) (hc : cells ≤ mc) (hs : slots ≤ ms) :
    vx_W p l e R s m args below meth c H locs cells slots (vx_MQ below Qc XC args s mc ms free) (F0 m pc ls rest) q := by
  intro T hT X
  have hpl : e.platform.magicAccessors = ({} : Platform).magicAccessors := by rw [X.admits.platform]
  obtain ⟨vm', hW', X', st⟩ := X.outThrough hlocks q (g := F0 m pc ls rest) rfl rfl rfl (cell := ce) (by rw [hT]; exact hcell) (by rw [hv]; rfl)
    (by obtain ⟨k9, h9, -⟩ := Vm.findClass_spec hcl; exact ⟨k9, h9⟩) (fun z hz => by
      rcases hpass z hz with h | ⟨hz0, nm, hl1, hn1⟩
      · exact Or.inl h
      · obtain ⟨c6, hc6, hcl6⟩ := Cond.classLink_spec hown hl1 e.platform hpl
        obtain ⟨a8, b8, h1, h2, h3⟩ := hn1
        cases Option.some.inj (h1.symm.trans hcl)
        cases Option.some.inj (h2.symm.trans hc6)
        exact Or.inr ⟨hz0, _, hcl6, h3⟩)
  obtain ⟨g₀, hfr⟩ := X'.frames_eq
  have hcell9 : ((T.setVm vm').setFrames (.throwing q :: below)).heap[q]? = some ce := by
    show T.heap[q]? = some ce
    rw [hT]; exact hcell
  have hend : Ended ((T.setVm vm').setFrames (.throwing q :: below)) below (.threw q) := State.frames_setFrames _ (State.cur_lt_of_frames hfr)
  refine ⟨(T.setVm vm').setFrames (.throwing q :: below), ?_, .threw q, X'.here.running, hend, Or.inr ⟨q, rfl, E, ce, locs, hx _ hT (X'.ends _).1.alike, hcell9, hv, hcl, (X'.ends _).1, (X'.ends _).2.mono hc hs, hf⟩⟩
  rw [X.pushThrowing_eq]
  exact st
/-- a thing of a world lies in the heap -/
theorem vx_lt {D : va_G} {cl : List vw_C} {ws : va_W} {H1 : Heap} (h : va_P D cl ws H1) {k : Nat} {q : Nat × va_E} (hk : ws[k]? = some q) : q.1 < H1.size := (h k q hk).lt
end VXS
/-! ===== END ===== -/
/-! ===== BEGIN methods with a table of their own: called by a name, returning or throwing ===== -/
section VXH
/-! vx_backW, vx_callVX, vx_callSX, vx_callVW, vx_runVW, vx_runVX, vx_runSX, vx_ofWH follow the same proofs as their sisters above (Free/Laws.lean, Shelf42/LK1.lean); vx_outP calls Shelf42/NT130.lean (outThrough). -/
section
variable {l : Launch} {R : Room} {p : Program} {e : Env} {below : List Frame} {s : State} {sargs : Array Value} {y : MethodName} {len W9 : Nat}
theorem vx_backW {ws : List Cond} {rm : Room} {Pc : Array Value → State → Prop} {Qc : Array Value → State → Outcome → State → Prop} {XC : String → State → State → Prop} {mc ms : Nat} {free : Addr → Prop} {bytes : ByteArray} {maxL : Nat} {ret : Option FieldType} {hh : List (Nat × Nat × Nat × Nat)}
    (hM : vx_Met l y ws rm Pc Qc XC mc ms free) (hblind : FrameBlind Pc) (hrc : rm.cells = mc) (hrs : rm.slots = ms)
    (hframes : rm.frames + 1 ≤ R.frames) (hlocals : W9 + (maxL + 11) + rm.locals ≤ R.locals)
    (hws : ∀ w ∈ ws, ∀ a' U, s.WarmedH U.vm → w.before a' U = true) (hcode : Cond.codeWith y bytes maxL ret hh ∈ ws) (hinit : ∀ a' U, s.WarmedH U.vm → (Cond.initialized y.cls).before a' U = true) :
    vx_Back l R p e below s sargs y len W9 (PreOf R mc ms Pc) (PostOf Qc mc ms free) (vx_Post XC mc ms free) := by
  intro m meth c A g ig mk a X hg hsize hdg hW hn hp
  have h1 : (headSpec ws rm).pre.before a A.U = true := atoms_intro fun w hw => hws w hw _ _ X.warmed
  have h2 : (Cond.codeWith y bytes maxL ret hh).before a A.U = true := hws _ hcode _ _ X.warmed
  have h3 : (Cond.initialized y.cls).before a A.U = true := hinit _ _ X.warmed
  have h4 : A.cells + (headSpec ws rm).room.cells ≤ R.cells := by rw [show (headSpec ws rm).room.cells = mc from hrc]; exact hp.1
  have h5 : A.slots + (headSpec ws rm).room.slots ≤ R.slots := by rw [show (headSpec ws rm).room.slots = ms from hrs]; exact hp.2.1
  have hPc : Pc a (A.U.calling g mk a) := hblind _ _ _ _ hp.2.2
  obtain ⟨U, Ls, c0, s0⟩ := A
  dsimp only [Pt.U, Pt.locs, Pt.cells, Pt.slots] at h1 h2 h3 h4 h5 X hn hPc ⊢
  obtain ⟨m9, methY, cY, hn9, hmY, hcY, -, hlY, -⟩ := Cond.codeWith_spec h2
  cases Option.some.inj (hn9.symm.trans hn)
  obtain ⟨kY, hkY, -⟩ := className_of_methodNamed hn
  have hinitY : kY.init = .initialized := Cond.initialized_spec (findClass_of_methodNamed hn) hkY h3
  have h : At U g.method c below := by rw [hg]; exact X.here
  have hlocals9 : W9 + (maxL + 11) + (headSpec ws rm).room.locals ≤ R.locals := hlocals
  have happ : (headSpec ws rm).appliesLoose y e.platform (U.calling g mk a) = true :=
    Spec.appliesLoose_calling (g := g) h hdg hn hkY hinitY
      (X.room_calling (g := g) (R' := (headSpec ws rm).room) hsize hmY hcY hframes (by rw [hlY]; omega) h4 h5) h1
  obtain ⟨mid, hmid⟩ := h.above
  have hfr : (U.setTop g).frames = (.java g :: mid) ++ below := by rw [State.frames_setTop' g h.top, hmid]; rfl
  obtain ⟨o, s₂, hsteps, -, hend, hq⟩ := Steps.callFree hM p X.admits X.cas X.clock (acts := []) hfr happ hPc trivial
  have hq' : vx_Q Qc XC mc ms free a (U.calling g mk a) o s₂ := hq
  rw [State.frames_setTop' g h.top] at hend
  obtain ⟨g₀, hg0⟩ := Option.isSome_iff_exists.mp h.top
  obtain ⟨r, hr⟩ := State.topJava?_eq_some.mp hg0
  have hr' : (({ U with heap := s₂.heap, slotsUsed := s₂.slotsUsed } : State).setVm s₂.vm).frames = .java g₀ :: r := hr
  rcases hq' with ⟨hqc, L, hfe, hL⟩ | ⟨q, rfl, E, ce, L, hx, hce, hcv, hcl, hW₂, hsm, hL⟩
  · obtain ⟨⟨v, rfl⟩, hW₂, e2, q2, q3, q4, q5, q6⟩ := id hfe
    have e3 : s₂ = ({ (U.calling g mk a).setFrames s₂.frames with heap := s₂.heap, slotsUsed := s₂.slotsUsed } : State).setVm s₂.vm := by
      have : s₂ = ({ s₂ with vm := (U.calling g mk a).vm } : State).setVm s₂.vm := rfl
      rw [e2] at this
      exact this
    obtain ⟨c₂, i₂, len₂, hc₂, hd₂, hf₂⟩ := hend
    have hW' : U.WarmedH s₂.vm := hW₂
    have hcc : c₂ = c := by
      have h1 : s₂.code? g.method = U.code? g.method := by
        rw [State.code?_eq, State.code?_eq, hW'.alike.method?]
      exact Option.some.inj (hc₂.symm.trans (h1.trans h.code))
    subst hcc
    have hlen : len₂ = len := by rw [hdg] at hd₂; cases hd₂; rfl
    subst hlen
    have hs₂ : s₂ = (({ U with heap := s₂.heap, slotsUsed := s₂.slotsUsed } : State).setVm s₂.vm).setTop { g with pc := g.pc + len₂, stack := v.toList ++ g.stack } := by
      refine e3.trans ?_
      rw [hf₂, State.calling_eq h.top, State.setFrames_setFrames, State.setTop_of_frames _ hr', hr]
      rfl
    have hsame : U.sameButNew ({ U with heap := s₂.heap, slotsUsed := s₂.slotsUsed } : State) L mc ms := by
      refine ⟨?_, q2, q3, q4, q5, q6⟩
      obtain ⟨t, ht, -⟩ := State.frames_cons hr
      show ({ U with heap := s₂.heap, slotsUsed := s₂.slotsUsed } : State) = { U.setFrames U.frames with heap := s₂.heap, slotsUsed := s₂.slotsUsed }
      rw [State.setFrames_self ht]
    subst hg
    refine Or.inl ⟨v, ⟨(({ U with heap := s₂.heap, slotsUsed := s₂.slotsUsed } : State).setVm s₂.vm), Ls ++ L, c0 + mc, s0 + ms⟩,
      ⟨X.admits, X.cas, X.clock, X.frames, X.room, X.hears, X.method, X.code, (X.here.setHeapUsed s₂.heap s₂.slotsUsed).setVm hW'.alike, X.tail, State.WarmedH.trans X.warmed hW', X.limits, X.bytes, X.same.trans (hsame.setVm s.vm)⟩,
      ⟨g, mk, s₂, L, rfl, rfl, hqc, rfl, hL, rfl, rfl⟩, ?_⟩
    show Steps p.tables e below _ ((({ U with heap := s₂.heap, slotsUsed := s₂.slotsUsed } : State).setVm s₂.vm).setTop { g with pc := g.pc + len₂, stack := v.toList ++ g.stack })
    rw [← hs₂]
    exact hsteps
  · obtain ⟨e2, q2, q3, q4, q5, q6⟩ := id hsm
    have e3 : s₂ = ({ (U.calling g mk a).setFrames s₂.frames with heap := s₂.heap, slotsUsed := s₂.slotsUsed } : State).setVm s₂.vm := by
      have : s₂ = ({ s₂ with vm := (U.calling g mk a).vm } : State).setVm s₂.vm := rfl
      rw [e2] at this
      exact this
    have hf₂ : s₂.frames = .throwing q :: .java g :: U.frames.tail := hend
    have hW' : U.WarmedH s₂.vm := hW₂
    have hs₂ : s₂ = ((({ U with heap := s₂.heap, slotsUsed := s₂.slotsUsed } : State).setVm s₂.vm).setTop g).pushFrame (.throwing q) := by
      refine e3.trans ?_
      rw [hf₂, State.calling_eq h.top, State.setFrames_setFrames, State.pushFrame, State.frames_setTop _ hr', State.setTop_of_frames _ hr', State.setFrames_setFrames, hr]
      rfl
    have hsame : U.sameButNew ({ U with heap := s₂.heap, slotsUsed := s₂.slotsUsed } : State) L mc ms := by
      refine ⟨?_, q2, q3, q4, q5, q6⟩
      obtain ⟨t, ht, -⟩ := State.frames_cons hr
      show ({ U with heap := s₂.heap, slotsUsed := s₂.slotsUsed } : State) = { U.setFrames U.frames with heap := s₂.heap, slotsUsed := s₂.slotsUsed }
      rw [State.setFrames_self ht]
    subst hg
    refine Or.inr ⟨q, ⟨(({ U with heap := s₂.heap, slotsUsed := s₂.slotsUsed } : State).setVm s₂.vm), Ls ++ L, c0 + mc, s0 + ms⟩,
      ⟨X.admits, X.cas, X.clock, X.frames, X.room, X.hears, X.method, X.code, (X.here.setHeapUsed s₂.heap s₂.slotsUsed).setVm hW'.alike, X.tail, State.WarmedH.trans X.warmed hW', X.limits, X.bytes, X.same.trans (hsame.setVm s.vm)⟩,
      ⟨g, mk, s₂, L, E, ce, rfl, rfl, hx, hce, hcv, hcl, rfl, hL, rfl, rfl⟩, ?_⟩
    show Steps p.tables e below _ (((({ U with heap := s₂.heap, slotsUsed := s₂.slotsUsed } : State).setVm s₂.vm).setTop g).pushFrame (.throwing q))
    rw [← hs₂]
    exact hsteps
end
variable {p : Program} {l : Launch} {e : Env} {R : Room} {s : State} {m : MethodId} {args : Array Value} {below : List Frame} {meth : Method} {c : Code} {T : State} {H : Heap} {locs : List Loc} {cells slots : Nat}
theorem vx_callVX (X : Stand p l e R s m args below meth c T locs cells slots) (hexec : p.tables.exec = Jvm.exec) {own C : String} {index : Nat} {y : MethodName} {bytes : ByteArray} {maxL : Nat} {ret : Option FieldType} {hh : List (Nat × Nat × Nat × Nat)}
    (hown : s.vm.findClass own = some m.cls) (hlink : (Cond.methodLink own index y).before args s = true) (hinst : (Cond.instanceMethod y).before args s = true) (hsel : (Cond.selects C y y).before args s = true)
    (hcode : (Cond.codeWith y bytes maxL ret hh).before args s = true) (hy : y.cls ≠ "java/lang/invoke/MethodHandle" ∧ y.cls ≠ "java/lang/invoke/VarHandle")
    {W9 : Nat} {Pre : Pt → Array Value → Prop} {Post : Pt → Array Value → Option Value → Pt → Prop} {PostX : Pt → Array Value → Addr → Pt → Prop} (hK : vx_Back l R p e below s args y 3 W9 Pre Post PostX)
    {b : Addr} {cellB : Cell} (hcell : T.heap[b]? = some cellB) (hobj : cellB.vm.isStatics = false) (hcls : s.vm.findClass C = some cellB.cls)
    {g : JFrame} (hg : g.method = m) (hsize : g.locals.size = c.maxLocals) {argsL rest : List Value} (hlen : ∀ sig, parseMethodDescriptor y.desc = some sig → argsL.length = sig.parameters.length)
    (hstack : g.stack = argsL.reverse ++ .ref b :: rest) (hW : 2 * g.monitorRoom + (rest.map fun v => v.category).sum ≤ W9) (hdg : decode c.code g.pc = .ok (.invokevirtual index, 3))
    (hpre : ∀ vm₁, s.WarmedH vm₁ → Pre ⟨T.setVm vm₁, locs, cells, slots⟩ (Value.ref b :: argsL).toArray) :
    (∃ (v : Option Value) (vm₁ : Vm) (B : Pt), s.WarmedH vm₁ ∧ Stand p l e R s m args below meth c B.U B.locs B.cells B.slots ∧ Post ⟨T.setVm vm₁, locs, cells, slots⟩ (Value.ref b :: argsL).toArray v B ∧
      ∀ target, Steps p.tables e below (B.U.setTop { g with pc := g.pc + 3, stack := v.toList ++ rest }) target → Steps p.tables e below (T.setTop g) target) ∨
    (∃ (q : Addr) (vm₁ : Vm) (B : Pt), s.WarmedH vm₁ ∧ Stand p l e R s m args below meth c B.U B.locs B.cells B.slots ∧ PostX ⟨T.setVm vm₁, locs, cells, slots⟩ (Value.ref b :: argsL).toArray q B ∧
      Steps p.tables e below (T.setTop g) ((B.U.setTop { g with stack := rest }).pushFrame (.throwing q))) := by
  obtain ⟨mk, methM, hnamed, hmethM, hstM, habM⟩ := Cond.instanceMethod_spec hinst
  obtain ⟨m8, methM', cM, hn8, hmethM', -, -, -, -, -, -, hsigM⟩ := Cond.codeWith_spec hcode
  cases Option.some.inj (hn8.symm.trans hnamed)
  cases hmethM.symm.trans hmethM'
  obtain ⟨c2, r2, m2, q1, q2, q3, q4, kP, hkP, hkPi⟩ := Cond.selects_spec hsel
  cases hcls.symm.trans q1
  cases (State.methodFound?_of_named hnamed hy).symm.trans q2
  cases hnamed.symm.trans q3
  have hselP : selectMethod e.platform s.vm cellB.cls mk = .method mk := by rw [Launch.admits_selectMethod X.admits]; exact q4
  obtain ⟨vm₁, X₁, hstep₁⟩ := X.invokevirtual hexec hown hlink hnamed hmethM hstM hkP hkPi hy (a := b) (cell := cellB) hcell
    (fun z h => by rw [h] at hobj; cases hobj) hselP hmethM habM hkP hkPi (g := g) hg (argsL := argsL) (rest := rest) (hlen _ hsigM) hstack hdg
  rcases hK m meth c ⟨T.setVm vm₁, locs, cells, slots⟩ { g with stack := rest } (.invokevirtual index) mk (Value.ref b :: argsL).toArray X₁ hg hsize hdg hW (X₁.named hnamed) (hpre vm₁ X₁.warmed) with ⟨v, B, X', hpost, hsteps⟩ | ⟨q, B, X', hpost, hsteps⟩
  · exact Or.inl ⟨v, vm₁, B, X₁.warmed, X', hpost, fun target h => hstep₁ _ fun acts => by rw [doInvoke_state]; exact hsteps.trans h⟩
  · exact Or.inr ⟨q, vm₁, B, X₁.warmed, X', hpost, hstep₁ _ fun acts => by rw [doInvoke_state]; exact hsteps⟩
theorem vx_callSX (X : Stand p l e R s m args below meth c T locs cells slots) (hexec : p.tables.exec = Jvm.exec) {own : String} {index : Nat} {y : MethodName} {bytes : ByteArray} {maxL : Nat} {ret : Option FieldType} {hh : List (Nat × Nat × Nat × Nat)}
    (hown : s.vm.findClass own = some m.cls) (hlink : (Cond.methodLink own index y).before args s = true) (hstat : (Cond.static y).before args s = true) (hinit : (Cond.initialized y.cls).before args s = true)
    (hcode : (Cond.codeWith y bytes maxL ret hh).before args s = true) (hy : y.cls ≠ "java/lang/invoke/MethodHandle" ∧ y.cls ≠ "java/lang/invoke/VarHandle")
    {W9 : Nat} {Pre : Pt → Array Value → Prop} {Post : Pt → Array Value → Option Value → Pt → Prop} {PostX : Pt → Array Value → Addr → Pt → Prop} (hK : vx_Back l R p e below s args y 3 W9 Pre Post PostX)
    {g : JFrame} (hg : g.method = m) (hsize : g.locals.size = c.maxLocals) {argsL rest : List Value} (hlen : ∀ sig, parseMethodDescriptor y.desc = some sig → argsL.length = sig.parameters.length)
    (hstack : g.stack = argsL.reverse ++ rest) (hW : 2 * g.monitorRoom + (rest.map fun v => v.category).sum ≤ W9) (hdg : decode c.code g.pc = .ok (.invokestatic index, 3))
    (hpre : ∀ vm₁, s.WarmedH vm₁ → Pre ⟨T.setVm vm₁, locs, cells, slots⟩ argsL.toArray) :
    (∃ (v : Option Value) (vm₁ : Vm) (B : Pt), s.WarmedH vm₁ ∧ Stand p l e R s m args below meth c B.U B.locs B.cells B.slots ∧ Post ⟨T.setVm vm₁, locs, cells, slots⟩ argsL.toArray v B ∧
      ∀ target, Steps p.tables e below (B.U.setTop { g with pc := g.pc + 3, stack := v.toList ++ rest }) target → Steps p.tables e below (T.setTop g) target) ∨
    (∃ (q : Addr) (vm₁ : Vm) (B : Pt), s.WarmedH vm₁ ∧ Stand p l e R s m args below meth c B.U B.locs B.cells B.slots ∧ PostX ⟨T.setVm vm₁, locs, cells, slots⟩ argsL.toArray q B ∧
      Steps p.tables e below (T.setTop g) ((B.U.setTop { g with stack := rest }).pushFrame (.throwing q))) := by
  obtain ⟨mk, methM, cM, hnamed, hmethM, -, -, -, -, -, -, hsigM⟩ := Cond.codeWith_spec hcode
  have hstatic : methM.isStatic = true := Cond.static_spec hnamed hmethM hstat
  obtain ⟨kP, hkP, -⟩ := className_of_methodNamed hnamed
  have hinitP : kP.init = .initialized := Cond.initialized_spec (findClass_of_methodNamed hnamed) hkP hinit
  obtain ⟨vm₁, X₁, hstep₁⟩ := X.invokestatic hexec hown hlink hnamed hmethM hstatic hkP hinitP hy (g := g) hg (argsL := argsL) (rest := rest) (hlen _ hsigM) hstack hdg
  rcases hK m meth c ⟨T.setVm vm₁, locs, cells, slots⟩ { g with stack := rest } (.invokestatic index) mk argsL.toArray X₁ hg hsize hdg hW (X₁.named hnamed) (hpre vm₁ X₁.warmed) with ⟨v, B, X', hpost, hsteps⟩ | ⟨q, B, X', hpost, hsteps⟩
  · exact Or.inl ⟨v, vm₁, B, X₁.warmed, X', hpost, fun target h => hstep₁ _ fun acts => by rw [doInvoke_state]; exact hsteps.trans h⟩
  · exact Or.inr ⟨q, vm₁, B, X₁.warmed, X', hpost, hstep₁ _ fun acts => by rw [doInvoke_state]; exact hsteps⟩
theorem vx_callVW (X : Stand p l e R s m args below meth c T locs cells slots) (hexec : p.tables.exec = Jvm.exec) {own C : String} {index : Nat} {y : MethodName} {bytes : ByteArray} {maxL : Nat} {ret : Option FieldType} {hh : List (Nat × Nat × Nat × Nat)}
    (hown : s.vm.findClass own = some m.cls) (hlink : (Cond.methodLink own index y).before args s = true) (hinst : (Cond.instanceMethod y).before args s = true) (hsel : (Cond.selects C y y).before args s = true)
    (hcode : (Cond.codeWith y bytes maxL ret hh).before args s = true) (hy : y.cls ≠ "java/lang/invoke/MethodHandle" ∧ y.cls ≠ "java/lang/invoke/VarHandle")
    {W9 : Nat} {Pre : Pt → Array Value → Prop} {Post : Pt → Array Value → Option Value → Pt → Prop} (hK : Back l R p e below s args y 3 W9 Pre Post)
    {b : Addr} {cellB : Cell} (hcell : T.heap[b]? = some cellB) (hobj : cellB.vm.isStatics = false) (hcls : s.vm.findClass C = some cellB.cls)
    {g : JFrame} (hg : g.method = m) (hsize : g.locals.size = c.maxLocals) {argsL rest : List Value} (hlen : ∀ sig, parseMethodDescriptor y.desc = some sig → argsL.length = sig.parameters.length)
    (hstack : g.stack = argsL.reverse ++ .ref b :: rest) (hW : 2 * g.monitorRoom + (rest.map fun v => v.category).sum ≤ W9) (hdg : decode c.code g.pc = .ok (.invokevirtual index, 3))
    (hpre : ∀ vm₁, s.WarmedH vm₁ → Pre ⟨T.setVm vm₁, locs, cells, slots⟩ (Value.ref b :: argsL).toArray) :
    ∃ (v : Option Value) (vm₁ : Vm) (B : Pt), s.WarmedH vm₁ ∧ Stand p l e R s m args below meth c B.U B.locs B.cells B.slots ∧ Post ⟨T.setVm vm₁, locs, cells, slots⟩ (Value.ref b :: argsL).toArray v B ∧
      ∀ target, Steps p.tables e below (B.U.setTop { g with pc := g.pc + 3, stack := v.toList ++ rest }) target → Steps p.tables e below (T.setTop g) target := by
  obtain ⟨mk, methM, hnamed, hmethM, hstM, habM⟩ := Cond.instanceMethod_spec hinst
  obtain ⟨m8, methM', cM, hn8, hmethM', -, -, -, -, -, -, hsigM⟩ := Cond.codeWith_spec hcode
  cases Option.some.inj (hn8.symm.trans hnamed)
  cases hmethM.symm.trans hmethM'
  obtain ⟨c2, r2, m2, q1, q2, q3, q4, kP, hkP, hkPi⟩ := Cond.selects_spec hsel
  cases hcls.symm.trans q1
  cases (State.methodFound?_of_named hnamed hy).symm.trans q2
  cases hnamed.symm.trans q3
  have hselP : selectMethod e.platform s.vm cellB.cls mk = .method mk := by rw [Launch.admits_selectMethod X.admits]; exact q4
  obtain ⟨vm₁, X₁, hstep₁⟩ := X.invokevirtual hexec hown hlink hnamed hmethM hstM hkP hkPi hy (a := b) (cell := cellB) hcell
    (fun z h => by rw [h] at hobj; cases hobj) hselP hmethM habM hkP hkPi (g := g) hg (argsL := argsL) (rest := rest) (hlen _ hsigM) hstack hdg
  obtain ⟨v, B, X', hpost, hsteps⟩ := hK m meth c ⟨T.setVm vm₁, locs, cells, slots⟩ { g with stack := rest } (.invokevirtual index) mk (Value.ref b :: argsL).toArray X₁ hg hsize hdg hW (X₁.named hnamed) (hpre vm₁ X₁.warmed)
  exact ⟨v, vm₁, B, X₁.warmed, X', hpost, fun target h => hstep₁ _ fun acts => by rw [doInvoke_state]; exact hsteps.trans h⟩
abbrev vx_CVW (R : Room) (s : State) (args : Array Value) (own C : String) (index : Nat) (y : MethodName) (bytes : ByteArray) (maxL : Nat) (ret : Option FieldType) (hh : List (Nat × Nat × Nat × Nat)) (ws : List Cond) (rm : Room) (mc ms n : Nat) : Prop :=
  (rm.cells = mc ∧ rm.slots = ms ∧ rm.frames + 1 ≤ R.frames ∧ 8 + (maxL + 11) + rm.locals ≤ R.locals ∧ (∀ w ∈ ws, ∀ (a' : Array Value) (U : State), s.WarmedH U.vm → w.before a' U = true) ∧ Cond.codeWith y bytes maxL ret hh ∈ ws) ∧
  (Cond.codeWith y bytes maxL ret hh).before args s = true ∧ (Cond.initialized y.cls).before args s = true ∧ (y.cls ≠ "java/lang/invoke/MethodHandle" ∧ y.cls ≠ "java/lang/invoke/VarHandle") ∧
  (∀ sig, parseMethodDescriptor y.desc = some sig → n = sig.parameters.length) ∧ (Cond.methodLink own index y).before args s = true ∧ (Cond.instanceMethod y).before args s = true ∧ (Cond.selects C y y).before args s = true
theorem vx_cwVW {own C : String} {index maxL mc ms : Nat} {y : MethodName} {bytes : ByteArray} {ret : Option FieldType} {hh : List (Nat × Nat × Nat × Nat)} {Ts ws ws' : List Cond} {rm : Room} (n : Nat) (ht : ∀ w ∈ Ts, w.before args s = true) (hT : GoodIn Ts (wsV own index C y ws)) (hw : ws = Cond.codeWith y bytes maxL ret hh :: ws') (hrc : rm.cells = mc) (hrs : rm.slots = ms)
    (hd : y.cls = C ∧ y.cls ≠ "java/lang/invoke/MethodHandle" ∧ y.cls ≠ "java/lang/invoke/VarHandle" ∧ (parseMethodDescriptor y.desc).map (fun d => d.parameters.length) = some n) (hR : rm.frames + 1 ≤ R.frames ∧ 8 + (maxL + 11) + rm.locals ≤ R.locals) :
    vx_CVW R s args own C index y bytes maxL ret hh ws rm mc ms n := by
  obtain ⟨hC, hd⟩ := hd
  subst hC
  have ok : ∀ w ∈ wsV own index y.cls y ws, w.before args s = true := fun w h => ht w (hT w h).1
  have hG : GoodIn Ts ws := fun w h => hT w (by unfold wsV; exact List.mem_append_right _ h)
  have hc : Cond.codeWith y bytes maxL ret hh ∈ ws := by rw [hw]; exact List.mem_cons_self
  refine ⟨⟨hrc, hrs, hR.1, hR.2, pay_in ht hG, hc⟩, ht _ (hG _ hc).1, ok _ (by simp [wsV]), ⟨hd.1, hd.2.1⟩, fun sig h => ?_, ok _ (by simp [wsV]), ok _ (by simp [wsV]), ok _ (by simp [wsV])⟩
  have h2 := hd.2.2
  rw [h] at h2
  exact (Option.some.inj h2).symm
theorem vx_runVW {y : MethodName} {bytes cc : ByteArray} {maxL nL mc ms n index : Nat} {ret : Option FieldType} {hh : List (Nat × Nat × Nat × Nat)} {ws : List Cond} {rm : Room} {Pc : Array Value → State → Prop} {Qc : Array Value → State → Outcome → State → Prop} {free : Addr → Prop} {Ts : List Cond} {own C : String} {b : Addr} {As rest : List Value} {g : JFrame}
    (S : CallFix p m c cc nL s args Ts own) (hM : Met l y ws rm Pc Qc mc ms free) (cw : vx_CVW R s args own C index y bytes maxL ret hh ws rm mc ms n) (hp : PreV s H C b Pc As)
    (hg : g.method = m) (hn : As.length = n) (hsize : g.locals.size = nL) (hstack : g.stack = As.reverse ++ .ref b :: rest) (hW : 2 * g.monitorRoom + (rest.map fun v => v.category).sum ≤ 8) (hdg : decode cc g.pc = .ok (.invokevirtual index, 3)) (hf : cells + mc ≤ R.cells ∧ slots + ms ≤ R.slots) :
    va_Run p l e R s m args below meth c H locs cells slots mc ms g rest (Qc (Value.ref b :: As).toArray) free := by
  obtain ⟨⟨hrc, hrs, hfr, hlo, hws, hcw⟩, hcode, hini, hy, hlen, hl, hin, hse⟩ := cw
  have hK : Back l R p e below s args y 3 8 (PreOf R mc ms Pc) (PostOf Qc mc ms free) := va_backW (hh := hh) (bytes := bytes) (maxL := maxL) (ret := ret) hM hp.1 hrc hrs hfr hlo hws hcw (fun a' U hW => word_at hW (Or.inl (by first | rfl | simp [Cond.onTables, Cond.keeps, Cond.steady])) hini)
  obtain ⟨hx, hb, hml, ho, -⟩ := S
  obtain ⟨-, ⟨cellB, hcB, hoB, hclB⟩, hPc⟩ := hp
  intro T hT X
  obtain ⟨v, vm₁, ⟨U', l2, c2, s2⟩, hW₁, X', ⟨g', mk, t, L, e1, e2, hq, h1, hL, h2, h3⟩, st⟩ := vx_callVW X hx (C := C) (hh := hh) (bytes := bytes) (maxL := maxL) (ret := ret) ho hl hin hse hcode hy hK (by rw [hT]; exact hcB) hoB hclB hg (hsize.trans hml.symm) (argsL := As) (rest := rest) (fun sig h => hn.trans (hlen sig h)) hstack hW (by rw [hb]; exact hdg)
    (fun vm₁ hW₁ => ⟨hf.1, hf.2, hPc (T.setVm vm₁) hT hW₁⟩)
  dsimp only [Pt.U, Pt.locs, Pt.cells, Pt.slots] at X' e1 e2 h1 h2 h3 st
  subst h1; subst h2; subst h3
  exact ⟨v, (T.setVm vm₁).calling g' mk (Value.ref b :: As).toArray, t, U', L, hT, X', hL, e1, e2, hq, st⟩
section
variable {y : MethodName} {bytes cc : ByteArray} {maxL nL mc ms n index : Nat} {ret : Option FieldType} {ws : List Cond} {rm : Room} {Pc : Array Value → State → Prop} {Qc : Array Value → State → Outcome → State → Prop} {XC : String → State → State → Prop} {free : Addr → Prop} {Ts : List Cond} {own C : String} {b : Addr} {As rest : List Value} {g : JFrame}
theorem vx_runVX {hh : List (Nat × Nat × Nat × Nat)} (S : CallFix p m c cc nL s args Ts own) (hM : vx_Met l y ws rm Pc Qc XC mc ms free) (cw : vx_CVW R s args own C index y bytes maxL ret hh ws rm mc ms n) (hp : PreV s H C b Pc As)
    (hg : g.method = m) (hn : As.length = n) (hsize : g.locals.size = nL) (hstack : g.stack = As.reverse ++ .ref b :: rest) (hW : 2 * g.monitorRoom + (rest.map fun v => v.category).sum ≤ 8) (hdg : decode cc g.pc = .ok (.invokevirtual index, 3)) (hf : cells + mc ≤ R.cells ∧ slots + ms ≤ R.slots) :
    vx_Run p l e R s m args below meth c H locs cells slots mc ms g rest (Qc (Value.ref b :: As).toArray) XC free := by
  obtain ⟨⟨hrc, hrs, hfr, hlo, hws, hcw⟩, hcode, hini, hy, hlen, hl, hin, hse⟩ := cw
  have hK : vx_Back l R p e below s args y 3 8 (PreOf R mc ms Pc) (PostOf Qc mc ms free) (vx_Post XC mc ms free) := vx_backW (hh := hh) (bytes := bytes) (maxL := maxL) (ret := ret) hM hp.1 hrc hrs hfr hlo hws hcw (fun a' U hW => word_at hW (Or.inl (by first | rfl | simp [Cond.onTables, Cond.keeps, Cond.steady])) hini)
  obtain ⟨hx, hb, hml, ho, -⟩ := S
  obtain ⟨-, ⟨cellB, hcB, hoB, hclB⟩, hPc⟩ := hp
  intro T hT X
  rcases vx_callVX X hx (C := C) (hh := hh) (bytes := bytes) (maxL := maxL) (ret := ret) ho hl hin hse hcode hy hK (by rw [hT]; exact hcB) hoB hclB hg (hsize.trans hml.symm) (argsL := As) (rest := rest) (fun sig h => hn.trans (hlen sig h)) hstack hW (by rw [hb]; exact hdg)
    (fun vm₁ hW₁ => ⟨hf.1, hf.2, hPc (T.setVm vm₁) hT hW₁⟩) with ⟨v, vm₁, ⟨U', l2, c2, s2⟩, hW₁, X', ⟨g', mk, t, L, e1, e2, hq, h1, hL, h2, h3⟩, st⟩ | ⟨q, vm₁, ⟨U', l2, c2, s2⟩, hW₁, X', ⟨g', mk, t, L, E, ce, e1, e2, hq, hce, hcv, hcl, h1, hL, h2, h3⟩, st⟩
  · dsimp only [Pt.U, Pt.locs, Pt.cells, Pt.slots] at X' e1 e2 h1 h2 h3 st
    subst h1; subst h2; subst h3
    exact Or.inl ⟨v, (T.setVm vm₁).calling g' mk (Value.ref b :: As).toArray, t, U', L, hT, X', hL, e1, e2, hq, st⟩
  · dsimp only [Pt.U, Pt.locs, Pt.cells, Pt.slots] at X' e1 e2 h1 h2 h3 st hcl
    subst h1; subst h2; subst h3
    exact Or.inr ⟨q, (T.setVm vm₁).calling g' mk (Value.ref b :: As).toArray, t, U', L, E, ce, hT, X', hL, e1, e2, hq, hce, hcv, vx_cls hW₁ hcl, st⟩
theorem vx_runSX {hh : List (Nat × Nat × Nat × Nat)} (S : CallFix p m c cc nL s args Ts own) (hM : vx_Met l y ws rm Pc Qc XC mc ms free) (cw : vx_CSW R s args own index y bytes maxL ret hh ws rm mc ms n) (hp : PreS s H Pc As)
    (hg : g.method = m) (hn : As.length = n) (hsize : g.locals.size = nL) (hstack : g.stack = As.reverse ++ rest) (hW : 2 * g.monitorRoom + (rest.map fun v => v.category).sum ≤ 8) (hdg : decode cc g.pc = .ok (.invokestatic index, 3)) (hf : cells + mc ≤ R.cells ∧ slots + ms ≤ R.slots) :
    vx_Run p l e R s m args below meth c H locs cells slots mc ms g rest (Qc As.toArray) XC free := by
  obtain ⟨⟨hrc, hrs, hfr, hlo, hws, hcw⟩, hcode, hini, hy, hlen, hl, hstt⟩ := cw
  have hK : vx_Back l R p e below s args y 3 8 (PreOf R mc ms Pc) (PostOf Qc mc ms free) (vx_Post XC mc ms free) := vx_backW (hh := hh) (bytes := bytes) (maxL := maxL) (ret := ret) hM hp.1 hrc hrs hfr hlo hws hcw (fun a' U hW => word_at hW (Or.inl (by first | rfl | simp [Cond.onTables, Cond.keeps, Cond.steady])) hini)
  obtain ⟨hx, hb, hml, ho, -⟩ := S
  intro T hT X
  rcases vx_callSX X hx (hh := hh) (bytes := bytes) (maxL := maxL) (ret := ret) ho hl hstt hini hcode hy hK hg (hsize.trans hml.symm) (argsL := As) (rest := rest) (fun sig h => hn.trans (hlen sig h)) hstack hW (by rw [hb]; exact hdg)
    (fun vm₁ hW₁ => ⟨hf.1, hf.2, hp.2 (T.setVm vm₁) hT hW₁⟩) with ⟨v, vm₁, ⟨U', l2, c2, s2⟩, hW₁, X', ⟨g', mk, t, L, e1, e2, hq, h1, hL, h2, h3⟩, st⟩ | ⟨q, vm₁, ⟨U', l2, c2, s2⟩, hW₁, X', ⟨g', mk, t, L, E, ce, e1, e2, hq, hce, hcv, hcl, h1, hL, h2, h3⟩, st⟩
  · dsimp only [Pt.U, Pt.locs, Pt.cells, Pt.slots] at X' e1 e2 h1 h2 h3 st
    subst h1; subst h2; subst h3
    exact Or.inl ⟨v, (T.setVm vm₁).calling g' mk As.toArray, t, U', L, hT, X', hL, e1, e2, hq, st⟩
  · dsimp only [Pt.U, Pt.locs, Pt.cells, Pt.slots] at X' e1 e2 h1 h2 h3 st hcl
    subst h1; subst h2; subst h3
    exact Or.inr ⟨q, (T.setVm vm₁).calling g' mk As.toArray, t, U', L, E, ce, hT, X', hL, e1, e2, hq, hce, hcv, vx_cls hW₁ hcl, st⟩
end
end VXH
theorem vx_ofWH {l : Launch} {y : MethodName} {ws ws' : List Cond} {rm : Room} {Pc : Array Value → State → Prop} {Qc : Array Value → State → Outcome → State → Prop} {XC : String → State → State → Prop} {mc ms : Nat} {free : Addr → Prop} {cc : ByteArray} {maxL : Nat} {ret : Option FieldType} {hh : List (Nat × Nat × Nat × Nat)}
    (hy : plainName y.cls = true) (hw : ws = Cond.codeWith y cc maxL ret hh :: ws')
    (body : ∀ p e s m args below meth c s₁, BodyLoose p l y (headSpec ws rm) cc maxL ret e s m args below meth c s₁ → c.maxLocals = maxL → Pc args s →
      W p l e (headSpec ws rm).room s m args below meth c s.heap [] 0 0 (vx_MQ below Qc XC args s mc ms free) (entryFrame m args maxL)) : vx_Met l y ws rm Pc Qc XC mc ms free := by
  refine MetFree.of_bodyS (code := cc) (maxLocals := maxL) (ret := ret) hy ?_ ?_
  · intro args s m h hn
    obtain ⟨m9, meth, c, hn9, h1, h2, h3, h4, -, h5, h6, -⟩ := Cond.codeWith_spec (atoms_spec (ws := ws) h _ (by rw [hw]; exact List.mem_cons_self))
    cases hn.symm.trans hn9
    exact ⟨meth, c, h1, h2, h3, h4, h5, h6⟩
  · intro p e s m args below meth c s₁ B hml hP _
    have hh0 : s₁.heap = s.heap := by rw [B.state]; rfl
    obtain ⟨t, a1, o, b1, b2, b3⟩ := body p e s m args below meth c s₁ B hml hP s₁ hh0 (Stand.of_body B)
    exact ⟨t, o, a1, b1, b2, b3⟩
/-! ===== END ===== -/
/-! ===== BEGIN what the machine throws by itself, no traces kept ===== -/
section VXM
set_option maxHeartbeats 1000000 in
/-- the machine throws cls with the message text, no traces kept: from its note over the frame g to 'throwing' over the same frame (follows the proofs of Stand.vmThrowsMessage, Shelf/KitTracedVmS.lean, and Stand.throwsMessageColdBareV, StandMessageColdV.lean, without the step out of the frame) -/
theorem vx_vmAt {p : Program} {l : Launch} {e : Env} {R : Room} {s : State} {m₀ : MethodId} {args : Array Value} {below : List Frame} {meth : Method} {c : Code} {W : State} {locs : List Loc} {cells slots : Nat}
    (X : Stand p l e R s m₀ args below meth c W locs cells slots) (hexec : p.tables.exec = Jvm.exec) (htr : e.platform.stackTraces = false) {cls : String} {names : List String} {text : String}
    (hcls : Bundle.fit cls = true) (hnames : ∀ n ∈ names, Bundle.fit n = true) (hsoe : (cls == "java/lang/StackOverflowError") = false) (hoom : (cls == "java/lang/OutOfMemoryError") = false)
    (h : ∀ a ∈ Bundle.messageArmAtoms cls names, a.before args s = true)
    (hlocs : ∀ x ∈ locs, ∀ cell, s.heap[x.base]? = some cell → cell.vm.isStatics = false)
    (htext : (text == notModelled) = false) (hlimit : ¬ (stringBytes (stringToUtf16 text)).size > e.platform.arrayLengthLimit) (hheap : ¬ (stringBytes (stringToUtf16 text)).size * componentBytes .byte > e.platform.maxHeapBytes)
    {g : JFrame} (hg : g.method = m₀) (hsize : g.locals.size = c.maxLocals)
    (hRframes : names.length + 4 < R.frames) (hRlocals : 2 * g.monitorRoom + (g.stack.map fun v => v.category).sum + 10240 ≤ R.locals) (hshort : 13 * names.length + 55 ≤ 10240)
    (hRcells : cells + 3 ≤ R.cells) (hRslots : slots + ((stringBytes (stringToUtf16 text)).size + 4 + 6) ≤ R.slots) (hlocks : meth.locks = false) :
    ∃ (S : State) (q : Addr) (ce : Cell), (∀ target, Steps p.tables e below ((S.setTop g).pushFrame (.throwing q)) target → Steps p.tables e below ((W.setTop g).pushFrame (.throwNew cls (some text) none)) target) ∧
      Stand p l e R s m₀ args below meth c S locs (cells + 3) (slots + ((stringBytes (stringToUtf16 text)).size + 4 + 6)) ∧ S.heap[q]? = some ce ∧ s.vm.findClass cls = some ce.cls ∧ ce.vm = .none := by
  have howns : e.platform.frameOwnsMonitors = true := by rw [X.admits.platform]
  have hfin : e.platform.finalization = false := by rw [X.admits.platform]
  have hpl : e.platform.magicAccessors = ({} : Platform).magicAccessors := by rw [X.admits.platform]
  have a : ∀ x, x ∈ Bundle.messageArmAtoms cls names → x.holds args s none s [] = true := fun x hx => h x hx
  obtain ⟨T, Z0, L, -, Y⟩ := ThrowableC.of_atoms (args := args) howns hfin hpl (fun x hx => h x (by simp [Bundle.messageArmAtoms, hx]))
  obtain ⟨Z, M, LZ, LM, hnZ⟩ := Init0T.ofS_atoms (args := args) hpl L Y (fun x hx => h x (by simp [Bundle.messageArmAtoms, hx]))
  obtain ⟨P1, Ps, hlen, L1, hL, hP1m, hlink1, hlink⟩ := Bundle.chainS (args := args) hpl hnZ names cls hcls hnames (fun x hx => h x (by simp [Bundle.messageArmAtoms, hx]))
  obtain ⟨Zs, LZs, hn4, hfitv, hfitc⟩ := StringT.of_atoms (args := args) (fun x hx => h x (by simp [Bundle.messageArmAtoms, hx]))
  have hfound : s.vm.findClass cls = some P1.m.cls := findClass_of_methodNamed hP1m
  obtain ⟨c1, kX, hc1, hk, hord, -, -, hn6⟩ := Cond.instantiable_spec (a (.instantiable cls 6) (by simp [Bundle.messageArmAtoms]))
  cases Option.some.inj (hc1.symm.trans hfound)
  have hinit := Cond.initialized_spec hfound hk (a (.initialized cls) (by simp [Bundle.messageArmAtoms]))
  have hctor : kX.findMethod "<init>" "(Ljava/lang/String;)V" = some P1.m.idx := findMethod_of_methodNamed hP1m hk
  have hsel0 : selectMethod e.platform s.vm P1.m.cls T.fill0 = .method T.fill0 := by
    obtain ⟨c2, r2, m2, q1, q2, q3, q4, -⟩ := Cond.selects_spec (a (.selects cls Bundle.tFill0 Bundle.tFill0) (by simp [Bundle.messageArmAtoms]))
    cases Option.some.inj (q1.symm.trans hfound)
    cases Option.some.inj (q2.symm.trans (State.methodFound?_of_named Y.fill0 (by decide)))
    cases Option.some.inj (q3.symm.trans Y.fill0)
    rw [Launch.admits_selectMethod X.admits]; exact q4
  have hselF : selectMethod e.platform s.vm P1.m.cls T.fill = .method T.fill := by
    obtain ⟨c2, r2, m2, q1, q2, q3, q4, -⟩ := Cond.selects_spec (a (.selects cls Bundle.tFill Bundle.tFill) (by simp [Bundle.messageArmAtoms]))
    cases Option.some.inj (q1.symm.trans hfound)
    cases Option.some.inj (q2.symm.trans (State.methodFound?_of_named Y.fill (by decide)))
    cases Option.some.inj (q3.symm.trans Y.fill)
    rw [Launch.admits_selectMethod X.admits]; exact q4
  obtain ⟨cellS0, hcS0, hiss⟩ := Y.statics
  obtain ⟨u0, hu0⟩ := Cond.staticRefV Y.unassigned L.unassignedStatic L.statics hcS0 hiss (a (.isRef (.static Bundle.tN "UNASSIGNED_STACK" Bundle.steD)) (by simp [Bundle.messageArmAtoms]))
  obtain ⟨sen, hsen⟩ := Cond.staticRefV Y.sentinel L.sentinelStatic L.statics hcS0 hiss (a (.isRef (.static Bundle.tN "SUPPRESSED_SENTINEL" Bundle.listD)) (by simp [Bundle.messageArmAtoms]))
  obtain ⟨ci198, i198, fB, hk198, hg198, ha198, hsB, -, hnB, htB, hffB⟩ := Cond.ownField (t := .object "java/lang/Object") Y.found L.cls (by decide +kernel) (a (.fieldLink Bundle.tN 198 Bundle.tN "backtrace" "Ljava/lang/Object;") (by simp [Bundle.messageArmAtoms])) (a (.lays Bundle.tN Bundle.tN "backtrace" "Ljava/lang/Object;") (by simp [Bundle.messageArmAtoms])) e.platform hpl
  obtain ⟨cellS, hcS', heS, -, hkeep⟩ := X.same.2.2.2.2.2 T.aS cellS0 hcS0
  have hcellS : W.heap[T.aS]? = some cellS := hcS'
  have hout' : ∀ i, (⟨T.aS, i⟩ : Loc) ∉ locs := fun i hmem => by
    have := hlocs _ hmem cellS0 hcS0
    rw [hiss] at this; cases this
  have hknownS : cellS.vm ≠ .unknown := by
    rw [heS]; intro hu
    rw [show cellS0.vm = .unknown from hu] at hiss
    cases hiss
  have hvU : cellS.slots[T.fUnassigned.slot]? = some u0.v := by rw [hkeep _ (hout' _)]; exact hu0
  have hvSen : cellS.slots[T.fSentinel.slot]? = some sen.v := by rw [hkeep _ (hout' _)]; exact hsen
  obtain ⟨iM, hffM⟩ := Y.msg
  obtain ⟨tyC, dC, hdC, hdnC⟩ := Cond.laysAt hfound hk Y.cause (a (.lays cls Bundle.tN "cause" "Ljava/lang/Throwable;") (by simp [Bundle.messageArmAtoms]))
  obtain ⟨tyS, dS, hdS, hdnS⟩ := Cond.laysAt hfound hk Y.stack (a (.lays cls Bundle.tN "stackTrace" Bundle.steD) (by simp [Bundle.messageArmAtoms]))
  obtain ⟨tyP, dP, hdP, hdnP⟩ := Cond.laysAt hfound hk Y.supp (a (.lays cls Bundle.tN "suppressedExceptions" Bundle.listD) (by simp [Bundle.messageArmAtoms]))
  obtain ⟨tyM, dM, hdM, hdnM⟩ := Cond.laysAt hfound hk hffM (a (.lays cls Bundle.tN "detailMessage" "Ljava/lang/String;") (by simp [Bundle.messageArmAtoms]))
  obtain ⟨tyB, dB, hdB, hdnB⟩ := Cond.laysAt hfound hk hffB (a (.lays cls Bundle.tN "backtrace" "Ljava/lang/Object;") (by simp [Bundle.messageArmAtoms]))
  have bC := Cond.laysApart hdB hdC hdnB hdnC (by rw [hnB, Y.causeName]; decide)
  have bS := Cond.laysApart hdB hdS hdnB hdnS (by rw [hnB, Y.stackName]; decide)
  have bP := Cond.laysApart hdB hdP hdnB hdnP (by rw [hnB, Y.suppName]; decide)
  have hbk : ((preparedCellV T.toThrowableT (freshCell P1.m.cls kX) (W.heap.size + 2) u0 sen).withEntry W.cur).slots[fB.slot]? = some .null := by
    have := fresh_default (c := P1.m.cls) tyB
    rw [htB] at this
    simpa [preparedCellV, Cell.setSlot, Cell.withEntry, Array.getElem?_setIfInBounds, bC, bS, bP, bC.symm, bS.symm, bP.symm, defaultValue] using this
  have tkC := Takes.of_laid (v := .ref (W.heap.size + 2)) hk hord tyC (by rw [Y.causeType]; rfl)
  have tkS := Takes.of_laid (v := u0.v) hk hord tyS (by rw [Y.stackType]; exact fits_refV_array _ u0)
  have tkP := Takes.of_laid (v := sen.v) hk hord tyP (by rw [Y.suppType]; exact fits_refV_object _ sen)
  have tkM := Takes.of_laid (v := .ref (W.heap.size + 1)) hk hord tyM (by rw [Y.msgType]; rfl)
  have hskip : SkipFacts T e.platform s (fun u => u) u0 ((preparedCellV T.toThrowableT (freshCell P1.m.cls kX) (W.heap.size + 2) u0 sen).withEntry W.cur) := ⟨{ ci198 := ci198, i198 := i198, fBack := fB }, ⟨hk198, hg198, ha198, hsB⟩, hbk, fun _ _ => rfl⟩
  have h0 : At W g.method c below := by rw [hg]; exact X.here
  obtain ⟨hbeyond, hfreeW⟩ := X.vmMayThrow hsize (.throwNew cls (some text) none) (fun f hf => by cases hf) rfl hRlocals
  have hfr' : W.frames.length + Ps.length + 4 < (e.platform.stackLimits W.me).1 := by have := X.framesAbove hRframes; omega
  have hwd' : (stackUse (.java g :: W.frames.tail)).2 + 13 * Ps.length + 55 ≤ (e.platform.stackLimits W.me).2 := by have := X.stackAbove hsize (K := 13 * Ps.length + 55) (by omega); omega
  have hslots : W.slotsUsed + (stringBytes (stringToUtf16 text)).size + Zs.kS.instanceTypes.size + kX.instanceTypes.size ≤ e.platform.maxSlots := by
    have := X.slotsAbove hRslots
    rw [hn4, hn6]
    omega
  obtain ⟨vm', hW', st⟩ := Steps.vmThrowsMessageColdByV p (s₀ := s) (S := W) (g := g) h0 hexec T L Z LZ M LM X.warmed (t := W.cur) rfl Zs LZs P1 L1 Ps hL hlink1 hlink hsoe hoom hfound hk hinit hord hctor
    (Launch.admits_hotImplicitExceptions X.admits) hbeyond hfreeW htext hlimit hheap (X.cellsAbove hRcells) hslots (hfitv _) (hfitc _)
    (Nn := fun u => u) heapOnly_id (fun _ _ => rfl) (fun _ => rfl) (fun u x y => setCell_twice _ _ _ _) (fun _ => Nat.le_refl _) (cN := ((preparedCellV T.toThrowableT (freshCell P1.m.cls kX) (W.heap.size + 2) u0 sen).withEntry W.cur))
    hsel0 hcellS hknownS hvU tkS (fun _ hu => hu) (fun _ hu => hu) rfl rfl rfl (by simp [preparedCellV, Cell.setSlot, Cell.withEntry]) hskip (fun _ _ hA hW _ hroom _ hrest => L.nativeOff p htr hA hW hroom hrest) hselF hvSen tkC tkP tkM Y.objLocals rfl hfr' hwd'
  rw [plainBareV_eq T.toThrowableT (W.heap.size + 2) u0 sen (.ref (W.heap.size + 1)) W.cur rfl rfl] at st
  obtain ⟨-, -, w3, w4, -, -, -⟩ := withThrown_facts e.platform W Zs text P1.m.cls kX
  have X3 := ((X.pushed (bytesOf Zs.cB (stringToUtf16 text))).pushed (stringAt Zs.cS Zs.kS Zs.fv Zs.fc (stringToUtf16 text) W.heap.size)).pushed (freshCell P1.m.cls kX)
  rw [← withString_eq] at X3
  have X4 := X3.noted hW'
  have ha : (W.heap.size + 2) < ((withThrown W Zs text P1.m.cls kX).setVm vm').heap.size := by show _ < (withThrown W Zs text P1.m.cls kX).heap.size; rw [w3]; omega
  have hcell : ((withThrown W Zs text P1.m.cls kX).setVm vm').heap[(W.heap.size + 2)]? = some (freshCell P1.m.cls kX) := w4
  have X5 := ((((X4.stored hcell T.fCause.slot (.ref (W.heap.size + 2))).storedAgain ha T.fStack.slot u0.v).storedAgain ha T.fSupp.slot sen.v).storedAgain ha T.fStack.slot u0.v).storedAgain ha T.fMsg.slot (.ref (W.heap.size + 1))
  obtain ⟨g₁, hfrM⟩ := X5.frames_eq
  have hU : ((((withThrown W Zs text P1.m.cls kX).setVm vm').setCell (W.heap.size + 2) (plainBareV T.toThrowableT (freshCell P1.m.cls kX) (W.heap.size + 2) u0 sen (.ref (W.heap.size + 1)))).setTop g).pushFrame (.throwing (W.heap.size + 2)) = (((withThrown W Zs text P1.m.cls kX).setVm vm').setCell (W.heap.size + 2) (plainBareV T.toThrowableT (freshCell P1.m.cls kX) (W.heap.size + 2) u0 sen (.ref (W.heap.size + 1)))).setFrames (.throwing (W.heap.size + 2) :: .java g :: below) := by
    rw [State.pushFrame, State.frames_setTop _ hfrM, State.setTop_of_frames _ hfrM, State.setFrames_setFrames]
  have b1 : (bytesOf Zs.cB (stringToUtf16 text)).slots.size = (stringBytes (stringToUtf16 text)).size := by
    rw [(Cell.writeAll_facts _ _).2.2]; simp [bytes0]
  have b2 : (stringAt Zs.cS Zs.kS Zs.fv Zs.fc (stringToUtf16 text) W.heap.size).slots.size = 4 := by simp [string0, Cell.setSlot, hn4]
  have b3 : (freshCell P1.m.cls kX).slots.size = 6 := by simp [hn6]
  rw [b1, b2, b3] at X5
  have e9 : slots + (stringBytes (stringToUtf16 text)).size + 4 + 6 = slots + ((stringBytes (stringToUtf16 text)).size + 4 + 6) := by omega
  rw [e9] at X5
  simp only [List.append_assoc, List.cons_append, List.nil_append] at X5
  refine ⟨((withThrown W Zs text P1.m.cls kX).setVm vm').setCell (W.heap.size + 2) (plainBareV T.toThrowableT (freshCell P1.m.cls kX) (W.heap.size + 2) u0 sen (.ref (W.heap.size + 1))), W.heap.size + 2, _, fun target ht => st _ (by rw [X.tail, ← hU]; exact ht),
    X5.forget (fun y hy => ?_), heapAt_setCell_self _ ha, hfound, rfl⟩
  simp only [List.mem_cons, List.not_mem_nil, or_false] at hy
  have hge : s.heap.size ≤ W.heap.size := X.same.2.1
  rcases hy with rfl | rfl | rfl | rfl | rfl <;> exact Nat.le_trans hge (Nat.le_add_right _ 2)
set_option maxHeartbeats 1000000 in
/-- the machine throws NullPointerException, no traces kept: from its note over the frame g to 'throwing' over the same frame (follows the proof of Stand.vmThrowsNpe, Shelf42/KT2.lean; throwsNpeColdBareVAt, Shelf42/NT91.lean, called) -/
theorem vx_npeAt {p : Program} {l : Launch} {e : Env} {R : Room} {s : State} {m₀ : MethodId} {args : Array Value} {below : List Frame} {meth : Method} {c : Code} {W : State} {locs : List Loc} {cells slots : Nat}
    (X : Stand p l e R s m₀ args below meth c W locs cells slots) (hexec : p.tables.exec = Jvm.exec) (htr : e.platform.stackTraces = false) {n : Nat}
    (h : ∀ a ∈ Bundle.npeArmAtoms n, a.before args s = true)
    (hlocs : ∀ x ∈ locs, ∀ cell, s.heap[x.base]? = some cell → cell.vm.isStatics = false)
    {g : JFrame} (hg : g.method = m₀) (hsize : g.locals.size = c.maxLocals)
    (hRframes : 7 < R.frames) (hRlocals : 2 * g.monitorRoom + (g.stack.map fun v => v.category).sum + 10240 ≤ R.locals)
    (hRcells : cells + 1 ≤ R.cells) (hRslots : slots + n ≤ R.slots) (hlocks : meth.locks = false) :
    ∃ (S : State) (q : Addr) (ce : Cell), (∀ target, Steps p.tables e below ((S.setTop g).pushFrame (.throwing q)) target → Steps p.tables e below ((W.setTop g).pushFrame (.throwNew "java/lang/NullPointerException" none none)) target) ∧
      Stand p l e R s m₀ args below meth c S locs (cells + 1) (slots + n) ∧ S.heap[q]? = some ce ∧ s.vm.findClass "java/lang/NullPointerException" = some ce.cls ∧ ce.vm = .none := by
  have howns : e.platform.frameOwnsMonitors = true := by rw [X.admits.platform]
  have hfin : e.platform.finalization = false := by rw [X.admits.platform]
  have hpl : e.platform.magicAccessors = ({} : Platform).magicAccessors := by rw [X.admits.platform]
  have hpl2 : e.platform.arrayCloneIsPublic = true := by rw [X.admits.platform]
  have a' : ∀ x, x ∈ Bundle.npeArmAtoms n → x.holds args s none s [] = true := fun x hx => h x hx
  obtain ⟨T, Z, L, LZ, Y⟩ := ThrowableC.of_atoms (args := args) howns hfin hpl (fun x hx => h x (by simp [Bundle.npeArmAtoms, hx]))
  obtain ⟨N, LN, hcN, hnNF, hordN, hffS⟩ := NpeC.of_atoms (args := args) hpl hpl2 L Y (fun x hx => h x (by simp [Bundle.npeArmAtoms, hx]))
  obtain ⟨P1, L1, hP1m, hP1s⟩ := PassC.of_atoms (args := args) (s := s) hpl (X := Bundle.nN) (Y := Bundle.rN) (by decide) (by decide) LibCode.NullPointerException.Init0.at_0 LibCode.NullPointerException.Init0.at_1 LibCode.NullPointerException.Init0.at_4 (fun x hx => h x (by simp [Bundle.npeArmAtoms, hx]))
  obtain ⟨PR, LR, hPRm, hPRs⟩ := PassC.of_atoms (args := args) (s := s) hpl (X := Bundle.rN) (Y := Bundle.eN) (by decide) (by decide) LibCode.RuntimeException.Init0.at_0 LibCode.RuntimeException.Init0.at_1 LibCode.RuntimeException.Init0.at_4 (fun x hx => h x (by simp [Bundle.npeArmAtoms, hx]))
  obtain ⟨PE, LEx, hPEm, hPEs⟩ := PassC.of_atoms (args := args) (s := s) hpl (X := Bundle.eN) (Y := Bundle.tN) (by decide) (by decide) LibCode.Exception.Init0.at_0 LibCode.Exception.Init0.at_1 LibCode.Exception.Init0.at_4 (fun x hx => h x (by simp [Bundle.npeArmAtoms, hx]))
  have hfound : s.vm.findClass Bundle.nN = some P1.m.cls := findClass_of_methodNamed hP1m
  have ecls : N.cN = P1.m.cls := Option.some.inj (hcN.symm.trans hfound)
  have hk : s.vm.classes[P1.m.cls]? = some N.kN := by rw [← ecls]; exact LN.cls
  have hinit := Cond.initialized_spec hfound hk (a' (.initialized Bundle.nN) (by simp [Bundle.npeArmAtoms]))
  have hctor : N.kN.findMethod "<init>" "()V" = some P1.m.idx := findMethod_of_methodNamed hP1m hk
  obtain ⟨c1, k1, hc1, hk1, -, -, -, hn⟩ := Cond.instantiable_spec (a' (.instantiable Bundle.nN n) (by simp [Bundle.npeArmAtoms]))
  cases Option.some.inj (hc1.symm.trans hfound)
  cases Option.some.inj (hk1.symm.trans hk)
  have hfsz : (freshCell P1.m.cls N.kN).slots.size = n := by simp [hn]
  have hlink1 : P1.sup = PR.m := Option.some.inj (hP1s.symm.trans hPRm)
  have hlinkR : PR.sup = PE.m := Option.some.inj (hPRs.symm.trans hPEm)
  have hlinkE : PE.sup = Z.m T.toThrowableT := Option.some.inj (hPEs.symm.trans Y.init0)
  have hLs : ∀ P, P ∈ [PR, PE] → P.Links0 e.platform s := fun P hP => by
    simp only [List.mem_cons, List.not_mem_nil, or_false] at hP
    rcases hP with rfl | rfl
    · exact LR
    · exact LEx
  have hsel0 : selectMethod e.platform s.vm P1.m.cls T.fill0 = .method T.fill0 := by
    obtain ⟨c2, r2, m2, q1, q2, q3, q4, -⟩ := Cond.selects_spec (a' (.selects Bundle.nN Bundle.tFill0 Bundle.tFill0) (by simp [Bundle.npeArmAtoms]))
    cases Option.some.inj (q1.symm.trans hfound)
    cases Option.some.inj (q2.symm.trans (State.methodFound?_of_named Y.fill0 (by decide)))
    cases Option.some.inj (q3.symm.trans Y.fill0)
    rw [Launch.admits_selectMethod X.admits]; exact q4
  have hselF : selectMethod e.platform s.vm P1.m.cls T.fill = .method N.fill := by
    obtain ⟨c2, r2, m2, q1, q2, q3, q4, -⟩ := Cond.selects_spec (a' (.selects Bundle.nN Bundle.tFill Bundle.nFill) (by simp [Bundle.npeArmAtoms]))
    cases Option.some.inj (q1.symm.trans hfound)
    cases Option.some.inj (q2.symm.trans (State.methodFound?_of_named Y.fill (by decide)))
    cases Option.some.inj (q3.symm.trans hnNF)
    rw [Launch.admits_selectMethod X.admits]; exact q4
  obtain ⟨cellS0, hcS0, hiss⟩ := Y.statics
  obtain ⟨u0, hu0⟩ := Cond.staticRefV Y.unassigned L.unassignedStatic L.statics hcS0 hiss (a' (.isRef (.static Bundle.tN "UNASSIGNED_STACK" Bundle.steD)) (by simp [Bundle.npeArmAtoms]))
  obtain ⟨sen, hsen⟩ := Cond.staticRefV Y.sentinel L.sentinelStatic L.statics hcS0 hiss (a' (.isRef (.static Bundle.tN "SUPPRESSED_SENTINEL" Bundle.listD)) (by simp [Bundle.npeArmAtoms]))
  obtain ⟨ci198, i198, fB, hk198, hg198, ha198, hsB, -, hnB, htB, hffB⟩ := Cond.ownField (t := .object "java/lang/Object") Y.found L.cls (by decide +kernel) (a' (.fieldLink Bundle.tN 198 Bundle.tN "backtrace" Bundle.objD) (by simp [Bundle.npeArmAtoms])) (a' (.lays Bundle.tN Bundle.tN "backtrace" Bundle.objD) (by simp [Bundle.npeArmAtoms])) e.platform hpl
  obtain ⟨cellS, hcS', heS, -, hkeep⟩ := X.same.2.2.2.2.2 T.aS cellS0 hcS0
  have hcellS : W.heap[T.aS]? = some cellS := hcS'
  have hout' : ∀ i, (⟨T.aS, i⟩ : Loc) ∉ locs := fun i hmem => by
    have := hlocs _ hmem cellS0 hcS0
    rw [hiss] at this; cases this
  have hknownS : cellS.vm ≠ .unknown := by
    rw [heS]; intro hu
    rw [show cellS0.vm = .unknown from hu] at hiss
    cases hiss
  have hvU : cellS.slots[T.fUnassigned.slot]? = some u0.v := by rw [hkeep _ (hout' _)]; exact hu0
  have hvSen : cellS.slots[T.fSentinel.slot]? = some sen.v := by rw [hkeep _ (hout' _)]; exact hsen
  obtain ⟨tyC, dC, hdC, hdnC⟩ := Cond.laysAt hfound hk Y.cause (a' (.lays Bundle.nN Bundle.tN "cause" "Ljava/lang/Throwable;") (by simp [Bundle.npeArmAtoms]))
  obtain ⟨tyS, dS, hdS, hdnS⟩ := Cond.laysAt hfound hk Y.stack (a' (.lays Bundle.nN Bundle.tN "stackTrace" Bundle.steD) (by simp [Bundle.npeArmAtoms]))
  obtain ⟨tyP, dP, hdP, hdnP⟩ := Cond.laysAt hfound hk Y.supp (a' (.lays Bundle.nN Bundle.tN "suppressedExceptions" Bundle.listD) (by simp [Bundle.npeArmAtoms]))
  obtain ⟨tyX, dX, hdX, hdnX⟩ := Cond.laysAt hfound hk hffS (a' (.lays Bundle.nN Bundle.nN "extendedMessageState" "I") (by simp [Bundle.npeArmAtoms, Bundle.npeAtoms]))
  obtain ⟨hnX, htX⟩ := State.fieldFound?_type hffS (t := .int) (by decide +kernel)
  have xC := Cond.laysApart hdC hdX hdnC hdnX (by rw [hnX, Y.causeName]; decide)
  have xS := Cond.laysApart hdS hdX hdnS hdnX (by rw [hnX, Y.stackName]; decide)
  have xP := Cond.laysApart hdP hdX hdnP hdnX (by rw [hnX, Y.suppName]; decide)
  have hv0 : (freshCell P1.m.cls N.kN).slots[N.fState.slot]? = some (.int 0) := by
    have := fresh_default (c := P1.m.cls) tyX
    rw [htX] at this; exact this
  obtain ⟨tyB, dB, hdB, hdnB⟩ := Cond.laysAt hfound hk hffB (a' (.lays Bundle.nN Bundle.tN "backtrace" Bundle.objD) (by simp [Bundle.npeArmAtoms]))
  have bC := Cond.laysApart hdB hdC hdnB hdnC (by rw [hnB, Y.causeName]; decide)
  have bS := Cond.laysApart hdB hdS hdnB hdnS (by rw [hnB, Y.stackName]; decide)
  have bP := Cond.laysApart hdB hdP hdnB hdnP (by rw [hnB, Y.suppName]; decide)
  have bX := Cond.laysApart hdB hdX hdnB hdnX (by rw [hnB, hnX]; decide)
  have hbk : ((npeCell N.toNpeT (preparedCellV T.toThrowableT (freshCell P1.m.cls N.kN) W.heap.size u0 sen) W.cur).withEntry W.cur).slots[fB.slot]? = some .null := by
    have := fresh_default (c := P1.m.cls) tyB
    rw [htB] at this
    simpa [npeCell, preparedCellV, Cell.setSlot, Cell.withEntry, Array.getElem?_setIfInBounds, bC, bS, bP, bX, bC.symm, bS.symm, bP.symm, bX.symm, defaultValue] using this
  have tkC := Takes.of_laid (v := .ref W.heap.size) hk hordN tyC (by rw [Y.causeType]; rfl)
  have tkS := Takes.of_laid (v := u0.v) hk hordN tyS (by rw [Y.stackType]; exact fits_refV_array _ u0)
  have tkP := Takes.of_laid (v := sen.v) hk hordN tyP (by rw [Y.suppType]; exact fits_refV_object _ sen)
  have tkX := Takes.of_laid (v := .int 1) hk hordN tyX (by rw [htX]; rfl)
  have hskip : SkipFacts T e.platform s (fun u => u) u0 ((npeCell N.toNpeT (preparedCellV T.toThrowableT (freshCell P1.m.cls N.kN) W.heap.size u0 sen) W.cur).withEntry W.cur) := ⟨{ ci198 := ci198, i198 := i198, fBack := fB }, ⟨hk198, hg198, ha198, hsB⟩, hbk, fun _ _ => rfl⟩
  obtain ⟨vm', X3, st, -⟩ := X.throwsNpeColdBareVAt hexec hg hsize T L Z LZ N LN P1 L1 [PR, PE] hLs hlink1 ⟨hlinkR, hlinkE, trivial⟩ hfound hk hinit hordN hctor hsel0 hselF hcellS hknownS hvU hvSen
    hv0 xC xS xP tkC tkS tkP tkX Y.objLocals hskip (fun _ _ hA hW _ hroom _ hrest => L.nativeOff p htr hA hW hroom hrest) (by simpa using hRframes) hRlocals (by simp) hRcells (by rw [hn]; exact hRslots)
  have hlt : W.heap.size < ((W.pushCell (freshCell P1.m.cls N.kN)).setVm vm').heap.size := by
    show W.heap.size < (W.pushCell (freshCell P1.m.cls N.kN)).heap.size
    rw [State.heap_size_pushCell]; omega
  rw [hfsz] at X3
  obtain ⟨g₁, hfrM⟩ := X3.frames_eq
  have hU : ((((W.pushCell (freshCell P1.m.cls N.kN)).setVm vm').setCell W.heap.size (npeBareV T.toThrowableT N.toNpeT (freshCell P1.m.cls N.kN) W.heap.size u0 sen)).setTop g).pushFrame (.throwing W.heap.size) = (((W.pushCell (freshCell P1.m.cls N.kN)).setVm vm').setCell W.heap.size (npeBareV T.toThrowableT N.toNpeT (freshCell P1.m.cls N.kN) W.heap.size u0 sen)).setFrames (.throwing W.heap.size :: .java g :: below) := by
    rw [State.pushFrame, State.frames_setTop _ hfrM, State.setTop_of_frames _ hfrM, State.setFrames_setFrames]
  refine ⟨_, W.heap.size, _, fun target ht => st.trans (by rw [← hU]; exact ht), X3.forget (fun y hy => ?_), heapAt_setCell_self _ hlt, hfound, rfl⟩
  simp only [List.mem_cons, List.not_mem_nil, or_false] at hy
  have hge : s.heap.size ≤ W.heap.size := X.same.2.1
  rcases hy with rfl | rfl | rfl | rfl | rfl <;> exact hge
/-- the words of a machine's NullPointerException, but the four that speak of the heap -/
def vx_atN (n : Nat) : List Cond := (Bundle.npeArmAtoms n).filter vx_no
/-- the words of a machine's throw with a message, but the four that speak of the heap -/
def vx_atM (X : String) (names : List String) : List Cond := (Bundle.messageArmAtoms X names).filter vx_no
section
variable {p : Program} {l : Launch} {e : Env} {R : Room} {s : State} {m : MethodId} {args : Array Value} {below : List Frame} {meth : Method} {c : Code} {H : Heap} {locs : List Loc} {cells slots : Nat}
/-- a frame seen from a rebased start, seen from the first start again -/
theorem vx_back9 {T S : State} {R' : Room} {k n : Nat} (X : Stand p l e R s m args below meth c T locs cells slots) (Y : Stand p l e R' ((T.setVm s.vm).setFrames (.invoking m args :: below)) m args below meth c T [] 0 0) (Z : Stand p l e R' ((T.setVm s.vm).setFrames (.invoking m args :: below)) m args below meth c S [] k n) :
    Stand p l e R s m args below meth c S locs (cells + k) (slots + n) := by
  have hW0 : s.WarmedH ((T.setVm s.vm).setFrames (.invoking m args :: below)).vm := State.WarmedH.refl s
  refine { admits := X.admits, cas := X.cas, clock := X.clock, frames := X.frames, room := X.room, hears := X.hears, method := X.method, code := X.code, here := Z.here, tail := Z.tail, warmed := State.WarmedH.trans hW0 Z.warmed, limits := Z.limits.trans (Y.limits.symm.trans X.limits), bytes := Z.bytes.trans (Y.bytes.symm.trans X.bytes), same := ?_ }
  obtain ⟨e1, e2⟩ := Z.same
  rw [State.setFrames_setFrames] at e1
  have h2 : (T.setVm s.vm).sameButNew (S.setVm s.vm) [] k n := ⟨e1, e2⟩
  have h3 := X.same.trans h2
  rw [List.append_nil] at h3
  exact h3
/-- from the machine's note that E is thrown here with this text -/
def vx_Note (p : Program) (l : Launch) (e : Env) (R : Room) (s : State) (m : MethodId) (args : Array Value) (below : List Frame) (meth : Method) (c : Code) (H : Heap) (locs : List Loc) (cells slots : Nat) (Q : State → Prop) (g : JFrame) (E text : String) : Prop :=
  ∀ T : State, T.heap = H → Stand p l e R s m args below meth c T locs cells slots → ∃ t, Steps p.tables e below ((T.setTop g).pushFrame (.throwNew E (some text) none)) t ∧ Q t
theorem vx_vm {pc : Nat} {ls : Array Slot} {rest : List Value} {Q : State → Prop} (hexec : p.tables.exec = Jvm.exec) (hl : l.stackTraces = false) {cls text : String} {names : List String} {nb : Nat} {A : Nat → Prop}
    (hcls : Bundle.fit cls = true) (hnames : ∀ n ∈ names, Bundle.fit n = true) (hsoe : (cls == "java/lang/StackOverflowError") = false) (hoom : (cls == "java/lang/OutOfMemoryError") = false)
    (hat : ∀ w ∈ vx_atM cls names, w.before args s = true) (hgood : ∀ w ∈ vx_atM cls names, vx_ot w = true)
    (hU : vx_Zq Bundle.tN "UNASSIGNED_STACK" Bundle.steD A s s.heap) (hN : vx_Zq Bundle.tN "SUPPRESSED_SENTINEL" Bundle.listD A s s.heap) (hS : va_S A s.heap H locs) (hsize : ls.size = c.maxLocals)
    (htext : (text == notModelled) = false) (hnb : (stringBytes (stringToUtf16 text)).size ≤ nb) (hnb1 : nb ≤ 1000)
    (hRframes : names.length + 4 < R.frames) (hRlocals : (rest.map fun v => v.category).sum + 10240 ≤ R.locals) (hshort : 13 * names.length + 55 ≤ 10240) (hRcells : cells + 3 ≤ R.cells) (hRslots : slots + (nb + 10) ≤ R.slots) (hlocks : meth.locks = false)
    (k : ∀ (H1 : Heap) (q9 : Addr) (ce : Cell), H.size ≤ H1.size → (∀ q : Nat, q < H.size → H1[q]? = H[q]?) → va_S A s.heap H1 locs → H1[q9]? = some ce → ce.vm = .none → s.vm.findClass cls = some ce.cls → vx_W p l e R s m args below meth c H1 locs (cells + 3) (slots + (nb + 10)) Q (F0 m pc ls rest) q9) :
    vx_Note p l e R s m args below meth c H locs cells slots Q (F0 m pc ls rest) cls text := by
  intro T hT X
  have htr : e.platform.stackTraces = false := (show e.platform.stackTraces = l.stackTraces by rw [X.admits.platform]).trans hl
  have Y := vx_rebase X (R' := { frames := R.frames, locals := R.locals, cells := 3, slots := nb + 10 }) (Nat.le_refl _) (Nat.le_refl _) hRcells hRslots
  have hhp : ((T.setVm s.vm).setFrames (.invoking m args :: below)).heap = H := hT
  have hW0 : s.WarmedH ((T.setVm s.vm).setFrames (.invoking m args :: below)).vm := State.WarmedH.refl s
  have hat' : ∀ w ∈ vx_atM cls names, w.before args ((T.setVm s.vm).setFrames (.invoking m args :: below)) = true := fun w hw => vx_ot_at hW0 rfl (hgood w hw) (hat w hw)
  have hU' : vx_Zq Bundle.tN "UNASSIGNED_STACK" Bundle.steD A ((T.setVm s.vm).setFrames (.invoking m args :: below)) ((T.setVm s.vm).setFrames (.invoking m args :: below)).heap := by rw [hhp]; exact vx_Zq.moved hW0.alike (hU.kept hS.2.1)
  have hN' : vx_Zq Bundle.tN "SUPPRESSED_SENTINEL" Bundle.listD A ((T.setVm s.vm).setFrames (.invoking m args :: below)) ((T.setVm s.vm).setFrames (.invoking m args :: below)).heap := by rw [hhp]; exact vx_Zq.moved hW0.alike (hN.kept hS.2.1)
  obtain ⟨S, q, ce, st, Z, hce, hcl', hv⟩ := vx_vmAt Y hexec htr (cls := cls) (names := names) (text := text) hcls hnames hsoe hoom (vx_own hat' (vx_isRefq hU'.1) (vx_isRefq hN'.1) hU'.2.word hN'.2.word) (fun x hx => nomatch hx) htext
    (by rw [Launch.admits_arrayLengthLimit X.admits]; omega) (by rw [Launch.admits_maxHeapBytes X.admits]; simp only [componentBytes]; omega)
    (g := F0 m pc ls rest) rfl hsize hRframes (by show 2 * 0 + (rest.map fun v => v.category).sum + 10240 ≤ R.locals; omega) hshort (by show 0 + 3 ≤ 3; omega) (by show 0 + (_ + 4 + 6) ≤ nb + 10; omega) hlocks
  obtain ⟨f1, f2⟩ := vx_frame Z.same
  have f1' : H.size ≤ S.heap.size := by rw [← hT]; exact f1
  have f2' : ∀ q : Nat, q < H.size → S.heap[q]? = H[q]? := fun q hq => by
    rw [← hT]
    exact f2 q (by rw [← hT] at hq; exact hq) (fun z hz => nomatch hz)
  have X5 := vx_back9 X Y Z
  have X6 : Stand p l e R s m args below meth c S locs (cells + 3) (slots + (nb + 10)) := { X5 with same := X5.same.mono (by omega) (by omega) }
  obtain ⟨t, a1, b1⟩ := k S.heap q ce f1' f2' ⟨Nat.le_trans hS.1 f1', fun q h1 h2 => (f2' q (Nat.lt_of_lt_of_le h1 hS.1)).trans (hS.2.1 q h1 h2), hS.2.2⟩ hce hv hcl' S rfl X6
  exact ⟨t, st t a1, b1⟩
/-- from the machine's note that NullPointerException is thrown here -/
def vx_NoteN (p : Program) (l : Launch) (e : Env) (R : Room) (s : State) (m : MethodId) (args : Array Value) (below : List Frame) (meth : Method) (c : Code) (H : Heap) (locs : List Loc) (cells slots : Nat) (Q : State → Prop) (g : JFrame) : Prop :=
  ∀ T : State, T.heap = H → Stand p l e R s m args below meth c T locs cells slots → ∃ t, Steps p.tables e below ((T.setTop g).pushFrame (.throwNew "java/lang/NullPointerException" none none)) t ∧ Q t
theorem vx_npe {pc : Nat} {ls : Array Slot} {rest : List Value} {Q : State → Prop} (hexec : p.tables.exec = Jvm.exec) (hl : l.stackTraces = false) {nb : Nat} {A : Nat → Prop}
    (hat : ∀ w ∈ vx_atN nb, w.before args s = true) (hgood : ∀ w ∈ vx_atN nb, vx_ot w = true)
    (hU : vx_Zq Bundle.tN "UNASSIGNED_STACK" Bundle.steD A s s.heap) (hN : vx_Zq Bundle.tN "SUPPRESSED_SENTINEL" Bundle.listD A s s.heap) (hS : va_S A s.heap H locs) (hsize : ls.size = c.maxLocals)
    (hRframes : 7 < R.frames) (hRlocals : (rest.map fun v => v.category).sum + 10240 ≤ R.locals) (hRcells : cells + 1 ≤ R.cells) (hRslots : slots + nb ≤ R.slots) (hlocks : meth.locks = false)
    (k : ∀ (H1 : Heap) (q9 : Addr) (ce : Cell), H.size ≤ H1.size → (∀ q : Nat, q < H.size → H1[q]? = H[q]?) → va_S A s.heap H1 locs → H1[q9]? = some ce → ce.vm = .none → s.vm.findClass "java/lang/NullPointerException" = some ce.cls → vx_W p l e R s m args below meth c H1 locs (cells + 1) (slots + nb) Q (F0 m pc ls rest) q9) :
    vx_NoteN p l e R s m args below meth c H locs cells slots Q (F0 m pc ls rest) := by
  intro T hT X
  have htr : e.platform.stackTraces = false := (show e.platform.stackTraces = l.stackTraces by rw [X.admits.platform]).trans hl
  have Y := vx_rebase X (R' := { frames := R.frames, locals := R.locals, cells := 1, slots := nb }) (Nat.le_refl _) (Nat.le_refl _) hRcells hRslots
  have hhp : ((T.setVm s.vm).setFrames (.invoking m args :: below)).heap = H := hT
  have hW0 : s.WarmedH ((T.setVm s.vm).setFrames (.invoking m args :: below)).vm := State.WarmedH.refl s
  have hat' : ∀ w ∈ vx_atN nb, w.before args ((T.setVm s.vm).setFrames (.invoking m args :: below)) = true := fun w hw => vx_ot_at hW0 rfl (hgood w hw) (hat w hw)
  have hU' : vx_Zq Bundle.tN "UNASSIGNED_STACK" Bundle.steD A ((T.setVm s.vm).setFrames (.invoking m args :: below)) ((T.setVm s.vm).setFrames (.invoking m args :: below)).heap := by rw [hhp]; exact vx_Zq.moved hW0.alike (hU.kept hS.2.1)
  have hN' : vx_Zq Bundle.tN "SUPPRESSED_SENTINEL" Bundle.listD A ((T.setVm s.vm).setFrames (.invoking m args :: below)) ((T.setVm s.vm).setFrames (.invoking m args :: below)).heap := by rw [hhp]; exact vx_Zq.moved hW0.alike (hN.kept hS.2.1)
  obtain ⟨S, q, ce, st, Z, hce, hcl', hv⟩ := vx_npeAt Y hexec htr (n := nb) (vx_own hat' (vx_isRefq hU'.1) (vx_isRefq hN'.1) hU'.2.word hN'.2.word) (fun x hx => nomatch hx)
    (g := F0 m pc ls rest) rfl hsize hRframes (by show 2 * 0 + (rest.map fun v => v.category).sum + 10240 ≤ R.locals; omega) (by show 0 + 1 ≤ 1; omega) (by show 0 + nb ≤ nb; omega) hlocks
  obtain ⟨f1, f2⟩ := vx_frame Z.same
  have f1' : H.size ≤ S.heap.size := by rw [← hT]; exact f1
  have f2' : ∀ q : Nat, q < H.size → S.heap[q]? = H[q]? := fun q hq => by
    rw [← hT]
    exact f2 q (by rw [← hT] at hq; exact hq) (fun z hz => nomatch hz)
  have X5 := vx_back9 X Y Z
  have X6 : Stand p l e R s m args below meth c S locs (cells + 1) (slots + nb) := { X5 with same := X5.same.mono (by omega) (by omega) }
  obtain ⟨t, a1, b1⟩ := k S.heap q ce f1' f2' ⟨Nat.le_trans hS.1 f1', fun q h1 h2 => (f2' q (Nat.lt_of_lt_of_le h1 hS.1)).trans (hS.2.1 q h1 h2), hS.2.2⟩ hce hv hcl' S rfl X6
  exact ⟨t, st t a1, b1⟩
variable {Q : State → Prop} {cc : ByteArray} {pc : Nat} {ls : Array Slot} {rest : List Value}
theorem vx_idivZ (hexec : p.tables.exec = Jvm.exec) (hb : c.code = cc) {a b : Int32} (h0 : b = 0) (d : decode cc pc = .ok (.idiv, 1)) (k : vx_Note p l e R s m args below meth c H locs cells slots Q (F0 m pc ls rest) "java/lang/ArithmeticException" "/ by zero") :
    W p l e R s m args below meth c H locs cells slots Q (F0 m pc ls (.int b :: .int a :: rest)) := by
  intro T hT X
  obtain ⟨t, st, q⟩ := k T hT X
  exact ⟨t, X.idivZero hexec (g := F0 m pc ls (.int b :: .int a :: rest)) rfl (a := a) (rest := rest) (by rw [h0]) (by rw [hb]; exact d) t st, q⟩
theorem vx_iremZ (hexec : p.tables.exec = Jvm.exec) (hb : c.code = cc) {a b : Int32} (h0 : b = 0) (d : decode cc pc = .ok (.irem, 1)) (k : vx_Note p l e R s m args below meth c H locs cells slots Q (F0 m pc ls rest) "java/lang/ArithmeticException" "/ by zero") :
    W p l e R s m args below meth c H locs cells slots Q (F0 m pc ls (.int b :: .int a :: rest)) := by
  intro T hT X
  obtain ⟨t, st, q⟩ := k T hT X
  exact ⟨t, X.iremZero hexec (g := F0 m pc ls (.int b :: .int a :: rest)) rfl (a := a) (rest := rest) (by rw [h0]) (by rw [hb]; exact d) t st, q⟩
theorem vx_ldivZ (hexec : p.tables.exec = Jvm.exec) (hb : c.code = cc) {a b : Int64} (h0 : b = 0) (d : decode cc pc = .ok (.ldiv, 1)) (k : vx_Note p l e R s m args below meth c H locs cells slots Q (F0 m pc ls rest) "java/lang/ArithmeticException" "/ by zero") :
    W p l e R s m args below meth c H locs cells slots Q (F0 m pc ls (.long b :: .long a :: rest)) := by
  intro T hT X
  obtain ⟨t, st, q⟩ := k T hT X
  exact ⟨t, X.ldivZero hexec (g := F0 m pc ls (.long b :: .long a :: rest)) rfl (a := a) (rest := rest) (by rw [h0]) (by rw [hb]; exact d) t st, q⟩
theorem vx_lremZ (hexec : p.tables.exec = Jvm.exec) (hb : c.code = cc) {a b : Int64} (h0 : b = 0) (d : decode cc pc = .ok (.lrem, 1)) (k : vx_Note p l e R s m args below meth c H locs cells slots Q (F0 m pc ls rest) "java/lang/ArithmeticException" "/ by zero") :
    W p l e R s m args below meth c H locs cells slots Q (F0 m pc ls (.long b :: .long a :: rest)) := by
  intro T hT X
  obtain ⟨t, st, q⟩ := k T hT X
  exact ⟨t, X.lremZero hexec (g := F0 m pc ls (.long b :: .long a :: rest)) rfl (a := a) (rest := rest) (by rw [h0]) (by rw [hb]; exact d) t st, q⟩
theorem vx_ialdZ {D : va_G} {cl : List vw_C} {ws : va_W} {tys : List (ClassId × FieldType)} {a : Nat} (hexec : p.tables.exec = Jvm.exec) (hb : c.code = cc) (hK : va_K D cl tys s) (hP : va_P D cl ws H) (q0 t0 : Nat) {cA : ClassId} {n : Nat} {f : Nat → Int32} (ha : ws[q0]? = some (a, .inl (cA, n, .inl f))) (ht : tys[t0]? = some (cA, .int)) {i : Int32} (hout : ¬ vp_in i n) (hdg : decode cc pc = .ok (.iaload, 1))
    (k : ∀ tx : String, tx = (toString "Index " ++ toString i ++ toString " out of bounds for length " ++ toString n : String) → vx_Note p l e R s m args below meth c H locs cells slots Q (F0 m pc ls rest) "java/lang/ArrayIndexOutOfBoundsException" tx) : W p l e R s m args below meth c H locs cells slots Q (F0 m pc ls (.int i :: .ref a :: rest)) := by
  intro T hT X
  obtain ⟨t, st, q⟩ := k _ rfl T hT X
  refine ⟨t, ?_, q⟩
  have h1 := X.ialoadOut hexec (by rw [hT]; exact hP q0 _ ha) ((hK.2 t0 _ ht).1 n (fun j => .int (f j))) (j := i) (by show (i < 0 ∨ (arrV _ _ _).slots.size ≤ _); rw [arrV_size]; exact Classical.byContradiction hout) (g := F0 m pc ls (.int i :: .ref a :: rest)) rfl (rest := rest) rfl (by rw [hb]; exact hdg) t
  simp only [arrV_size] at h1
  exact h1 st
theorem vx_iastZ {D : va_G} {cl : List vw_C} {ws : va_W} {tys : List (ClassId × FieldType)} {a : Nat} (hexec : p.tables.exec = Jvm.exec) (hb : c.code = cc) (hK : va_K D cl tys s) (hP : va_P D cl ws H) (q0 t0 : Nat) {cA : ClassId} {n : Nat} {f : Nat → Int32} (ha : ws[q0]? = some (a, .inl (cA, n, .inl f))) (ht : tys[t0]? = some (cA, .int)) {i : Int32} {x : Int32} (hout : ¬ vp_in i n) (hdg : decode cc pc = .ok (.iastore, 1))
    (k : ∀ tx : String, tx = (toString "Index " ++ toString i ++ toString " out of bounds for length " ++ toString n : String) → vx_Note p l e R s m args below meth c H locs cells slots Q (F0 m pc ls rest) "java/lang/ArrayIndexOutOfBoundsException" tx) : W p l e R s m args below meth c H locs cells slots Q (F0 m pc ls (.int x :: .int i :: .ref a :: rest)) := by
  intro T hT X
  obtain ⟨t, st, q⟩ := k _ rfl T hT X
  refine ⟨t, ?_, q⟩
  have h1 := X.iastoreOut hexec (by rw [hT]; exact hP q0 _ ha) ((hK.2 t0 _ ht).1 n (fun j => .int (f j))) (j := i) (by show (i < 0 ∨ (arrV _ _ _).slots.size ≤ _); rw [arrV_size]; exact Classical.byContradiction hout) (g := F0 m pc ls (.int x :: .int i :: .ref a :: rest)) rfl (rest := rest) rfl (by rw [hb]; exact hdg) t
  simp only [arrV_size] at h1
  exact h1 st
theorem vx_baldZ {D : va_G} {cl : List vw_C} {ws : va_W} {tys : List (ClassId × FieldType)} {a : Nat} (hexec : p.tables.exec = Jvm.exec) (hb : c.code = cc) (hK : va_K D cl tys s) (hP : va_P D cl ws H) (q0 t0 : Nat) {cA : ClassId} {n : Nat} {f : Nat → Int32} (ha : ws[q0]? = some (a, .inl (cA, n, .inl f))) (ht : tys[t0]? = some (cA, .byte)) {i : Int32} (hout : ¬ vp_in i n) (hdg : decode cc pc = .ok (.baload, 1))
    (k : ∀ tx : String, tx = (toString "Index " ++ toString i ++ toString " out of bounds for length " ++ toString n : String) → vx_Note p l e R s m args below meth c H locs cells slots Q (F0 m pc ls rest) "java/lang/ArrayIndexOutOfBoundsException" tx) : W p l e R s m args below meth c H locs cells slots Q (F0 m pc ls (.int i :: .ref a :: rest)) := by
  intro T hT X
  obtain ⟨t, st, q⟩ := k _ rfl T hT X
  refine ⟨t, ?_, q⟩
  have h1 := X.baloadOut hexec (by rw [hT]; exact hP q0 _ ha) ((hK.2 t0 _ ht).1 n (fun j => .int (f j))) (j := i) (by show (i < 0 ∨ (arrV _ _ _).slots.size ≤ _); rw [arrV_size]; exact Classical.byContradiction hout) (g := F0 m pc ls (.int i :: .ref a :: rest)) rfl (rest := rest) rfl (by rw [hb]; exact hdg) t
  simp only [arrV_size] at h1
  exact h1 st
theorem vx_bastZ {D : va_G} {cl : List vw_C} {ws : va_W} {tys : List (ClassId × FieldType)} {a : Nat} (hexec : p.tables.exec = Jvm.exec) (hb : c.code = cc) (hK : va_K D cl tys s) (hP : va_P D cl ws H) (q0 t0 : Nat) {cA : ClassId} {n : Nat} {f : Nat → Int32} (ha : ws[q0]? = some (a, .inl (cA, n, .inl f))) (ht : tys[t0]? = some (cA, .byte)) {i : Int32} {x : Int32} (hout : ¬ vp_in i n) (hdg : decode cc pc = .ok (.bastore, 1))
    (k : ∀ tx : String, tx = (toString "Index " ++ toString i ++ toString " out of bounds for length " ++ toString n : String) → vx_Note p l e R s m args below meth c H locs cells slots Q (F0 m pc ls rest) "java/lang/ArrayIndexOutOfBoundsException" tx) : W p l e R s m args below meth c H locs cells slots Q (F0 m pc ls (.int x :: .int i :: .ref a :: rest)) := by
  intro T hT X
  obtain ⟨t, st, q⟩ := k _ rfl T hT X
  refine ⟨t, ?_, q⟩
  have h1 := X.bastoreOut hexec (by rw [hT]; exact hP q0 _ ha) ((hK.2 t0 _ ht).1 n (fun j => .int (f j))) (j := i) (by show (i < 0 ∨ (arrV _ _ _).slots.size ≤ _); rw [arrV_size]; exact Classical.byContradiction hout) (g := F0 m pc ls (.int x :: .int i :: .ref a :: rest)) rfl (rest := rest) rfl (by rw [hb]; exact hdg) t
  simp only [arrV_size] at h1
  exact h1 st
theorem vx_zaldZ {D : va_G} {cl : List vw_C} {ws : va_W} {tys : List (ClassId × FieldType)} {a : Nat} (hexec : p.tables.exec = Jvm.exec) (hb : c.code = cc) (hK : va_K D cl tys s) (hP : va_P D cl ws H) (q0 t0 : Nat) {cA : ClassId} {n : Nat} {f : Nat → Int32} (ha : ws[q0]? = some (a, .inl (cA, n, .inl f))) (ht : tys[t0]? = some (cA, .boolean)) {i : Int32} (hout : ¬ vp_in i n) (hdg : decode cc pc = .ok (.baload, 1))
    (k : ∀ tx : String, tx = (toString "Index " ++ toString i ++ toString " out of bounds for length " ++ toString n : String) → vx_Note p l e R s m args below meth c H locs cells slots Q (F0 m pc ls rest) "java/lang/ArrayIndexOutOfBoundsException" tx) : W p l e R s m args below meth c H locs cells slots Q (F0 m pc ls (.int i :: .ref a :: rest)) := by
  intro T hT X
  obtain ⟨t, st, q⟩ := k _ rfl T hT X
  refine ⟨t, ?_, q⟩
  have h1 := X.baloadOut hexec (by rw [hT]; exact hP q0 _ ha) ((hK.2 t0 _ ht).1 n (fun j => .int (f j))) (j := i) (by show (i < 0 ∨ (arrV _ _ _).slots.size ≤ _); rw [arrV_size]; exact Classical.byContradiction hout) (g := F0 m pc ls (.int i :: .ref a :: rest)) rfl (rest := rest) rfl (by rw [hb]; exact hdg) t
  simp only [arrV_size] at h1
  exact h1 st
theorem vx_zastZ {D : va_G} {cl : List vw_C} {ws : va_W} {tys : List (ClassId × FieldType)} {a : Nat} (hexec : p.tables.exec = Jvm.exec) (hb : c.code = cc) (hK : va_K D cl tys s) (hP : va_P D cl ws H) (q0 t0 : Nat) {cA : ClassId} {n : Nat} {f : Nat → Int32} (ha : ws[q0]? = some (a, .inl (cA, n, .inl f))) (ht : tys[t0]? = some (cA, .boolean)) {i : Int32} {x : Int32} (hout : ¬ vp_in i n) (hdg : decode cc pc = .ok (.bastore, 1))
    (k : ∀ tx : String, tx = (toString "Index " ++ toString i ++ toString " out of bounds for length " ++ toString n : String) → vx_Note p l e R s m args below meth c H locs cells slots Q (F0 m pc ls rest) "java/lang/ArrayIndexOutOfBoundsException" tx) : W p l e R s m args below meth c H locs cells slots Q (F0 m pc ls (.int x :: .int i :: .ref a :: rest)) := by
  intro T hT X
  obtain ⟨t, st, q⟩ := k _ rfl T hT X
  refine ⟨t, ?_, q⟩
  have h1 := X.bastoreOut hexec (by rw [hT]; exact hP q0 _ ha) ((hK.2 t0 _ ht).1 n (fun j => .int (f j))) (j := i) (by show (i < 0 ∨ (arrV _ _ _).slots.size ≤ _); rw [arrV_size]; exact Classical.byContradiction hout) (g := F0 m pc ls (.int x :: .int i :: .ref a :: rest)) rfl (rest := rest) rfl (by rw [hb]; exact hdg) t
  simp only [arrV_size] at h1
  exact h1 st
theorem vx_caldZ {D : va_G} {cl : List vw_C} {ws : va_W} {tys : List (ClassId × FieldType)} {a : Nat} (hexec : p.tables.exec = Jvm.exec) (hb : c.code = cc) (hK : va_K D cl tys s) (hP : va_P D cl ws H) (q0 t0 : Nat) {cA : ClassId} {n : Nat} {f : Nat → Int32} (ha : ws[q0]? = some (a, .inl (cA, n, .inl f))) (ht : tys[t0]? = some (cA, .char)) {i : Int32} (hout : ¬ vp_in i n) (hdg : decode cc pc = .ok (.caload, 1))
    (k : ∀ tx : String, tx = (toString "Index " ++ toString i ++ toString " out of bounds for length " ++ toString n : String) → vx_Note p l e R s m args below meth c H locs cells slots Q (F0 m pc ls rest) "java/lang/ArrayIndexOutOfBoundsException" tx) : W p l e R s m args below meth c H locs cells slots Q (F0 m pc ls (.int i :: .ref a :: rest)) := by
  intro T hT X
  obtain ⟨t, st, q⟩ := k _ rfl T hT X
  refine ⟨t, ?_, q⟩
  have h1 := X.caloadOut hexec (by rw [hT]; exact hP q0 _ ha) ((hK.2 t0 _ ht).1 n (fun j => .int (f j))) (j := i) (by show (i < 0 ∨ (arrV _ _ _).slots.size ≤ _); rw [arrV_size]; exact Classical.byContradiction hout) (g := F0 m pc ls (.int i :: .ref a :: rest)) rfl (rest := rest) rfl (by rw [hb]; exact hdg) t
  simp only [arrV_size] at h1
  exact h1 st
theorem vx_castZ {D : va_G} {cl : List vw_C} {ws : va_W} {tys : List (ClassId × FieldType)} {a : Nat} (hexec : p.tables.exec = Jvm.exec) (hb : c.code = cc) (hK : va_K D cl tys s) (hP : va_P D cl ws H) (q0 t0 : Nat) {cA : ClassId} {n : Nat} {f : Nat → Int32} (ha : ws[q0]? = some (a, .inl (cA, n, .inl f))) (ht : tys[t0]? = some (cA, .char)) {i : Int32} {x : Int32} (hout : ¬ vp_in i n) (hdg : decode cc pc = .ok (.castore, 1))
    (k : ∀ tx : String, tx = (toString "Index " ++ toString i ++ toString " out of bounds for length " ++ toString n : String) → vx_Note p l e R s m args below meth c H locs cells slots Q (F0 m pc ls rest) "java/lang/ArrayIndexOutOfBoundsException" tx) : W p l e R s m args below meth c H locs cells slots Q (F0 m pc ls (.int x :: .int i :: .ref a :: rest)) := by
  intro T hT X
  obtain ⟨t, st, q⟩ := k _ rfl T hT X
  refine ⟨t, ?_, q⟩
  have h1 := X.castoreOut hexec (by rw [hT]; exact hP q0 _ ha) ((hK.2 t0 _ ht).1 n (fun j => .int (f j))) (j := i) (by show (i < 0 ∨ (arrV _ _ _).slots.size ≤ _); rw [arrV_size]; exact Classical.byContradiction hout) (g := F0 m pc ls (.int x :: .int i :: .ref a :: rest)) rfl (rest := rest) rfl (by rw [hb]; exact hdg) t
  simp only [arrV_size] at h1
  exact h1 st
theorem vx_saldZ {D : va_G} {cl : List vw_C} {ws : va_W} {tys : List (ClassId × FieldType)} {a : Nat} (hexec : p.tables.exec = Jvm.exec) (hb : c.code = cc) (hK : va_K D cl tys s) (hP : va_P D cl ws H) (q0 t0 : Nat) {cA : ClassId} {n : Nat} {f : Nat → Int32} (ha : ws[q0]? = some (a, .inl (cA, n, .inl f))) (ht : tys[t0]? = some (cA, .short)) {i : Int32} (hout : ¬ vp_in i n) (hdg : decode cc pc = .ok (.saload, 1))
    (k : ∀ tx : String, tx = (toString "Index " ++ toString i ++ toString " out of bounds for length " ++ toString n : String) → vx_Note p l e R s m args below meth c H locs cells slots Q (F0 m pc ls rest) "java/lang/ArrayIndexOutOfBoundsException" tx) : W p l e R s m args below meth c H locs cells slots Q (F0 m pc ls (.int i :: .ref a :: rest)) := by
  intro T hT X
  obtain ⟨t, st, q⟩ := k _ rfl T hT X
  refine ⟨t, ?_, q⟩
  have h1 := X.saloadOut hexec (by rw [hT]; exact hP q0 _ ha) ((hK.2 t0 _ ht).1 n (fun j => .int (f j))) (j := i) (by show (i < 0 ∨ (arrV _ _ _).slots.size ≤ _); rw [arrV_size]; exact Classical.byContradiction hout) (g := F0 m pc ls (.int i :: .ref a :: rest)) rfl (rest := rest) rfl (by rw [hb]; exact hdg) t
  simp only [arrV_size] at h1
  exact h1 st
theorem vx_sastZ {D : va_G} {cl : List vw_C} {ws : va_W} {tys : List (ClassId × FieldType)} {a : Nat} (hexec : p.tables.exec = Jvm.exec) (hb : c.code = cc) (hK : va_K D cl tys s) (hP : va_P D cl ws H) (q0 t0 : Nat) {cA : ClassId} {n : Nat} {f : Nat → Int32} (ha : ws[q0]? = some (a, .inl (cA, n, .inl f))) (ht : tys[t0]? = some (cA, .short)) {i : Int32} {x : Int32} (hout : ¬ vp_in i n) (hdg : decode cc pc = .ok (.sastore, 1))
    (k : ∀ tx : String, tx = (toString "Index " ++ toString i ++ toString " out of bounds for length " ++ toString n : String) → vx_Note p l e R s m args below meth c H locs cells slots Q (F0 m pc ls rest) "java/lang/ArrayIndexOutOfBoundsException" tx) : W p l e R s m args below meth c H locs cells slots Q (F0 m pc ls (.int x :: .int i :: .ref a :: rest)) := by
  intro T hT X
  obtain ⟨t, st, q⟩ := k _ rfl T hT X
  refine ⟨t, ?_, q⟩
  have h1 := X.sastoreOut hexec (by rw [hT]; exact hP q0 _ ha) ((hK.2 t0 _ ht).1 n (fun j => .int (f j))) (j := i) (by show (i < 0 ∨ (arrV _ _ _).slots.size ≤ _); rw [arrV_size]; exact Classical.byContradiction hout) (g := F0 m pc ls (.int x :: .int i :: .ref a :: rest)) rfl (rest := rest) rfl (by rw [hb]; exact hdg) t
  simp only [arrV_size] at h1
  exact h1 st
theorem vx_laldZ {D : va_G} {cl : List vw_C} {ws : va_W} {tys : List (ClassId × FieldType)} {a : Nat} (hexec : p.tables.exec = Jvm.exec) (hb : c.code = cc) (hK : va_K D cl tys s) (hP : va_P D cl ws H) (q0 t0 : Nat) {cA : ClassId} {n : Nat} {f : Nat → Int64} (ha : ws[q0]? = some (a, .inl (cA, n, .inr (.inl f)))) (ht : tys[t0]? = some (cA, .long)) {i : Int32} (hout : ¬ vp_in i n) (hdg : decode cc pc = .ok (.laload, 1))
    (k : ∀ tx : String, tx = (toString "Index " ++ toString i ++ toString " out of bounds for length " ++ toString n : String) → vx_Note p l e R s m args below meth c H locs cells slots Q (F0 m pc ls rest) "java/lang/ArrayIndexOutOfBoundsException" tx) : W p l e R s m args below meth c H locs cells slots Q (F0 m pc ls (.int i :: .ref a :: rest)) := by
  intro T hT X
  obtain ⟨t, st, q⟩ := k _ rfl T hT X
  refine ⟨t, ?_, q⟩
  have h1 := X.laloadOut hexec (by rw [hT]; exact hP q0 _ ha) ((hK.2 t0 _ ht).1 n (fun j => .long (f j))) (j := i) (by show (i < 0 ∨ (arrV _ _ _).slots.size ≤ _); rw [arrV_size]; exact Classical.byContradiction hout) (g := F0 m pc ls (.int i :: .ref a :: rest)) rfl (rest := rest) rfl (by rw [hb]; exact hdg) t
  simp only [arrV_size] at h1
  exact h1 st
theorem vx_lastZ {D : va_G} {cl : List vw_C} {ws : va_W} {tys : List (ClassId × FieldType)} {a : Nat} (hexec : p.tables.exec = Jvm.exec) (hb : c.code = cc) (hK : va_K D cl tys s) (hP : va_P D cl ws H) (q0 t0 : Nat) {cA : ClassId} {n : Nat} {f : Nat → Int64} (ha : ws[q0]? = some (a, .inl (cA, n, .inr (.inl f)))) (ht : tys[t0]? = some (cA, .long)) {i : Int32} {x : Int64} (hout : ¬ vp_in i n) (hdg : decode cc pc = .ok (.lastore, 1))
    (k : ∀ tx : String, tx = (toString "Index " ++ toString i ++ toString " out of bounds for length " ++ toString n : String) → vx_Note p l e R s m args below meth c H locs cells slots Q (F0 m pc ls rest) "java/lang/ArrayIndexOutOfBoundsException" tx) : W p l e R s m args below meth c H locs cells slots Q (F0 m pc ls (.long x :: .int i :: .ref a :: rest)) := by
  intro T hT X
  obtain ⟨t, st, q⟩ := k _ rfl T hT X
  refine ⟨t, ?_, q⟩
  have h1 := X.lastoreOut hexec (by rw [hT]; exact hP q0 _ ha) ((hK.2 t0 _ ht).1 n (fun j => .long (f j))) (j := i) (by show (i < 0 ∨ (arrV _ _ _).slots.size ≤ _); rw [arrV_size]; exact Classical.byContradiction hout) (g := F0 m pc ls (.long x :: .int i :: .ref a :: rest)) rfl (rest := rest) rfl (by rw [hb]; exact hdg) t
  simp only [arrV_size] at h1
  exact h1 st
theorem vx_faldZ {D : va_G} {cl : List vw_C} {ws : va_W} {tys : List (ClassId × FieldType)} {a : Nat} (hexec : p.tables.exec = Jvm.exec) (hb : c.code = cc) (hK : va_K D cl tys s) (hP : va_P D cl ws H) (q0 t0 : Nat) {cA : ClassId} {n : Nat} {f : Nat → UInt32} (ha : ws[q0]? = some (a, .inl (cA, n, .inr (.inr (.inl f))))) (ht : tys[t0]? = some (cA, .float)) {i : Int32} (hout : ¬ vp_in i n) (hdg : decode cc pc = .ok (.faload, 1))
    (k : ∀ tx : String, tx = (toString "Index " ++ toString i ++ toString " out of bounds for length " ++ toString n : String) → vx_Note p l e R s m args below meth c H locs cells slots Q (F0 m pc ls rest) "java/lang/ArrayIndexOutOfBoundsException" tx) : W p l e R s m args below meth c H locs cells slots Q (F0 m pc ls (.int i :: .ref a :: rest)) := by
  intro T hT X
  obtain ⟨t, st, q⟩ := k _ rfl T hT X
  refine ⟨t, ?_, q⟩
  have h1 := X.faloadOut hexec (by rw [hT]; exact hP q0 _ ha) ((hK.2 t0 _ ht).1 n (fun j => .float (f j))) (j := i) (by show (i < 0 ∨ (arrV _ _ _).slots.size ≤ _); rw [arrV_size]; exact Classical.byContradiction hout) (g := F0 m pc ls (.int i :: .ref a :: rest)) rfl (rest := rest) rfl (by rw [hb]; exact hdg) t
  simp only [arrV_size] at h1
  exact h1 st
theorem vx_fastZ {D : va_G} {cl : List vw_C} {ws : va_W} {tys : List (ClassId × FieldType)} {a : Nat} (hexec : p.tables.exec = Jvm.exec) (hb : c.code = cc) (hK : va_K D cl tys s) (hP : va_P D cl ws H) (q0 t0 : Nat) {cA : ClassId} {n : Nat} {f : Nat → UInt32} (ha : ws[q0]? = some (a, .inl (cA, n, .inr (.inr (.inl f))))) (ht : tys[t0]? = some (cA, .float)) {i : Int32} {x : UInt32} (hout : ¬ vp_in i n) (hdg : decode cc pc = .ok (.fastore, 1))
    (k : ∀ tx : String, tx = (toString "Index " ++ toString i ++ toString " out of bounds for length " ++ toString n : String) → vx_Note p l e R s m args below meth c H locs cells slots Q (F0 m pc ls rest) "java/lang/ArrayIndexOutOfBoundsException" tx) : W p l e R s m args below meth c H locs cells slots Q (F0 m pc ls (.float x :: .int i :: .ref a :: rest)) := by
  intro T hT X
  obtain ⟨t, st, q⟩ := k _ rfl T hT X
  refine ⟨t, ?_, q⟩
  have h1 := X.fastoreOut hexec (by rw [hT]; exact hP q0 _ ha) ((hK.2 t0 _ ht).1 n (fun j => .float (f j))) (j := i) (by show (i < 0 ∨ (arrV _ _ _).slots.size ≤ _); rw [arrV_size]; exact Classical.byContradiction hout) (g := F0 m pc ls (.float x :: .int i :: .ref a :: rest)) rfl (rest := rest) rfl (by rw [hb]; exact hdg) t
  simp only [arrV_size] at h1
  exact h1 st
theorem vx_daldZ {D : va_G} {cl : List vw_C} {ws : va_W} {tys : List (ClassId × FieldType)} {a : Nat} (hexec : p.tables.exec = Jvm.exec) (hb : c.code = cc) (hK : va_K D cl tys s) (hP : va_P D cl ws H) (q0 t0 : Nat) {cA : ClassId} {n : Nat} {f : Nat → UInt64} (ha : ws[q0]? = some (a, .inl (cA, n, .inr (.inr (.inr (.inl f)))))) (ht : tys[t0]? = some (cA, .double)) {i : Int32} (hout : ¬ vp_in i n) (hdg : decode cc pc = .ok (.daload, 1))
    (k : ∀ tx : String, tx = (toString "Index " ++ toString i ++ toString " out of bounds for length " ++ toString n : String) → vx_Note p l e R s m args below meth c H locs cells slots Q (F0 m pc ls rest) "java/lang/ArrayIndexOutOfBoundsException" tx) : W p l e R s m args below meth c H locs cells slots Q (F0 m pc ls (.int i :: .ref a :: rest)) := by
  intro T hT X
  obtain ⟨t, st, q⟩ := k _ rfl T hT X
  refine ⟨t, ?_, q⟩
  have h1 := X.daloadOut hexec (by rw [hT]; exact hP q0 _ ha) ((hK.2 t0 _ ht).1 n (fun j => .double (f j))) (j := i) (by show (i < 0 ∨ (arrV _ _ _).slots.size ≤ _); rw [arrV_size]; exact Classical.byContradiction hout) (g := F0 m pc ls (.int i :: .ref a :: rest)) rfl (rest := rest) rfl (by rw [hb]; exact hdg) t
  simp only [arrV_size] at h1
  exact h1 st
theorem vx_dastZ {D : va_G} {cl : List vw_C} {ws : va_W} {tys : List (ClassId × FieldType)} {a : Nat} (hexec : p.tables.exec = Jvm.exec) (hb : c.code = cc) (hK : va_K D cl tys s) (hP : va_P D cl ws H) (q0 t0 : Nat) {cA : ClassId} {n : Nat} {f : Nat → UInt64} (ha : ws[q0]? = some (a, .inl (cA, n, .inr (.inr (.inr (.inl f)))))) (ht : tys[t0]? = some (cA, .double)) {i : Int32} {x : UInt64} (hout : ¬ vp_in i n) (hdg : decode cc pc = .ok (.dastore, 1))
    (k : ∀ tx : String, tx = (toString "Index " ++ toString i ++ toString " out of bounds for length " ++ toString n : String) → vx_Note p l e R s m args below meth c H locs cells slots Q (F0 m pc ls rest) "java/lang/ArrayIndexOutOfBoundsException" tx) : W p l e R s m args below meth c H locs cells slots Q (F0 m pc ls (.double x :: .int i :: .ref a :: rest)) := by
  intro T hT X
  obtain ⟨t, st, q⟩ := k _ rfl T hT X
  refine ⟨t, ?_, q⟩
  have h1 := X.dastoreOut hexec (by rw [hT]; exact hP q0 _ ha) ((hK.2 t0 _ ht).1 n (fun j => .double (f j))) (j := i) (by show (i < 0 ∨ (arrV _ _ _).slots.size ≤ _); rw [arrV_size]; exact Classical.byContradiction hout) (g := F0 m pc ls (.double x :: .int i :: .ref a :: rest)) rfl (rest := rest) rfl (by rw [hb]; exact hdg) t
  simp only [arrV_size] at h1
  exact h1 st
theorem vx_arraylengthN (hexec : p.tables.exec = Jvm.exec) (hb : c.code = cc) (hdg : decode cc pc = .ok (.arraylength, 1)) (k : vx_NoteN p l e R s m args below meth c H locs cells slots Q (F0 m pc ls rest)) : W p l e R s m args below meth c H locs cells slots Q (F0 m pc ls (.null :: rest)) := by
  intro T hT X
  obtain ⟨t, st, q⟩ := k T hT X
  exact ⟨t, X.arraylengthNull hexec (g := F0 m pc ls (.null :: rest)) rfl (rest := rest) rfl (by rw [hb]; exact hdg) t st, q⟩
theorem vx_ialoadN (hexec : p.tables.exec = Jvm.exec) (hb : c.code = cc) {i : Int32} (hdg : decode cc pc = .ok (.iaload, 1)) (k : vx_NoteN p l e R s m args below meth c H locs cells slots Q (F0 m pc ls rest)) : W p l e R s m args below meth c H locs cells slots Q (F0 m pc ls (.int i :: .null :: rest)) := by
  intro T hT X
  obtain ⟨t, st, q⟩ := k T hT X
  exact ⟨t, X.ialoadNull hexec (g := F0 m pc ls (.int i :: .null :: rest)) rfl (rest := rest) rfl (by rw [hb]; exact hdg) t st, q⟩
theorem vx_laloadN (hexec : p.tables.exec = Jvm.exec) (hb : c.code = cc) {i : Int32} (hdg : decode cc pc = .ok (.laload, 1)) (k : vx_NoteN p l e R s m args below meth c H locs cells slots Q (F0 m pc ls rest)) : W p l e R s m args below meth c H locs cells slots Q (F0 m pc ls (.int i :: .null :: rest)) := by
  intro T hT X
  obtain ⟨t, st, q⟩ := k T hT X
  exact ⟨t, X.laloadNull hexec (g := F0 m pc ls (.int i :: .null :: rest)) rfl (rest := rest) rfl (by rw [hb]; exact hdg) t st, q⟩
theorem vx_faloadN (hexec : p.tables.exec = Jvm.exec) (hb : c.code = cc) {i : Int32} (hdg : decode cc pc = .ok (.faload, 1)) (k : vx_NoteN p l e R s m args below meth c H locs cells slots Q (F0 m pc ls rest)) : W p l e R s m args below meth c H locs cells slots Q (F0 m pc ls (.int i :: .null :: rest)) := by
  intro T hT X
  obtain ⟨t, st, q⟩ := k T hT X
  exact ⟨t, X.faloadNull hexec (g := F0 m pc ls (.int i :: .null :: rest)) rfl (rest := rest) rfl (by rw [hb]; exact hdg) t st, q⟩
theorem vx_daloadN (hexec : p.tables.exec = Jvm.exec) (hb : c.code = cc) {i : Int32} (hdg : decode cc pc = .ok (.daload, 1)) (k : vx_NoteN p l e R s m args below meth c H locs cells slots Q (F0 m pc ls rest)) : W p l e R s m args below meth c H locs cells slots Q (F0 m pc ls (.int i :: .null :: rest)) := by
  intro T hT X
  obtain ⟨t, st, q⟩ := k T hT X
  exact ⟨t, X.daloadNull hexec (g := F0 m pc ls (.int i :: .null :: rest)) rfl (rest := rest) rfl (by rw [hb]; exact hdg) t st, q⟩
theorem vx_aaloadN (hexec : p.tables.exec = Jvm.exec) (hb : c.code = cc) {i : Int32} (hdg : decode cc pc = .ok (.aaload, 1)) (k : vx_NoteN p l e R s m args below meth c H locs cells slots Q (F0 m pc ls rest)) : W p l e R s m args below meth c H locs cells slots Q (F0 m pc ls (.int i :: .null :: rest)) := by
  intro T hT X
  obtain ⟨t, st, q⟩ := k T hT X
  exact ⟨t, X.aaloadNull hexec (g := F0 m pc ls (.int i :: .null :: rest)) rfl (rest := rest) rfl (by rw [hb]; exact hdg) t st, q⟩
theorem vx_baloadN (hexec : p.tables.exec = Jvm.exec) (hb : c.code = cc) {i : Int32} (hdg : decode cc pc = .ok (.baload, 1)) (k : vx_NoteN p l e R s m args below meth c H locs cells slots Q (F0 m pc ls rest)) : W p l e R s m args below meth c H locs cells slots Q (F0 m pc ls (.int i :: .null :: rest)) := by
  intro T hT X
  obtain ⟨t, st, q⟩ := k T hT X
  exact ⟨t, X.baloadNull hexec (g := F0 m pc ls (.int i :: .null :: rest)) rfl (rest := rest) rfl (by rw [hb]; exact hdg) t st, q⟩
theorem vx_caloadN (hexec : p.tables.exec = Jvm.exec) (hb : c.code = cc) {i : Int32} (hdg : decode cc pc = .ok (.caload, 1)) (k : vx_NoteN p l e R s m args below meth c H locs cells slots Q (F0 m pc ls rest)) : W p l e R s m args below meth c H locs cells slots Q (F0 m pc ls (.int i :: .null :: rest)) := by
  intro T hT X
  obtain ⟨t, st, q⟩ := k T hT X
  exact ⟨t, X.caloadNull hexec (g := F0 m pc ls (.int i :: .null :: rest)) rfl (rest := rest) rfl (by rw [hb]; exact hdg) t st, q⟩
theorem vx_saloadN (hexec : p.tables.exec = Jvm.exec) (hb : c.code = cc) {i : Int32} (hdg : decode cc pc = .ok (.saload, 1)) (k : vx_NoteN p l e R s m args below meth c H locs cells slots Q (F0 m pc ls rest)) : W p l e R s m args below meth c H locs cells slots Q (F0 m pc ls (.int i :: .null :: rest)) := by
  intro T hT X
  obtain ⟨t, st, q⟩ := k T hT X
  exact ⟨t, X.saloadNull hexec (g := F0 m pc ls (.int i :: .null :: rest)) rfl (rest := rest) rfl (by rw [hb]; exact hdg) t st, q⟩
theorem vx_iastoreN (hexec : p.tables.exec = Jvm.exec) (hb : c.code = cc) {x : Int32} {i : Int32} (hdg : decode cc pc = .ok (.iastore, 1)) (k : vx_NoteN p l e R s m args below meth c H locs cells slots Q (F0 m pc ls rest)) : W p l e R s m args below meth c H locs cells slots Q (F0 m pc ls (.int x :: .int i :: .null :: rest)) := by
  intro T hT X
  obtain ⟨t, st, q⟩ := k T hT X
  exact ⟨t, X.iastoreNull hexec (g := F0 m pc ls (.int x :: .int i :: .null :: rest)) rfl (rest := rest) rfl (by rw [hb]; exact hdg) t st, q⟩
theorem vx_lastoreN (hexec : p.tables.exec = Jvm.exec) (hb : c.code = cc) {x : Int64} {i : Int32} (hdg : decode cc pc = .ok (.lastore, 1)) (k : vx_NoteN p l e R s m args below meth c H locs cells slots Q (F0 m pc ls rest)) : W p l e R s m args below meth c H locs cells slots Q (F0 m pc ls (.long x :: .int i :: .null :: rest)) := by
  intro T hT X
  obtain ⟨t, st, q⟩ := k T hT X
  exact ⟨t, X.lastoreNull hexec (g := F0 m pc ls (.long x :: .int i :: .null :: rest)) rfl (rest := rest) rfl (by rw [hb]; exact hdg) t st, q⟩
theorem vx_fastoreN (hexec : p.tables.exec = Jvm.exec) (hb : c.code = cc) {x : UInt32} {i : Int32} (hdg : decode cc pc = .ok (.fastore, 1)) (k : vx_NoteN p l e R s m args below meth c H locs cells slots Q (F0 m pc ls rest)) : W p l e R s m args below meth c H locs cells slots Q (F0 m pc ls (.float x :: .int i :: .null :: rest)) := by
  intro T hT X
  obtain ⟨t, st, q⟩ := k T hT X
  exact ⟨t, X.fastoreNull hexec (g := F0 m pc ls (.float x :: .int i :: .null :: rest)) rfl (rest := rest) rfl (by rw [hb]; exact hdg) t st, q⟩
theorem vx_dastoreN (hexec : p.tables.exec = Jvm.exec) (hb : c.code = cc) {x : UInt64} {i : Int32} (hdg : decode cc pc = .ok (.dastore, 1)) (k : vx_NoteN p l e R s m args below meth c H locs cells slots Q (F0 m pc ls rest)) : W p l e R s m args below meth c H locs cells slots Q (F0 m pc ls (.double x :: .int i :: .null :: rest)) := by
  intro T hT X
  obtain ⟨t, st, q⟩ := k T hT X
  exact ⟨t, X.dastoreNull hexec (g := F0 m pc ls (.double x :: .int i :: .null :: rest)) rfl (rest := rest) rfl (by rw [hb]; exact hdg) t st, q⟩
theorem vx_bastoreN (hexec : p.tables.exec = Jvm.exec) (hb : c.code = cc) {x : Int32} {i : Int32} (hdg : decode cc pc = .ok (.bastore, 1)) (k : vx_NoteN p l e R s m args below meth c H locs cells slots Q (F0 m pc ls rest)) : W p l e R s m args below meth c H locs cells slots Q (F0 m pc ls (.int x :: .int i :: .null :: rest)) := by
  intro T hT X
  obtain ⟨t, st, q⟩ := k T hT X
  exact ⟨t, X.bastoreNull hexec (g := F0 m pc ls (.int x :: .int i :: .null :: rest)) rfl (rest := rest) rfl (by rw [hb]; exact hdg) t st, q⟩
theorem vx_castoreN (hexec : p.tables.exec = Jvm.exec) (hb : c.code = cc) {x : Int32} {i : Int32} (hdg : decode cc pc = .ok (.castore, 1)) (k : vx_NoteN p l e R s m args below meth c H locs cells slots Q (F0 m pc ls rest)) : W p l e R s m args below meth c H locs cells slots Q (F0 m pc ls (.int x :: .int i :: .null :: rest)) := by
  intro T hT X
  obtain ⟨t, st, q⟩ := k T hT X
  exact ⟨t, X.castoreNull hexec (g := F0 m pc ls (.int x :: .int i :: .null :: rest)) rfl (rest := rest) rfl (by rw [hb]; exact hdg) t st, q⟩
theorem vx_sastoreN (hexec : p.tables.exec = Jvm.exec) (hb : c.code = cc) {x : Int32} {i : Int32} (hdg : decode cc pc = .ok (.sastore, 1)) (k : vx_NoteN p l e R s m args below meth c H locs cells slots Q (F0 m pc ls rest)) : W p l e R s m args below meth c H locs cells slots Q (F0 m pc ls (.int x :: .int i :: .null :: rest)) := by
  intro T hT X
  obtain ⟨t, st, q⟩ := k T hT X
  exact ⟨t, X.sastoreNull hexec (g := F0 m pc ls (.int x :: .int i :: .null :: rest)) rfl (rest := rest) rfl (by rw [hb]; exact hdg) t st, q⟩
theorem vx_invokeN {own C : String} {index maxL : Nat} {y : MethodName} {bytes : ByteArray} {ret : Option FieldType} (hexec : p.tables.exec = Jvm.exec) (hb : c.code = cc) (hown : s.vm.findClass own = some m.cls) (hlink : (Cond.methodLink own index y).before args s = true) (hinst : (Cond.instanceMethod y).before args s = true) (hcode : (Cond.code y bytes maxL ret).before args s = true) (hsel : (Cond.selects C y y).before args s = true)
    (hx : y.cls ≠ "java/lang/invoke/MethodHandle" ∧ y.cls ≠ "java/lang/invoke/VarHandle") {As : List Value} (hlen : (parseMethodDescriptor y.desc).map (fun d => d.parameters.length) = some As.length) (hdg : decode cc pc = .ok (.invokevirtual index, 3))
    (k : vx_NoteN p l e R s m args below meth c H locs cells slots Q (F0 m pc ls rest)) {st0 : List Value} (hst : st0 = As.reverse ++ .null :: rest) : W p l e R s m args below meth c H locs cells slots Q (F0 m pc ls st0) := by
  intro T hT X
  obtain ⟨r0, r, hn, hrm, hstR, hsigR⟩ := va_Decl.of hinst hcode
  obtain ⟨c2, r2, m2, q1, q2, q3, q4, kP, hkP, hkPi⟩ := Cond.selects_spec hsel
  cases hn.symm.trans q3
  have hl9 : As.length = r.sig.parameters.length := by
    rw [hsigR] at hlen
    exact (Option.some.inj hlen).symm
  obtain ⟨vm', X1, st1⟩ := X.invokevirtualNull hexec hown hlink hn hrm hstR hkP hkPi hx (g := F0 m pc ls st0) rfl (argsL := As) (rest := rest) hl9 hst (by rw [hb]; exact hdg)
  obtain ⟨t, st, q⟩ := k (T.setVm vm') hT X1
  exact ⟨t, st1 t st, q⟩
theorem vx_newarrayZ {atype : ArrayType} (hexec : p.tables.exec = Jvm.exec) (hb : c.code = cc) {n : Int32} (h0 : n < 0) (hdg : decode cc pc = .ok (.newarray atype, 2)) (k : ∀ tx : String, tx = toString n → vx_Note p l e R s m args below meth c H locs cells slots Q (F0 m pc ls rest) "java/lang/NegativeArraySizeException" tx) : W p l e R s m args below meth c H locs cells slots Q (F0 m pc ls (.int n :: rest)) := by
  intro T hT X
  obtain ⟨t, st, q⟩ := k _ rfl T hT X
  exact ⟨t, X.newarrayNegative hexec (g := F0 m pc ls (.int n :: rest)) rfl h0 (rest := rest) rfl (by rw [hb]; exact hdg) t st, q⟩
end
end VXM
/-! ===== END ===== -/
/-! ===== BEGIN an exception as an object: made, kept, thrown later (no traces kept) ===== -/
section VXK
variable {p : Program} {l : Launch} {e : Env} {R : Room} {s : State} {m₀ : MethodId} {args : Array Value} {below : List Frame} {meth : Method} {c : Code} {W : State} {locs : List Loc} {cells slots : Nat}
set_option maxHeartbeats 1000000 in
theorem vx_ctorMadeS (X : Stand p l e R s m₀ args below meth c W locs cells slots) (hexec : p.tables.exec = Jvm.exec) (htr : e.platform.stackTraces = false) {own cls : String} {names : List String} {ic : Nat}
    (hown : s.vm.findClass own = some m₀.cls) (hcls : Bundle.fit cls = true) (hnames : ∀ n ∈ names, Bundle.fit n = true)
    (h : ∀ a ∈ Bundle.ownAtoms own ic cls names, a.before args s = true)
    (hlocs : ∀ x ∈ locs, ∀ cell, s.heap[x.base]? = some cell → cell.vm.isStatics = false)
    {a : Addr} {cX : ClassId} {kX : Class} (hfoundX : s.vm.findClass cls = some cX) (hkX : s.vm.classes[cX]? = some kX) (hcell : W.heap[a]? = some (freshCell cX kX)) (hnew : s.heap.size ≤ a)
    {msg : Value} (hmsg : msg.isRef = true)
    {g : JFrame} (hg : g.method = m₀) (hsize : g.locals.size = c.maxLocals) {rest : List Value} (hstack : g.stack = msg :: .ref a :: .ref a :: rest)
    (hd6 : decode c.code g.pc = .ok (.invokespecial ic, 3))
    (hRframes : names.length + 3 < R.frames) (hRlocals : 2 * g.monitorRoom + ((Value.ref a :: rest).map fun v => v.category).sum + (13 * (names.length + 1) + 42) ≤ R.locals) :
    ∃ (V : State) (ce : Cell) (L : List Loc), Stand p l e R s m₀ args below meth c (V.setCell a ce) (locs ++ L) cells slots ∧ (∀ y ∈ L, y.base = a) ∧ a < V.heap.size ∧ ce.cls = cX ∧ ce.vm = .none ∧
      ∀ target, Steps p.tables e below ((V.setCell a ce).setTop { g with stack := .ref a :: rest, pc := g.pc + 3 }) target → Steps p.tables e below (W.setTop g) target := by
  have howns : e.platform.frameOwnsMonitors = true := by rw [X.admits.platform]
  have hfin : e.platform.finalization = false := by rw [X.admits.platform]
  have hpl : e.platform.magicAccessors = ({} : Platform).magicAccessors := by rw [X.admits.platform]
  have a' : ∀ x, x ∈ Bundle.ownAtoms own ic cls names → x.holds args s none s [] = true := fun x hx => h x hx
  obtain ⟨T, Z0, L, -, Y⟩ := ThrowableC.of_atoms (args := args) howns hfin hpl (fun x hx => h x (by simp [Bundle.ownAtoms, hx]))
  obtain ⟨Z, M, LZ, LM, hnZ⟩ := Init0T.ofS_atoms (args := args) hpl L Y (fun x hx => h x (by simp [Bundle.ownAtoms, hx]))
  obtain ⟨P1, Ps, hlen, L1, hL, hP1m, hlink1, hlink⟩ := Bundle.chainS (args := args) hpl hnZ names cls hcls hnames (fun x hx => h x (by simp [Bundle.ownAtoms, hx]))
  have hfound : s.vm.findClass cls = some P1.m.cls := findClass_of_methodNamed hP1m
  cases Option.some.inj (hfoundX.symm.trans hfound)
  obtain ⟨c1, kX', hc1, hk, hord, -, -, hn6⟩ := Cond.instantiable_spec (a' (.instantiable cls 6) (by simp [Bundle.ownAtoms]))
  cases Option.some.inj (hc1.symm.trans hfound)
  cases Option.some.inj (hkX.symm.trans hk)
  have hsel0 : selectMethod e.platform s.vm P1.m.cls T.fill0 = .method T.fill0 := by
    obtain ⟨c2, r2, m2, q1, q2, q3, q4, -⟩ := Cond.selects_spec (a' (.selects cls Bundle.tFill0 Bundle.tFill0) (by simp [Bundle.ownAtoms]))
    cases Option.some.inj (q1.symm.trans hfound)
    cases Option.some.inj (q2.symm.trans (State.methodFound?_of_named Y.fill0 (by decide)))
    cases Option.some.inj (q3.symm.trans Y.fill0)
    rw [Launch.admits_selectMethod X.admits]; exact q4
  have hselF : selectMethod e.platform s.vm P1.m.cls T.fill = .method T.fill := by
    obtain ⟨c2, r2, m2, q1, q2, q3, q4, -⟩ := Cond.selects_spec (a' (.selects cls Bundle.tFill Bundle.tFill) (by simp [Bundle.ownAtoms]))
    cases Option.some.inj (q1.symm.trans hfound)
    cases Option.some.inj (q2.symm.trans (State.methodFound?_of_named Y.fill (by decide)))
    cases Option.some.inj (q3.symm.trans Y.fill)
    rw [Launch.admits_selectMethod X.admits]; exact q4
  obtain ⟨cellS0, hcS0, hiss⟩ := Y.statics
  obtain ⟨u0, hu0⟩ := Cond.staticRefV Y.unassigned L.unassignedStatic L.statics hcS0 hiss (a' (.isRef (.static Bundle.tN "UNASSIGNED_STACK" Bundle.steD)) (by simp [Bundle.ownAtoms]))
  obtain ⟨sen, hsen⟩ := Cond.staticRefV Y.sentinel L.sentinelStatic L.statics hcS0 hiss (a' (.isRef (.static Bundle.tN "SUPPRESSED_SENTINEL" Bundle.listD)) (by simp [Bundle.ownAtoms]))
  obtain ⟨ci198, i198, fB, hk198, hg198, ha198, hsB, -, hnB, htB, hffB⟩ := Cond.ownField (t := .object "java/lang/Object") Y.found L.cls (by decide +kernel) (a' (.fieldLink Bundle.tN 198 Bundle.tN "backtrace" "Ljava/lang/Object;") (by simp [Bundle.ownAtoms])) (a' (.lays Bundle.tN Bundle.tN "backtrace" "Ljava/lang/Object;") (by simp [Bundle.ownAtoms])) e.platform hpl
  obtain ⟨cellS, hcS', heS, -, hkeep⟩ := X.same.2.2.2.2.2 T.aS cellS0 hcS0
  have hcellS : W.heap[T.aS]? = some cellS := hcS'
  have hout' : ∀ i, (⟨T.aS, i⟩ : Loc) ∉ locs := fun i hmem => by
    have := hlocs _ hmem cellS0 hcS0
    rw [hiss] at this; cases this
  have hknownS : cellS.vm ≠ .unknown := by
    rw [heS]; intro hu
    rw [show cellS0.vm = .unknown from hu] at hiss
    cases hiss
  have hneS : T.aS ≠ a := Nat.ne_of_lt (Nat.lt_of_lt_of_le (Array.getElem?_eq_some_iff.mp hcS0).1 hnew)
  obtain ⟨iM, hffM⟩ := Y.msg
  obtain ⟨tyC, dC, hdC, hdnC⟩ := Cond.laysAt hfound hk Y.cause (a' (.lays cls Bundle.tN "cause" "Ljava/lang/Throwable;") (by simp [Bundle.ownAtoms]))
  obtain ⟨tyS, dS, hdS, hdnS⟩ := Cond.laysAt hfound hk Y.stack (a' (.lays cls Bundle.tN "stackTrace" Bundle.steD) (by simp [Bundle.ownAtoms]))
  obtain ⟨tyP, dP, hdP, hdnP⟩ := Cond.laysAt hfound hk Y.supp (a' (.lays cls Bundle.tN "suppressedExceptions" Bundle.listD) (by simp [Bundle.ownAtoms]))
  obtain ⟨tyM, dM, hdM, hdnM⟩ := Cond.laysAt hfound hk hffM (a' (.lays cls Bundle.tN "detailMessage" "Ljava/lang/String;") (by simp [Bundle.ownAtoms]))
  obtain ⟨tyB, dB, hdB, hdnB⟩ := Cond.laysAt hfound hk hffB (a' (.lays cls Bundle.tN "backtrace" "Ljava/lang/Object;") (by simp [Bundle.ownAtoms]))
  have bC := Cond.laysApart hdB hdC hdnB hdnC (by rw [hnB, Y.causeName]; decide)
  have bS := Cond.laysApart hdB hdS hdnB hdnS (by rw [hnB, Y.stackName]; decide)
  have bP := Cond.laysApart hdB hdP hdnB hdnP (by rw [hnB, Y.suppName]; decide)
  have hskip : SkipFacts T e.platform s (fun u => u) u0 ((preparedCellV T.toThrowableT (freshCell P1.m.cls kX) a u0 sen).withEntry W.cur) :=
    ⟨{ ci198 := ci198, i198 := i198, fBack := fB }, ⟨hk198, hg198, ha198, hsB⟩, by
      have := fresh_default (c := P1.m.cls) tyB
      rw [htB] at this
      simpa [preparedCellV, Cell.setSlot, Cell.withEntry, Array.getElem?_setIfInBounds, bC, bS, bP, bC.symm, bS.symm, bP.symm, defaultValue] using this, fun _ _ => rfl⟩
  obtain ⟨tm, methC, cdC, kC, vm₁, hnC, -, -, -, -, -, -, -, hW₁, st1⟩ := Steps.initColdS (tb := p.tables) (e := e) (below := below) (s := s) (U := W) X.here hexec X.warmed hpl hown (t := Bundle.initS cls) rfl rfl (Bundle.fit_spec hcls).2
    (a' (.methodLink own ic (Bundle.initS cls)) (by simp [Bundle.ownAtoms])) (h (.instanceMethod (Bundle.initS cls)) (by cases names <;> simp [Bundle.ownAtoms, Bundle.chainSAtoms, Bundle.passSAtoms])) (bytes := Bundle.six) (maxL := 2) (h (.code (Bundle.initS cls) Bundle.six 2 none) (by cases names <;> simp [Bundle.ownAtoms, Bundle.chainSAtoms, Bundle.passSAtoms]))
    (f := g) hg (a := a) (msg := msg) (rest := .ref a :: rest) hstack hd6
  cases Option.some.inj (hnC.symm.trans hP1m)
  have X₁ := X.noted hW₁
  obtain ⟨vm₂, X₂, st2⟩ := X₁.ctorMessageOffV hexec (g := { g with stack := .ref a :: rest }) hg hsize T L Z LZ M LM (P1 :: Ps)
    (fun P hP => by rcases List.mem_cons.mp hP with rfl | hP; exact L1; exact hL P hP) ⟨hlink1, hlink⟩ (u0 := u0) (sen := sen) (self := a) hmsg (cell := freshCell P1.m.cls kX) (cellS := cellS)
    hcell (fun _ => by simp) (by simp) rfl rfl hsel0 hselF hcellS hneS hknownS (by rw [hkeep _ (hout' _)]; exact hu0) (by rw [hkeep _ (hout' _)]; exact hsen)
    (Takes.of_laid hk hord tyC (by rw [Y.causeType]; rfl)) (Takes.of_laid hk hord tyS (by rw [Y.stackType]; exact fits_refV_array _ u0)) (Takes.of_laid hk hord tyP (by rw [Y.suppType]; exact fits_refV_object _ sen))
    (Takes.of_laid hk hord tyM (by rw [Y.msgType]; exact fits_refV_object _ ⟨msg, hmsg⟩)) Y.objLocals hskip htr [] hd6
    (by simp only [List.length_cons, hlen]; omega) (by simp only [List.length_cons, hlen]; exact hRlocals)
  have hlt : a < ((W.setVm vm₁).setVm vm₂).heap.size := (Array.getElem?_eq_some_iff.mp hcell).1
  refine ⟨(W.setVm vm₁).setVm vm₂, _, _, X₂, fun y hy => ?_, hlt, rfl, rfl, fun target hwalk => st1 _ (fun acts => ?_)⟩
  · simp only [List.mem_cons, List.not_mem_nil, or_false] at hy
    rcases hy with rfl | rfl | rfl | rfl | rfl <;> rfl
  · rw [doInvoke_state]
    exact st2 _ hwalk
set_option maxHeartbeats 1000000 in
theorem vx_ctorMade0 (X : Stand p l e R s m₀ args below meth c W locs cells slots) (hexec : p.tables.exec = Jvm.exec) (htr : e.platform.stackTraces = false) {own cls : String} {names : List String} {ic : Nat}
    (hown : s.vm.findClass own = some m₀.cls) (hcls : Bundle.fit cls = true) (hnames : ∀ n ∈ names, Bundle.fit n = true)
    (h : ∀ a ∈ Bundle.ownAtoms0 own ic cls names, a.before args s = true)
    (hlocs : ∀ x ∈ locs, ∀ cell, s.heap[x.base]? = some cell → cell.vm.isStatics = false)
    {a : Addr} {cX : ClassId} {kX : Class} (hfoundX : s.vm.findClass cls = some cX) (hkX : s.vm.classes[cX]? = some kX) (hcell : W.heap[a]? = some (freshCell cX kX)) (hnew : s.heap.size ≤ a)
    {g : JFrame} (hg : g.method = m₀) (hsize : g.locals.size = c.maxLocals) {rest : List Value} (hstack : g.stack = .ref a :: .ref a :: rest)
    (hd6 : decode c.code g.pc = .ok (.invokespecial ic, 3))
    (hRframes : names.length + 3 < R.frames) (hRlocals : 2 * g.monitorRoom + ((Value.ref a :: rest).map fun v => v.category).sum + (13 * (names.length + 1) + 41) ≤ R.locals) :
    ∃ (V : State) (ce : Cell) (L : List Loc), Stand p l e R s m₀ args below meth c (V.setCell a ce) (locs ++ L) cells slots ∧ (∀ y ∈ L, y.base = a) ∧ a < V.heap.size ∧ ce.cls = cX ∧ ce.vm = .none ∧
      ∀ target, Steps p.tables e below ((V.setCell a ce).setTop { g with stack := .ref a :: rest, pc := g.pc + 3 }) target → Steps p.tables e below (W.setTop g) target := by
  have howns : e.platform.frameOwnsMonitors = true := by rw [X.admits.platform]
  have hfin : e.platform.finalization = false := by rw [X.admits.platform]
  have hpl : e.platform.magicAccessors = ({} : Platform).magicAccessors := by rw [X.admits.platform]
  have a' : ∀ x, x ∈ Bundle.ownAtoms0 own ic cls names → x.holds args s none s [] = true := fun x hx => h x hx
  obtain ⟨T, Z, L, LZ, Y⟩ := ThrowableC.of_atoms (args := args) howns hfin hpl (fun x hx => h x (by simp [Bundle.ownAtoms0, hx]))
  obtain ⟨P1, Ps, hlen, L1, hL, hP1m, hlink1, hlink⟩ := Bundle.chain0 (args := args) hpl Y.init0 names cls hcls hnames (fun x hx => h x (by simp [Bundle.ownAtoms0, hx]))
  have hfound : s.vm.findClass cls = some P1.m.cls := findClass_of_methodNamed hP1m
  cases Option.some.inj (hfoundX.symm.trans hfound)
  obtain ⟨c1, kX', hc1, hk, hord, -, -, hn6⟩ := Cond.instantiable_spec (a' (.instantiable cls 6) (by simp [Bundle.ownAtoms0]))
  cases Option.some.inj (hc1.symm.trans hfound)
  cases Option.some.inj (hkX.symm.trans hk)
  have hsel0 : selectMethod e.platform s.vm P1.m.cls T.fill0 = .method T.fill0 := by
    obtain ⟨c2, r2, m2, q1, q2, q3, q4, -⟩ := Cond.selects_spec (a' (.selects cls Bundle.tFill0 Bundle.tFill0) (by simp [Bundle.ownAtoms0]))
    cases Option.some.inj (q1.symm.trans hfound)
    cases Option.some.inj (q2.symm.trans (State.methodFound?_of_named Y.fill0 (by decide)))
    cases Option.some.inj (q3.symm.trans Y.fill0)
    rw [Launch.admits_selectMethod X.admits]; exact q4
  have hselF : selectMethod e.platform s.vm P1.m.cls T.fill = .method T.fill := by
    obtain ⟨c2, r2, m2, q1, q2, q3, q4, -⟩ := Cond.selects_spec (a' (.selects cls Bundle.tFill Bundle.tFill) (by simp [Bundle.ownAtoms0]))
    cases Option.some.inj (q1.symm.trans hfound)
    cases Option.some.inj (q2.symm.trans (State.methodFound?_of_named Y.fill (by decide)))
    cases Option.some.inj (q3.symm.trans Y.fill)
    rw [Launch.admits_selectMethod X.admits]; exact q4
  obtain ⟨cellS0, hcS0, hiss⟩ := Y.statics
  obtain ⟨u0, hu0⟩ := Cond.staticRefV Y.unassigned L.unassignedStatic L.statics hcS0 hiss (a' (.isRef (.static Bundle.tN "UNASSIGNED_STACK" Bundle.steD)) (by simp [Bundle.ownAtoms0]))
  obtain ⟨sen, hsen⟩ := Cond.staticRefV Y.sentinel L.sentinelStatic L.statics hcS0 hiss (a' (.isRef (.static Bundle.tN "SUPPRESSED_SENTINEL" Bundle.listD)) (by simp [Bundle.ownAtoms0]))
  obtain ⟨ci198, i198, fB, hk198, hg198, ha198, hsB, -, hnB, htB, hffB⟩ := Cond.ownField (t := .object "java/lang/Object") Y.found L.cls (by decide +kernel) (a' (.fieldLink Bundle.tN 198 Bundle.tN "backtrace" "Ljava/lang/Object;") (by simp [Bundle.ownAtoms0])) (a' (.lays Bundle.tN Bundle.tN "backtrace" "Ljava/lang/Object;") (by simp [Bundle.ownAtoms0])) e.platform hpl
  obtain ⟨cellS, hcS', heS, -, hkeep⟩ := X.same.2.2.2.2.2 T.aS cellS0 hcS0
  have hcellS : W.heap[T.aS]? = some cellS := hcS'
  have hout' : ∀ i, (⟨T.aS, i⟩ : Loc) ∉ locs := fun i hmem => by
    have := hlocs _ hmem cellS0 hcS0
    rw [hiss] at this; cases this
  have hknownS : cellS.vm ≠ .unknown := by
    rw [heS]; intro hu
    rw [show cellS0.vm = .unknown from hu] at hiss
    cases hiss
  have hneS : T.aS ≠ a := Nat.ne_of_lt (Nat.lt_of_lt_of_le (Array.getElem?_eq_some_iff.mp hcS0).1 hnew)
  obtain ⟨iM, hffM⟩ := Y.msg
  obtain ⟨tyC, dC, hdC, hdnC⟩ := Cond.laysAt hfound hk Y.cause (a' (.lays cls Bundle.tN "cause" "Ljava/lang/Throwable;") (by simp [Bundle.ownAtoms0]))
  obtain ⟨tyS, dS, hdS, hdnS⟩ := Cond.laysAt hfound hk Y.stack (a' (.lays cls Bundle.tN "stackTrace" Bundle.steD) (by simp [Bundle.ownAtoms0]))
  obtain ⟨tyP, dP, hdP, hdnP⟩ := Cond.laysAt hfound hk Y.supp (a' (.lays cls Bundle.tN "suppressedExceptions" Bundle.listD) (by simp [Bundle.ownAtoms0]))
  obtain ⟨tyM, dM, hdM, hdnM⟩ := Cond.laysAt hfound hk hffM (a' (.lays cls Bundle.tN "detailMessage" "Ljava/lang/String;") (by simp [Bundle.ownAtoms0]))
  obtain ⟨tyB, dB, hdB, hdnB⟩ := Cond.laysAt hfound hk hffB (a' (.lays cls Bundle.tN "backtrace" "Ljava/lang/Object;") (by simp [Bundle.ownAtoms0]))
  have bC := Cond.laysApart hdB hdC hdnB hdnC (by rw [hnB, Y.causeName]; decide)
  have bS := Cond.laysApart hdB hdS hdnB hdnS (by rw [hnB, Y.stackName]; decide)
  have bP := Cond.laysApart hdB hdP hdnB hdnP (by rw [hnB, Y.suppName]; decide)
  have hskip : SkipFacts T e.platform s (fun u => u) u0 ((preparedCellV T.toThrowableT (freshCell P1.m.cls kX) a u0 sen).withEntry W.cur) :=
    ⟨{ ci198 := ci198, i198 := i198, fBack := fB }, ⟨hk198, hg198, ha198, hsB⟩, by
      have := fresh_default (c := P1.m.cls) tyB
      rw [htB] at this
      simpa [preparedCellV, Cell.setSlot, Cell.withEntry, Array.getElem?_setIfInBounds, bC, bS, bP, bC.symm, bS.symm, bP.symm, defaultValue] using this, fun _ _ => rfl⟩
  obtain ⟨tm, methC, cdC, kC, vm₁, hnC, -, -, -, -, -, -, -, hW₁, st1⟩ := Steps.initCold (tb := p.tables) (e := e) (below := below) (s := s) (U := W) X.here hexec X.warmed hpl hown (t := Bundle.init0 cls) rfl rfl (Bundle.fit_spec hcls).2
    (a' (.methodLink own ic (Bundle.init0 cls)) (by simp [Bundle.ownAtoms0])) (h (.instanceMethod (Bundle.init0 cls)) (by cases names <;> simp [Bundle.ownAtoms0, Bundle.chain0Atoms, Bundle.passAtoms])) (bytes := Bundle.five) (maxL := 1) (h (.code (Bundle.init0 cls) Bundle.five 1 none) (by cases names <;> simp [Bundle.ownAtoms0, Bundle.chain0Atoms, Bundle.passAtoms]))
    (f := g) hg (a := a) (rest := .ref a :: rest) hstack hd6
  cases Option.some.inj (hnC.symm.trans hP1m)
  have X₁ := X.noted hW₁
  obtain ⟨vm₂, X₂, st2⟩ := X₁.ctorPlainOffV hexec (g := { g with stack := .ref a :: rest }) hg hsize T L Z LZ (P1 :: Ps)
    (fun P hP => by rcases List.mem_cons.mp hP with rfl | hP; exact L1; exact hL P hP) ⟨hlink1, hlink⟩ (u0 := u0) (sen := sen) (self := a) (cell := freshCell P1.m.cls kX) (cellS := cellS)
    hcell (fun _ => by simp) (by simp) rfl rfl hsel0 hselF hcellS hneS hknownS (by rw [hkeep _ (hout' _)]; exact hu0) (by rw [hkeep _ (hout' _)]; exact hsen)
    (Takes.of_laid hk hord tyC (by rw [Y.causeType]; rfl)) (Takes.of_laid hk hord tyS (by rw [Y.stackType]; exact fits_refV_array _ u0)) (Takes.of_laid hk hord tyP (by rw [Y.suppType]; exact fits_refV_object _ sen)) Y.objLocals hskip htr [] hd6
    (by simp only [List.length_cons, hlen]; omega) (by simp only [List.length_cons, hlen]; exact hRlocals)
  have hlt : a < ((W.setVm vm₁).setVm vm₂).heap.size := (Array.getElem?_eq_some_iff.mp hcell).1
  refine ⟨(W.setVm vm₁).setVm vm₂, _, _, X₂, fun y hy => ?_, hlt, rfl, rfl, fun target hwalk => st1 _ (fun acts => ?_)⟩
  · simp only [List.mem_cons, List.not_mem_nil, or_false] at hy
    rcases hy with rfl | rfl | rfl | rfl <;> rfl
  · rw [doInvoke_state]
    exact st2 _ hwalk
end VXK
section VXK2
variable {p : Program} {l : Launch} {e : Env} {R : Room} {s : State} {m : MethodId} {args : Array Value} {below : List Frame} {meth : Method} {c : Code} {H : Heap} {locs : List Loc} {cells slots : Nat} {Q : State → Prop}
variable {ls : Array Slot} {rest : List Value} {D : va_G} {cl : List vw_C} {tys : List (ClassId × FieldType)} {ws : va_W}
/-- 'new E("text")' that isn't thrown at once: the object goes on the stack -/
theorem vx_makeS {cc : ByteArray} {pc : Nat} (hexec : p.tables.exec = Jvm.exec) (hb : c.code = cc) (hl : l.stackTraces = false) {own cls text : String} {names : List String} {ik is ic sa ci : Nat} {A : Nat → Prop} {T0 : u_T}
    (hown : s.vm.findClass own = some m.cls) (hcls : Bundle.fit cls = true) (hnames : ∀ n ∈ names, Bundle.fit n = true)
    (hk : (Cond.classLink own ik cls).before args s = true) (hini : (Cond.initialized cls).before args s = true) (hstr : vk_R own is text sa s) (hat : ∀ w ∈ vx_atS own ic cls names, w.before args s = true)
    (hgood : ∀ w ∈ Cond.classLink own ik cls :: Cond.initialized cls :: vx_atS own ic cls names, vx_ot w = true)
    (hU : vx_Zq Bundle.tN "UNASSIGNED_STACK" Bundle.steD A s s.heap) (hN : vx_Zq Bundle.tN "SUPPRESSED_SENTINEL" Bundle.listD A s s.heap) (hS : va_S A s.heap H locs) (hsize : ls.size = c.maxLocals)
    (d0 : decode cc pc = .ok (.new ik, 3)) (d3 : decode cc (pc + 3) = .ok (.dup, 1)) (d4 : decode cc (pc + 4) = .ok (.ldc is, 2)) (d6 : decode cc (pc + 6) = .ok (.invokespecial ic, 3))
    (hK : va_K D cl tys s) (hP : va_P D cl ws H) (hD : va_D A ws) (hA : ∀ q, s.heap.size ≤ q → A q) (hc : cl[ci]? = some (cls, T0, 0))
    (hRframes : names.length + 3 < R.frames) (hRlocals : (rest.map fun v => v.category).sum + (13 * (names.length + 1) + 43) ≤ R.locals) (hRcells : cells + 1 ≤ R.cells) (hRslots : slots + 6 ≤ R.slots)
    (kk : ∀ (q : Nat) (H1 : Heap), va_P D cl (ws ++ [(q, .inr (ci, []))]) H1 → va_D A (ws ++ [(q, .inr (ci, []))]) → va_S A s.heap H1 locs → W p l e R s m args below meth c H1 locs (cells + 1) (slots + 6) Q (F0 m (pc + 9) ls (.ref q :: rest))) :
    W p l e R s m args below meth c H locs cells slots Q (F0 m pc ls rest) := by
  intro T hT X
  subst hT
  have htr : e.platform.stackTraces = false := (show e.platform.stackTraces = l.stackTraces by rw [X.admits.platform]).trans hl
  have Y := vx_rebase X (R' := { frames := R.frames, locals := R.locals, cells := 1, slots := 6 }) (Nat.le_refl _) (Nat.le_refl _) hRcells hRslots
  obtain ⟨s', hA'⟩ : ∃ z, z = (T.setVm s.vm).setFrames (.invoking m args :: below) := ⟨_, rfl⟩
  rw [← hA'] at Y
  have hvm : s'.vm = s.vm := by rw [hA']; rfl
  have hhp : s'.heap = T.heap := by rw [hA']; rfl
  have hW0 : s.WarmedH s'.vm := by rw [hvm]; exact State.WarmedH.refl s
  have hat' : ∀ w ∈ vx_atS own ic cls names, w.before args s' = true := fun w hw => vx_ot_at hW0 hvm.symm (hgood w (List.mem_cons_of_mem _ (List.mem_cons_of_mem _ hw))) (hat w hw)
  have hk' : (Cond.classLink own ik cls).before args s' = true := vx_ot_at hW0 hvm.symm (hgood _ List.mem_cons_self) hk
  have hini' : (Cond.initialized cls).before args s' = true := vx_ot_at hW0 hvm.symm (hgood _ (List.mem_cons_of_mem _ List.mem_cons_self)) hini
  have hU' : vx_Zq Bundle.tN "UNASSIGNED_STACK" Bundle.steD A s' s'.heap := by rw [hhp]; exact vx_Zq.moved hW0.alike (hU.kept hS.2.1)
  have hN' : vx_Zq Bundle.tN "SUPPRESSED_SENTINEL" Bundle.listD A s' s'.heap := by rw [hhp]; exact vx_Zq.moved hW0.alike (hN.kept hS.2.1)
  have h : ∀ w ∈ Bundle.ownAtoms own ic cls names, w.before args s' = true := vx_own hat' (vx_isRefq hU'.1) (vx_isRefq hN'.1) hU'.2.word hN'.2.word
  have hown' : s'.vm.findClass own = some m.cls := by rw [hvm]; exact hown
  have hins : (Cond.instantiable cls 6).before args s' = true := h _ (by simp [Bundle.ownAtoms])
  obtain ⟨vm₁, cX, kX, hfX, hkX, -, -, X₁, st1⟩ := Y.newCold hexec (own := own) (C := cls) (index := ik) (n := 6) hown' hk' hins hini'
    (g := F0 m pc ls rest) rfl (by rw [hb]; exact d0) (Nat.le_refl _) (Nat.le_refl _)
  generalize hT1 : (T.setVm vm₁).pushCell { cls := cX, slots := kX.instanceTypes.map defaultValue, vm := .none } = T1 at X₁ st1
  have hcat : (Value.ref T.heap.size).category = 1 := rfl
  have hcellA : T1.heap[T.heap.size]? = some (freshCell cX kX) := by rw [← hT1]; exact State.heap_pushCell_size _ _
  have d3' : decode c.code (pc + 3) = .ok (.dup, 1) := by rw [hb]; exact d3
  have d4' : decode c.code (pc + 4) = .ok (.ldc is, 2) := by rw [hb]; exact d4
  have hstr' : vk_R own is text sa s' := vk_R.warm hW0 hstr
  obtain ⟨V, ce, L, Z, hL, hlt, hcl9, hvm9, st⟩ := vx_ctorMadeS X₁ hexec htr (own := own) (cls := cls) (names := names) (ic := ic) hown' hcls hnames h (fun x hx => nomatch hx) hfX hkX hcellA (by rw [hhp]; exact Nat.le_refl _) (msg := .ref sa) rfl
    (g := { method := m, pc := pc + 6, locals := ls, stack := .ref sa :: .ref T.heap.size :: .ref T.heap.size :: rest, locked := none }) rfl hsize (rest := rest) rfl
    (by rw [hb]; exact d6) hRframes (by simp only [List.map_cons, List.sum_cons, hcat]; omega)
  have Z0 := Stand.forget (locs := []) Z (fun y hy => by rw [hL y hy, hhp]; exact Nat.le_refl _)
  obtain ⟨f1, f2⟩ := vx_frame Z0.same
  rw [hhp] at f1 f2
  have hcid : ce.cls = D.1 ci := by
    rw [hcl9]
    have h1 := (hK.1 ci _ hc).2.1
    rw [hvm] at hfX
    exact Option.some.inj (hfX.symm.trans h1)
  have hh : (V.setCell T.heap.size ce).heap[T.heap.size]? = some ce := heapAt_setCell_self (s := V) ce hlt
  subst hA'
  have X5 := vx_back9 X Y Z0
  have X6 : Stand p l e R s m args below meth c (V.setCell T.heap.size ce) locs (cells + 1) (slots + 6) := { X5 with same := X5.same.mono (by omega) (by omega) }
  have hk9 : ∀ (k : Nat) (x : Nat × va_E), ws[k]? = some x → (V.setCell T.heap.size ce).heap[x.1]? = T.heap[x.1]? := fun k x hx => f2 x.1 ((hP k x hx).lt) (fun z hz => nomatch hz)
  obtain ⟨t, a1, b1⟩ := kk T.heap.size (V.setCell T.heap.size ce).heap ((hP.kept hk9).app (fun k x hx => by
      have hz : k < 1 := (List.getElem?_eq_some_iff.mp hx).1
      rw [show k = 0 by omega] at hx
      cases hx
      exact ⟨_, hc, ce, hh, hcid, hvm9, fun k hk => absurd hk (Nat.not_lt_zero k)⟩)) (hD.push hP rfl (hA _ hS.1)) ⟨Nat.le_trans hS.1 f1, fun q h1 h2 => (f2 q (Nat.lt_of_lt_of_le h1 hS.1) (fun z hz => nomatch hz)).trans (hS.2.1 q h1 h2), hS.2.2⟩ _ rfl X6
  refine ⟨t, st1 _ ?_, b1⟩
  show Steps p.tables e below (T1.setTop { method := m, pc := pc + 3, locals := ls, stack := .ref T.heap.size :: rest, locked := none }) _
  jvm_step X₁.here [X₁.here.top, hexec, d3', Value.category]
  exact X₁.ldcString hexec (own := own) (text := text) (index := is) (a := sa) hown' hstr'.1 hstr'.2
    (g := { method := m, pc := pc + 4, locals := ls, stack := .ref T.heap.size :: .ref T.heap.size :: rest, locked := none }) rfl d4' _ (st _ a1)
/-- 'new E()' that isn't thrown at once: the object goes on the stack -/
theorem vx_make0 {cc : ByteArray} {pc : Nat} (hexec : p.tables.exec = Jvm.exec) (hb : c.code = cc) (hl : l.stackTraces = false) {own cls : String} {names : List String} {ik ic ci : Nat} {A : Nat → Prop} {T0 : u_T}
    (hown : s.vm.findClass own = some m.cls) (hcls : Bundle.fit cls = true) (hnames : ∀ n ∈ names, Bundle.fit n = true)
    (hk : (Cond.classLink own ik cls).before args s = true) (hini : (Cond.initialized cls).before args s = true) (hat : ∀ w ∈ vx_at0 own ic cls names, w.before args s = true)
    (hgood : ∀ w ∈ Cond.classLink own ik cls :: Cond.initialized cls :: vx_at0 own ic cls names, vx_ot w = true)
    (hU : vx_Zq Bundle.tN "UNASSIGNED_STACK" Bundle.steD A s s.heap) (hN : vx_Zq Bundle.tN "SUPPRESSED_SENTINEL" Bundle.listD A s s.heap) (hS : va_S A s.heap H locs) (hsize : ls.size = c.maxLocals)
    (d0 : decode cc pc = .ok (.new ik, 3)) (d3 : decode cc (pc + 3) = .ok (.dup, 1)) (d4 : decode cc (pc + 4) = .ok (.invokespecial ic, 3))
    (hK : va_K D cl tys s) (hP : va_P D cl ws H) (hD : va_D A ws) (hA : ∀ q, s.heap.size ≤ q → A q) (hc : cl[ci]? = some (cls, T0, 0))
    (hRframes : names.length + 3 < R.frames) (hRlocals : (rest.map fun v => v.category).sum + (13 * (names.length + 1) + 42) ≤ R.locals) (hRcells : cells + 1 ≤ R.cells) (hRslots : slots + 6 ≤ R.slots)
    (kk : ∀ (q : Nat) (H1 : Heap), va_P D cl (ws ++ [(q, .inr (ci, []))]) H1 → va_D A (ws ++ [(q, .inr (ci, []))]) → va_S A s.heap H1 locs → W p l e R s m args below meth c H1 locs (cells + 1) (slots + 6) Q (F0 m (pc + 7) ls (.ref q :: rest))) :
    W p l e R s m args below meth c H locs cells slots Q (F0 m pc ls rest) := by
  intro T hT X
  subst hT
  have htr : e.platform.stackTraces = false := (show e.platform.stackTraces = l.stackTraces by rw [X.admits.platform]).trans hl
  have Y := vx_rebase X (R' := { frames := R.frames, locals := R.locals, cells := 1, slots := 6 }) (Nat.le_refl _) (Nat.le_refl _) hRcells hRslots
  obtain ⟨s', hA'⟩ : ∃ z, z = (T.setVm s.vm).setFrames (.invoking m args :: below) := ⟨_, rfl⟩
  rw [← hA'] at Y
  have hvm : s'.vm = s.vm := by rw [hA']; rfl
  have hhp : s'.heap = T.heap := by rw [hA']; rfl
  have hW0 : s.WarmedH s'.vm := by rw [hvm]; exact State.WarmedH.refl s
  have hat' : ∀ w ∈ vx_at0 own ic cls names, w.before args s' = true := fun w hw => vx_ot_at hW0 hvm.symm (hgood w (List.mem_cons_of_mem _ (List.mem_cons_of_mem _ hw))) (hat w hw)
  have hk' : (Cond.classLink own ik cls).before args s' = true := vx_ot_at hW0 hvm.symm (hgood _ List.mem_cons_self) hk
  have hini' : (Cond.initialized cls).before args s' = true := vx_ot_at hW0 hvm.symm (hgood _ (List.mem_cons_of_mem _ List.mem_cons_self)) hini
  have hU' : vx_Zq Bundle.tN "UNASSIGNED_STACK" Bundle.steD A s' s'.heap := by rw [hhp]; exact vx_Zq.moved hW0.alike (hU.kept hS.2.1)
  have hN' : vx_Zq Bundle.tN "SUPPRESSED_SENTINEL" Bundle.listD A s' s'.heap := by rw [hhp]; exact vx_Zq.moved hW0.alike (hN.kept hS.2.1)
  have h : ∀ w ∈ Bundle.ownAtoms0 own ic cls names, w.before args s' = true := vx_own hat' (vx_isRefq hU'.1) (vx_isRefq hN'.1) hU'.2.word hN'.2.word
  have hown' : s'.vm.findClass own = some m.cls := by rw [hvm]; exact hown
  have hins : (Cond.instantiable cls 6).before args s' = true := h _ (by simp [Bundle.ownAtoms0])
  obtain ⟨vm₁, cX, kX, hfX, hkX, -, -, X₁, st1⟩ := Y.newCold hexec (own := own) (C := cls) (index := ik) (n := 6) hown' hk' hins hini'
    (g := F0 m pc ls rest) rfl (by rw [hb]; exact d0) (Nat.le_refl _) (Nat.le_refl _)
  generalize hT1 : (T.setVm vm₁).pushCell { cls := cX, slots := kX.instanceTypes.map defaultValue, vm := .none } = T1 at X₁ st1
  have hcat : (Value.ref T.heap.size).category = 1 := rfl
  have hcellA : T1.heap[T.heap.size]? = some (freshCell cX kX) := by rw [← hT1]; exact State.heap_pushCell_size _ _
  have d3' : decode c.code (pc + 3) = .ok (.dup, 1) := by rw [hb]; exact d3
  obtain ⟨V, ce, L, Z, hL, hlt, hcl9, hvm9, st⟩ := vx_ctorMade0 X₁ hexec htr (own := own) (cls := cls) (names := names) (ic := ic) hown' hcls hnames h (fun x hx => nomatch hx) hfX hkX hcellA (by rw [hhp]; exact Nat.le_refl _)
    (g := { method := m, pc := pc + 4, locals := ls, stack := .ref T.heap.size :: .ref T.heap.size :: rest, locked := none }) rfl hsize (rest := rest) rfl
    (by rw [hb]; exact d4) hRframes (by simp only [List.map_cons, List.sum_cons, hcat]; omega)
  have Z0 := Stand.forget (locs := []) Z (fun y hy => by rw [hL y hy, hhp]; exact Nat.le_refl _)
  obtain ⟨f1, f2⟩ := vx_frame Z0.same
  rw [hhp] at f1 f2
  have hcid : ce.cls = D.1 ci := by
    rw [hcl9]
    have h1 := (hK.1 ci _ hc).2.1
    rw [hvm] at hfX
    exact Option.some.inj (hfX.symm.trans h1)
  have hh : (V.setCell T.heap.size ce).heap[T.heap.size]? = some ce := heapAt_setCell_self (s := V) ce hlt
  subst hA'
  have X5 := vx_back9 X Y Z0
  have X6 : Stand p l e R s m args below meth c (V.setCell T.heap.size ce) locs (cells + 1) (slots + 6) := { X5 with same := X5.same.mono (by omega) (by omega) }
  have hk9 : ∀ (k : Nat) (x : Nat × va_E), ws[k]? = some x → (V.setCell T.heap.size ce).heap[x.1]? = T.heap[x.1]? := fun k x hx => f2 x.1 ((hP k x hx).lt) (fun z hz => nomatch hz)
  obtain ⟨t, a1, b1⟩ := kk T.heap.size (V.setCell T.heap.size ce).heap ((hP.kept hk9).app (fun k x hx => by
      have hz : k < 1 := (List.getElem?_eq_some_iff.mp hx).1
      rw [show k = 0 by omega] at hx
      cases hx
      exact ⟨_, hc, ce, hh, hcid, hvm9, fun k hk => absurd hk (Nat.not_lt_zero k)⟩)) (hD.push hP rfl (hA _ hS.1)) ⟨Nat.le_trans hS.1 f1, fun q h1 h2 => (f2 q (Nat.lt_of_lt_of_le h1 hS.1) (fun z hz => nomatch hz)).trans (hS.2.1 q h1 h2), hS.2.2⟩ _ rfl X6
  refine ⟨t, st1 _ ?_, b1⟩
  show Steps p.tables e below (T1.setTop { method := m, pc := pc + 3, locals := ls, stack := .ref T.heap.size :: rest, locked := none }) _
  jvm_step X₁.here [X₁.here.top, hexec, d3', Value.category]
  exact st _ a1
/-- 'throw x' of an object that was made before -/
theorem vx_athrow {cc : ByteArray} {pc : Nat} (hexec : p.tables.exec = Jvm.exec) (hb : c.code = cc) {q : Addr} (hdg : decode cc pc = .ok (.athrow, 1)) (k : vx_W p l e R s m args below meth c H locs cells slots Q (F0 m pc ls rest) q) : W p l e R s m args below meth c H locs cells slots Q (F0 m pc ls (.ref q :: rest)) := by
  intro T hT X
  obtain ⟨t, st, hq⟩ := k T hT X
  refine ⟨t, ?_, hq⟩
  have hdg' : decode c.code pc = .ok (.athrow, 1) := by rw [hb]; exact hdg
  jvm_step X.here [X.here.top, hexec, hdg', athrow.wp_sem]
  exact st
end VXK2
/-! ===== END ===== -/
/-! ===== BEGIN a constructor that throws (launches without stack traces) ===== -/
section VXIA
variable {p : Program} {l : Launch} {e : Env} {R : Room} {s : State} {m : MethodId} {args : Array Value} {below : List Frame} {meth : Method} {c : Code} {T : State} {locs : List Loc} {cells slots : Nat}
theorem vx_callI (X : Stand p l e R s m args below meth c T locs cells slots) (hexec : p.tables.exec = Jvm.exec) {own : String} {index : Nat} {y : MethodName} {bytes : ByteArray} {maxL : Nat}
    (hown : s.vm.findClass own = some m.cls) (hy1 : y.name = "<init>") (hlink : (Cond.methodLink own index y).before args s = true) (hinst : (Cond.instanceMethod y).before args s = true)
    (hcode : (Cond.code y bytes maxL none).before args s = true) (hy : y.cls ≠ "java/lang/invoke/MethodHandle" ∧ y.cls ≠ "java/lang/invoke/VarHandle")
    {W9 : Nat} {Pre : Pt → Array Value → Prop} {Post : Pt → Array Value → Option Value → Pt → Prop} {PostX : Pt → Array Value → Addr → Pt → Prop} (hK : vx_Back l R p e below s args y 3 W9 Pre Post PostX)
    {g : JFrame} (hg : g.method = m) (hsize : g.locals.size = c.maxLocals) {a : Addr} {argsL rest : List Value} (hlen : ∀ sig, parseMethodDescriptor y.desc = some sig → argsL.length = sig.parameters.length)
    (hstack : g.stack = argsL.reverse ++ .ref a :: rest) (hW : 2 * g.monitorRoom + (rest.map fun v => v.category).sum ≤ W9) (hdg : decode c.code g.pc = .ok (.invokespecial index, 3))
    (hpre : ∀ vm₁, s.WarmedH vm₁ → Pre ⟨T.setVm vm₁, locs, cells, slots⟩ (Value.ref a :: argsL).toArray) :
    (∃ (v : Option Value) (vm₁ : Vm) (B : Pt), s.WarmedH vm₁ ∧ Stand p l e R s m args below meth c B.U B.locs B.cells B.slots ∧ Post ⟨T.setVm vm₁, locs, cells, slots⟩ (Value.ref a :: argsL).toArray v B ∧
      ∀ target, Steps p.tables e below (B.U.setTop { g with pc := g.pc + 3, stack := v.toList ++ rest }) target → Steps p.tables e below (T.setTop g) target) ∨
    (∃ (q : Addr) (vm₁ : Vm) (B : Pt), s.WarmedH vm₁ ∧ Stand p l e R s m args below meth c B.U B.locs B.cells B.slots ∧ PostX ⟨T.setVm vm₁, locs, cells, slots⟩ (Value.ref a :: argsL).toArray q B ∧
      Steps p.tables e below (T.setTop g) ((B.U.setTop { g with stack := rest }).pushFrame (.throwing q))) := by
  subst hg
  have hpl : e.platform.magicAccessors = ({} : Platform).magicAccessors := by rw [X.admits.platform]
  obtain ⟨mk, methM, cM, kP, vm₁, hnamed, hmethM, hcodeM, -, hlocalsM, -, hkP, -, hW₁, hstep₁⟩ := Steps.initColdArgs (e := e) X.here hexec X.warmed hpl hown hy1 hy hlink hinst hcode (f := g) rfl hlen hstack hdg
  have X₁ := X.noted hW₁
  rcases hK g.method meth c ⟨T.setVm vm₁, locs, cells, slots⟩ { g with stack := rest } (.invokespecial index) mk (Value.ref a :: argsL).toArray X₁ rfl hsize hdg hW (X₁.named hnamed) (hpre vm₁ X₁.warmed) with ⟨v, B, X', hpost, hsteps⟩ | ⟨q, B, X', hpost, hsteps⟩
  · exact Or.inl ⟨v, vm₁, B, X₁.warmed, X', hpost, fun target h => hstep₁ _ fun acts => by rw [doInvoke_state]; exact hsteps.trans h⟩
  · exact Or.inr ⟨q, vm₁, B, X₁.warmed, X', hpost, hstep₁ _ fun acts => by rw [doInvoke_state]; exact hsteps⟩
end VXIA
section VXIB
variable {p : Program} {l : Launch} {e : Env} {R : Room} {s : State} {m : MethodId} {args : Array Value} {below : List Frame} {meth : Method} {c : Code} {H : Heap} {locs : List Loc} {cells slots : Nat}
variable {y : MethodName} {bytes cc : ByteArray} {maxL nL mc ms n index : Nat} {ret : Option FieldType} {ws : List Cond} {rm : Room} {Pc : Array Value → State → Prop} {Qc : Array Value → State → Outcome → State → Prop} {XC : String → State → State → Prop} {free : Addr → Prop} {Ts : List Cond} {own C : String} {b : Addr} {As rest : List Value} {g : JFrame}
theorem vx_runI (S : CallFix p m c cc nL s args Ts own) (hM : vx_Met l y ws rm Pc Qc XC mc ms free) (cw : CallB R s args own index y bytes maxL none ws rm mc ms n ∧ y.name = "<init>" ∧ (Cond.instanceMethod y).before args s = true) (hp : PreS s H Pc (.ref b :: As))
    (hg : g.method = m) (hn : As.length = n) (hsize : g.locals.size = nL) (hstack : g.stack = As.reverse ++ .ref b :: rest) (hW : 2 * g.monitorRoom + (rest.map fun v => v.category).sum ≤ 8) (hdg : decode cc g.pc = .ok (.invokespecial index, 3)) (hf : cells + mc ≤ R.cells ∧ slots + ms ≤ R.slots) :
    vx_Run p l e R s m args below meth c H locs cells slots mc ms g rest (Qc (Value.ref b :: As).toArray) XC free := by
  have hK : vx_Back l R p e below s args y 3 8 (PreOf R mc ms Pc) (PostOf Qc mc ms free) (vx_Post XC mc ms free) := vx_callBack cw.1 hM hp.1
  obtain ⟨⟨-, -, -, -, -, -, hcode, -, hy, hlen, hl⟩, hy1, hin⟩ := cw
  obtain ⟨hx, hb, hml, ho, -⟩ := S
  have hPc := hp.2
  intro T hT X
  rcases vx_callI X hx (bytes := bytes) (maxL := maxL) ho hy1 hl hin hcode hy hK hg (hsize.trans hml.symm) (a := b) (argsL := As) (rest := rest) (fun sig h => hn.trans (hlen sig h)) hstack hW (by rw [hb]; exact hdg)
    (fun vm₁ hW₁ => ⟨hf.1, hf.2, hPc (T.setVm vm₁) hT hW₁⟩) with ⟨v, vm₁, ⟨U', l2, c2, s2⟩, hW₁, X', ⟨g', mk, t, L, e1, e2, hq, h1, hL, h2, h3⟩, st⟩ | ⟨q, vm₁, ⟨U', l2, c2, s2⟩, hW₁, X', ⟨g', mk, t, L, E, ce, e1, e2, hq, hce, hcv, hcl, h1, hL, h2, h3⟩, st⟩
  · dsimp only [Pt.U, Pt.locs, Pt.cells, Pt.slots] at X' e1 e2 h1 h2 h3 st
    subst h1; subst h2; subst h3
    exact Or.inl ⟨v, (T.setVm vm₁).calling g' mk (Value.ref b :: As).toArray, t, U', L, hT, X', hL, e1, e2, hq, st⟩
  · dsimp only [Pt.U, Pt.locs, Pt.cells, Pt.slots] at X' e1 e2 h1 h2 h3 st hcl
    subst h1; subst h2; subst h3
    exact Or.inr ⟨q, (T.setVm vm₁).calling g' mk (Value.ref b :: As).toArray, t, U', L, E, ce, hT, X', hL, e1, e2, hq, hce, hcv, vx_cls hW₁ hcl, st⟩
end VXIB
/-! ===== END ===== -/
/-! ===== BEGIN a private constructor of a nest mate that throws ===== -/
section VXIC
variable {p : Program} {l : Launch} {e : Env} {R : Room} {s : State} {m : MethodId} {args : Array Value} {below : List Frame} {meth : Method} {c : Code} {T : State} {locs : List Loc} {cells slots : Nat}
theorem vx_callIN (X : Stand p l e R s m args below meth c T locs cells slots) (hexec : p.tables.exec = Jvm.exec) {own : String} {index : Nat} {host : String} {y : MethodName} {bytes : ByteArray} {maxL : Nat}
    (hown : s.vm.findClass own = some m.cls) (hy1 : y.name = "<init>") (hlink : (Cond.methodLinkNest own index y host).before args s = true) (hinst : (Cond.instanceMethod y).before args s = true)
    (hcode : (Cond.code y bytes maxL none).before args s = true) (hy : y.cls ≠ "java/lang/invoke/MethodHandle" ∧ y.cls ≠ "java/lang/invoke/VarHandle")
    {W9 : Nat} {Pre : Pt → Array Value → Prop} {Post : Pt → Array Value → Option Value → Pt → Prop} {PostX : Pt → Array Value → Addr → Pt → Prop} (hK : vx_Back l R p e below s args y 3 W9 Pre Post PostX)
    {g : JFrame} (hg : g.method = m) (hsize : g.locals.size = c.maxLocals) {a : Addr} {argsL rest : List Value} (hlen : ∀ sig, parseMethodDescriptor y.desc = some sig → argsL.length = sig.parameters.length)
    (hstack : g.stack = argsL.reverse ++ .ref a :: rest) (hW : 2 * g.monitorRoom + (rest.map fun v => v.category).sum ≤ W9) (hdg : decode c.code g.pc = .ok (.invokespecial index, 3))
    (hpre : ∀ vm₁, s.WarmedH vm₁ → Pre ⟨T.setVm vm₁, locs, cells, slots⟩ (Value.ref a :: argsL).toArray) :
    (∃ (v : Option Value) (vm₁ : Vm) (B : Pt), s.WarmedH vm₁ ∧ Stand p l e R s m args below meth c B.U B.locs B.cells B.slots ∧ Post ⟨T.setVm vm₁, locs, cells, slots⟩ (Value.ref a :: argsL).toArray v B ∧
      ∀ target, Steps p.tables e below (B.U.setTop { g with pc := g.pc + 3, stack := v.toList ++ rest }) target → Steps p.tables e below (T.setTop g) target) ∨
    (∃ (q : Addr) (vm₁ : Vm) (B : Pt), s.WarmedH vm₁ ∧ Stand p l e R s m args below meth c B.U B.locs B.cells B.slots ∧ PostX ⟨T.setVm vm₁, locs, cells, slots⟩ (Value.ref a :: argsL).toArray q B ∧
      Steps p.tables e below (T.setTop g) ((B.U.setTop { g with stack := rest }).pushFrame (.throwing q))) := by
  subst hg
  have hpl : e.platform.magicAccessors = ({} : Platform).magicAccessors := by rw [X.admits.platform]
  obtain ⟨mk, methM, cM, kP, vm₁, hnamed, hmethM, hcodeM, -, hlocalsM, -, hkP, -, hW₁, hstep₁⟩ := Steps.initColdArgsNest (e := e) X.here hexec X.warmed hpl hown hy1 hy hlink hinst hcode (f := g) rfl hlen hstack hdg
  have X₁ := X.noted hW₁
  rcases hK g.method meth c ⟨T.setVm vm₁, locs, cells, slots⟩ { g with stack := rest } (.invokespecial index) mk (Value.ref a :: argsL).toArray X₁ rfl hsize hdg hW (X₁.named hnamed) (hpre vm₁ X₁.warmed) with ⟨v, B, X', hpost, hsteps⟩ | ⟨q, B, X', hpost, hsteps⟩
  · exact Or.inl ⟨v, vm₁, B, X₁.warmed, X', hpost, fun target h => hstep₁ _ fun acts => by rw [doInvoke_state]; exact hsteps.trans h⟩
  · exact Or.inr ⟨q, vm₁, B, X₁.warmed, X', hpost, hstep₁ _ fun acts => by rw [doInvoke_state]; exact hsteps⟩
end VXIC
section VXID
variable {p : Program} {l : Launch} {e : Env} {R : Room} {s : State} {m : MethodId} {args : Array Value} {below : List Frame} {meth : Method} {c : Code} {H : Heap} {locs : List Loc} {cells slots : Nat}
theorem vx_runIN {y : MethodName} {bytes cc : ByteArray} {maxL nL mc ms n index : Nat} {ws : List Cond} {rm : Room} {Pc : Array Value → State → Prop} {Qc : Array Value → State → Outcome → State → Prop} {XC : String → State → State → Prop} {free : Addr → Prop} {Ts : List Cond} {own host : String} {b : Addr} {As rest : List Value} {g : JFrame}
    (S : CallFix p m c cc nL s args Ts own) (hM : vx_Met l y ws rm Pc Qc XC mc ms free) (cw : va_CN R s args own index y host bytes maxL none ws rm mc ms n ∧ y.name = "<init>" ∧ (Cond.instanceMethod y).before args s = true) (hp : PreS s H Pc (.ref b :: As))
    (hg : g.method = m) (hn : As.length = n) (hsize : g.locals.size = nL) (hstack : g.stack = As.reverse ++ .ref b :: rest) (hW : 2 * g.monitorRoom + (rest.map fun v => v.category).sum ≤ 8) (hdg : decode cc g.pc = .ok (.invokespecial index, 3)) (hf : cells + mc ≤ R.cells ∧ slots + ms ≤ R.slots) :
    vx_Run p l e R s m args below meth c H locs cells slots mc ms g rest (Qc (Value.ref b :: As).toArray) XC free := by
  obtain ⟨⟨⟨hrc, hrs, hfr, hlo, hws, hcw⟩, hcode, hini, hy, hlen, hl⟩, hx1, hx2⟩ := cw
  have hK : vx_Back l R p e below s args y 3 8 (PreOf R mc ms Pc) (PostOf Qc mc ms free) (vx_Post XC mc ms free) := vx_back (bytes := bytes) (maxL := maxL) (ret := none) hM hp.1 hrc hrs hfr hlo hws hcw (fun a' U hW => word_at hW (Or.inl (by first | rfl | simp [Cond.onTables, Cond.keeps, Cond.steady])) hini)
  obtain ⟨hx, hb, hml, ho, -⟩ := S
  have hPc := hp.2
  intro T hT X
  rcases vx_callIN X hx (bytes := bytes) (maxL := maxL) ho hx1 hl hx2 hcode hy hK hg (hsize.trans hml.symm) (a := b) (argsL := As) (rest := rest) (fun sig h => hn.trans (hlen sig h)) hstack hW (by rw [hb]; exact hdg)
    (fun vm₁ hW₁ => ⟨hf.1, hf.2, hPc (T.setVm vm₁) hT hW₁⟩) with ⟨v, vm₁, ⟨U', l2, c2, s2⟩, hW₁, X', ⟨g', mk, t, L, e1, e2, hq, h1, hL, h2, h3⟩, st⟩ | ⟨q, vm₁, ⟨U', l2, c2, s2⟩, hW₁, X', ⟨g', mk, t, L, E, ce, e1, e2, hq, hce, hcv, hcl, h1, hL, h2, h3⟩, st⟩
  · dsimp only [Pt.U, Pt.locs, Pt.cells, Pt.slots] at X' e1 e2 h1 h2 h3 st
    subst h1; subst h2; subst h3
    exact Or.inl ⟨v, (T.setVm vm₁).calling g' mk (Value.ref b :: As).toArray, t, U', L, hT, X', hL, e1, e2, hq, st⟩
  · dsimp only [Pt.U, Pt.locs, Pt.cells, Pt.slots] at X' e1 e2 h1 h2 h3 st hcl
    subst h1; subst h2; subst h3
    exact Or.inr ⟨q, (T.setVm vm₁).calling g' mk (Value.ref b :: As).toArray, t, U', L, E, ce, hT, X', hL, e1, e2, hq, hce, hcv, vx_cls hW₁ hcl, st⟩
end VXID
/-! ===== END ===== -/
/-! ===== BEGIN a method of a class above, found by the receiver, that may throw (follows va_callVU, va_runU of this kit) ===== -/
section
variable {p : Program} {l : Launch} {e : Env} {R : Room} {s : State} {m : MethodId} {args : Array Value} {below : List Frame} {meth : Method} {c : Code} {H : Heap} {locs : List Loc} {cells slots : Nat}
theorem vx_callVU {T : State} {locs : List Loc} {cells slots : Nat} (X : Stand p l e R s m args below meth c T locs cells slots) (hexec : p.tables.exec = Jvm.exec) {own C owner : String} {index : Nat} {x y : MethodName} {bytes : ByteArray} {maxL : Nat} {ret : Option FieldType}
    (hown : s.vm.findClass own = some m.cls) (hlink : (Cond.methodLink own index x).before args s = true) (hsame : (Cond.sameMethod x.cls owner x.name x.desc).before args s = true)
    (hd0 : va_Decl s ⟨owner, x.name, x.desc⟩) (howner : owner ≠ "java/lang/invoke/MethodHandle" ∧ owner ≠ "java/lang/invoke/VarHandle")
    (hsel : (Cond.selects C x y).before args s = true) (hinst : (Cond.instanceMethod y).before args s = true) (hcode : (Cond.code y bytes maxL ret).before args s = true)
    {W : Nat} {Pre : Pt → Array Value → Prop} {Post : Pt → Array Value → Option Value → Pt → Prop} {PostX : Pt → Array Value → Addr → Pt → Prop} (hK : vx_Back l R p e below s args y 3 W Pre Post PostX)
    {b : Addr} {cellB : Cell} (hcell : T.heap[b]? = some cellB) (hobj : cellB.vm.isStatics = false) (hcls : s.vm.findClass C = some cellB.cls)
    {g : JFrame} (hg : g.method = m) (hsize : g.locals.size = c.maxLocals) {argsL rest : List Value} (hlen : ∀ sig, parseMethodDescriptor x.desc = some sig → argsL.length = sig.parameters.length)
    (hstack : g.stack = argsL.reverse ++ .ref b :: rest) (hW : 2 * g.monitorRoom + (rest.map fun v => v.category).sum ≤ W) (hdg : decode c.code g.pc = .ok (.invokevirtual index, 3))
    (hpre : ∀ vm₁, s.WarmedH vm₁ → Pre ⟨T.setVm vm₁, locs, cells, slots⟩ (Value.ref b :: argsL).toArray) :
    (∃ (v : Option Value) (vm₁ : Vm) (B : Pt), s.WarmedH vm₁ ∧ Stand p l e R s m args below meth c B.U B.locs B.cells B.slots ∧ Post ⟨T.setVm vm₁, locs, cells, slots⟩ (Value.ref b :: argsL).toArray v B ∧
      ∀ target, Steps p.tables e below (B.U.setTop { g with pc := g.pc + 3, stack := v.toList ++ rest }) target → Steps p.tables e below (T.setTop g) target) ∨
    (∃ (q : Addr) (vm₁ : Vm) (B : Pt), s.WarmedH vm₁ ∧ Stand p l e R s m args below meth c B.U B.locs B.cells B.slots ∧ PostX ⟨T.setVm vm₁, locs, cells, slots⟩ (Value.ref b :: argsL).toArray q B ∧
      Steps p.tables e below (T.setTop g) ((B.U.setTop { g with stack := rest }).pushFrame (.throwing q))) := by
  obtain ⟨r0, r, hn, hrm, hstR, hsigR⟩ := hd0
  obtain ⟨cn, ck, r1, hcn, hck, hni, hf, hn1⟩ := Cond.sameMethod_found hsame
  cases hn.symm.trans hn1
  obtain ⟨mk, methM, hnamed, hmethM, -, habM⟩ := Cond.instanceMethod_spec hinst
  obtain ⟨c2, r2, m2, q1, q2, q3, q4, kP, hkP, hkPi⟩ := Cond.selects_spec hsel
  cases hcls.symm.trans q1
  cases hf.symm.trans q2
  cases hnamed.symm.trans q3
  have hselP : selectMethod e.platform s.vm cellB.cls r0 = .method mk := by rw [Launch.admits_selectMethod X.admits]; exact q4
  obtain ⟨vm₁, X₁, hstep₁⟩ := X.invokevirtualUp hexec hown hlink hsame howner hn hrm hstR (a := b) (cell := cellB) hcell
    (fun z h => by rw [h] at hobj; cases hobj) hselP hmethM habM hkP hkPi (g := g) hg (argsL := argsL) (rest := rest) (hlen _ hsigR) hstack hdg
  rcases hK m meth c ⟨T.setVm vm₁, locs, cells, slots⟩ { g with stack := rest } (.invokevirtual index) mk (Value.ref b :: argsL).toArray X₁ hg hsize hdg hW (X₁.named hnamed) (hpre vm₁ X₁.warmed) with ⟨v, B, X', hpost, hsteps⟩ | ⟨q, B, X', hpost, hsteps⟩
  · exact Or.inl ⟨v, vm₁, B, X₁.warmed, X', hpost, fun target h => hstep₁ _ fun acts => by rw [doInvoke_state]; exact hsteps.trans h⟩
  · exact Or.inr ⟨q, vm₁, B, X₁.warmed, X', hpost, hstep₁ _ fun acts => by rw [doInvoke_state]; exact hsteps⟩
theorem vx_runU {x y : MethodName} {bytes cc : ByteArray} {maxL nL mc ms n index : Nat} {ret : Option FieldType} {ws : List Cond} {rm : Room} {Pc : Array Value → State → Prop} {Qc : Array Value → State → Outcome → State → Prop} {XC : String → State → State → Prop} {free : Addr → Prop} {Ts : List Cond} {own C owner : String} {b : Addr} {As rest : List Value} {g : JFrame}
    (S : CallFix p m c cc nL s args Ts own) (hM : vx_Met l y ws rm Pc Qc XC mc ms free) (cw : va_CU R s args own C owner index x y bytes maxL ret ws rm mc ms n) (hp : PreV s H C b Pc As)
    (hg : g.method = m) (hn : As.length = n) (hsize : g.locals.size = nL) (hstack : g.stack = As.reverse ++ .ref b :: rest) (hW : 2 * g.monitorRoom + (rest.map fun v => v.category).sum ≤ 8) (hdg : decode cc g.pc = .ok (.invokevirtual index, 3)) (hf : cells + mc ≤ R.cells ∧ slots + ms ≤ R.slots) :
    vx_Run p l e R s m args below meth c H locs cells slots mc ms g rest (Qc (Value.ref b :: As).toArray) XC free := by
  obtain ⟨hrc, hrs, hfr, hlo, hws, hcw⟩ := cw.back
  have hini := cw.init
  have hK : vx_Back l R p e below s args y 3 8 (PreOf R mc ms Pc) (PostOf Qc mc ms free) (vx_Post XC mc ms free) := vx_back (bytes := bytes) (maxL := maxL) (ret := ret) hM hp.1 hrc hrs hfr hlo hws hcw (fun a' U hW => word_at hW (Or.inl (by first | rfl | simp [Cond.onTables, Cond.keeps, Cond.steady])) hini)
  obtain ⟨hx, hb, hml, ho, -⟩ := S
  obtain ⟨-, ⟨cellB, hcB, hoB, hclB⟩, hPc⟩ := hp
  intro T hT X
  rcases vx_callVU X hx (C := C) (owner := owner) (bytes := bytes) (maxL := maxL) (ret := ret) ho cw.link cw.same cw.decl cw.notMH cw.sel cw.inst cw.code hK (by rw [hT]; exact hcB) hoB hclB hg (hsize.trans hml.symm) (argsL := As) (rest := rest) (fun sig h => hn.trans (cw.len sig h)) hstack hW (by rw [hb]; exact hdg)
    (fun vm₁ hW₁ => ⟨hf.1, hf.2, hPc (T.setVm vm₁) hT hW₁⟩) with ⟨v, vm₁, ⟨U', l2, c2, s2⟩, hW₁, X', ⟨g', mk, t, L, e1, e2, hq, h1, hL, h2, h3⟩, st⟩ | ⟨q, vm₁, ⟨U', l2, c2, s2⟩, hW₁, X', ⟨g', mk, t, L, E, ce, e1, e2, hq, hce, hcv, hcl, h1, hL, h2, h3⟩, st⟩
  · dsimp only [Pt.U, Pt.locs, Pt.cells, Pt.slots] at X' e1 e2 h1 h2 h3 st
    subst h1; subst h2; subst h3
    exact Or.inl ⟨v, (T.setVm vm₁).calling g' mk (Value.ref b :: As).toArray, t, U', L, hT, X', hL, e1, e2, hq, st⟩
  · dsimp only [Pt.U, Pt.locs, Pt.cells, Pt.slots] at X' e1 e2 h1 h2 h3 st hcl
    subst h1; subst h2; subst h3
    exact Or.inr ⟨q, (T.setVm vm₁).calling g' mk (Value.ref b :: As).toArray, t, U', L, E, ce, hT, X', hL, e1, e2, hq, hce, hcv, vx_cls hW₁ hcl, st⟩
end
/-! ===== END ===== -/
/-! ===== BEGIN super.m(..) that may throw (follows va_callSU, va_runSU) ===== -/
section
variable {p : Program} {l : Launch} {e : Env} {R : Room} {s : State} {m : MethodId} {args : Array Value} {below : List Frame} {meth : Method} {c : Code} {H : Heap} {locs : List Loc} {cells slots : Nat}
theorem vx_callSU {T : State} {locs : List Loc} {cells slots : Nat} (X : Stand p l e R s m args below meth c T locs cells slots) (hexec : p.tables.exec = Jvm.exec) {own : String} {index : Nat} {y : MethodName} {bytes : ByteArray} {maxL : Nat} {ret : Option FieldType}
    (hown : s.vm.findClass own = some m.cls) (hlink : (Cond.methodLink own index y).before args s = true) (hsame : (Cond.sameMethod y.cls y.cls y.name y.desc).before args s = true) (hsup : (Cond.superclass own y.cls).before args s = true)
    (hinst : (Cond.instanceMethod y).before args s = true) (hcode : (Cond.code y bytes maxL ret).before args s = true) (hno : y.name ≠ "<init>")
    {W : Nat} {Pre : Pt → Array Value → Prop} {Post : Pt → Array Value → Option Value → Pt → Prop} {PostX : Pt → Array Value → Addr → Pt → Prop} (hK : vx_Back l R p e below s args y 3 W Pre Post PostX)
    {b : Addr} {cellB : Cell} {kB : Class} (hcell : T.heap[b]? = some cellB) (hobj : cellB.vm.isStatics = false) (hkB : s.vm.classes[cellB.cls]? = some kB)
    {g : JFrame} (hg : g.method = m) (hsize : g.locals.size = c.maxLocals) {argsL rest : List Value} (hlen : ∀ sig, parseMethodDescriptor y.desc = some sig → argsL.length = sig.parameters.length)
    (hstack : g.stack = argsL.reverse ++ .ref b :: rest) (hW : 2 * g.monitorRoom + (rest.map fun v => v.category).sum ≤ W) (hdg : decode c.code g.pc = .ok (.invokespecial index, 3))
    (hpre : ∀ vm₁, s.WarmedH vm₁ → Pre ⟨T.setVm vm₁, locs, cells, slots⟩ (Value.ref b :: argsL).toArray) :
    (∃ (v : Option Value) (vm₁ : Vm) (B : Pt), s.WarmedH vm₁ ∧ Stand p l e R s m args below meth c B.U B.locs B.cells B.slots ∧ Post ⟨T.setVm vm₁, locs, cells, slots⟩ (Value.ref b :: argsL).toArray v B ∧
      ∀ target, Steps p.tables e below (B.U.setTop { g with pc := g.pc + 3, stack := v.toList ++ rest }) target → Steps p.tables e below (T.setTop g) target) ∨
    (∃ (q : Addr) (vm₁ : Vm) (B : Pt), s.WarmedH vm₁ ∧ Stand p l e R s m args below meth c B.U B.locs B.cells B.slots ∧ PostX ⟨T.setVm vm₁, locs, cells, slots⟩ (Value.ref b :: argsL).toArray q B ∧
      Steps p.tables e below (T.setTop g) ((B.U.setTop { g with stack := rest }).pushFrame (.throwing q))) := by
  obtain ⟨mk, methM, hnamed, hmethM, hstM, habM⟩ := Cond.instanceMethod_spec hinst
  obtain ⟨methM', cM, hmethM', -, -, -, -, -, -, hsigM⟩ := Cond.code_spec hnamed hcode
  cases hmethM.symm.trans hmethM'
  obtain ⟨ps, dk, kp, hps, hdk, hkp, hsuper, -, -, hnid⟩ := Cond.superclass_spec hown hsup
  have hn : s.methodNamed? ⟨y.cls, y.name, y.desc⟩ = some mk := hnamed
  have hpm : ps = mk.cls := Option.some.inj (hps.symm.trans (findClass_of_methodNamed hnamed))
  have hsub : s.vm.isSubclass ps mk.cls = true := by rw [hpm]; simp [Vm.isSubclass, Vm.isSubclassAux]
  obtain ⟨vm₁, X₁, hstep₁⟩ := X.invokespecialUp hexec hown hlink hsame hn hmethM hstM habM hno hdk hnid hps hsuper hsub (a := b) (cell := cellB) hcell
    (fun z h => by rw [h] at hobj; cases hobj) hkB (g := g) hg (argsL := argsL) (rest := rest) (hlen _ hsigM) hstack hdg
  rcases hK m meth c ⟨T.setVm vm₁, locs, cells, slots⟩ { g with stack := rest } (.invokespecial index) mk (Value.ref b :: argsL).toArray X₁ hg hsize hdg hW (X₁.named hnamed) (hpre vm₁ X₁.warmed) with ⟨v, B, X', hpost, hsteps⟩ | ⟨q, B, X', hpost, hsteps⟩
  · exact Or.inl ⟨v, vm₁, B, X₁.warmed, X', hpost, fun target h => hstep₁ _ (by rw [doInvoke_state]; exact hsteps.trans h)⟩
  · exact Or.inr ⟨q, vm₁, B, X₁.warmed, X', hpost, hstep₁ _ (by rw [doInvoke_state]; exact hsteps)⟩
theorem vx_runSU {y : MethodName} {bytes cc : ByteArray} {maxL nL mc ms n index : Nat} {ret : Option FieldType} {ws : List Cond} {rm : Room} {Pc : Array Value → State → Prop} {Qc : Array Value → State → Outcome → State → Prop} {XC : String → State → State → Prop} {free : Addr → Prop} {Ts : List Cond} {own C : String} {cC : ClassId} {b : Addr} {As rest : List Value} {g : JFrame}
    (hat : ClassAt s C cC) (S : CallFix p m c cc nL s args Ts own) (hM : vx_Met l y ws rm Pc Qc XC mc ms free) (cw : va_CS R s args own index y bytes maxL ret ws rm mc ms n) (hp : PreV s H C b Pc As)
    (hg : g.method = m) (hn : As.length = n) (hsize : g.locals.size = nL) (hstack : g.stack = As.reverse ++ .ref b :: rest) (hW : 2 * g.monitorRoom + (rest.map fun v => v.category).sum ≤ 8) (hdg : decode cc g.pc = .ok (.invokespecial index, 3)) (hf : cells + mc ≤ R.cells ∧ slots + ms ≤ R.slots) :
    vx_Run p l e R s m args below meth c H locs cells slots mc ms g rest (Qc (Value.ref b :: As).toArray) XC free := by
  obtain ⟨⟨hrc, hrs, hfr, hlo, hws, hcw⟩, hl1, hl2, hl3, hl4, hini, hcode, hno, hlen⟩ := cw
  have hK : vx_Back l R p e below s args y 3 8 (PreOf R mc ms Pc) (PostOf Qc mc ms free) (vx_Post XC mc ms free) := vx_back (bytes := bytes) (maxL := maxL) (ret := ret) hM hp.1 hrc hrs hfr hlo hws hcw (fun a' U hW => word_at hW (Or.inl (by first | rfl | simp [Cond.onTables, Cond.keeps, Cond.steady])) hini)
  obtain ⟨hx, hb, hml, ho, -⟩ := S
  obtain ⟨-, ⟨cellB, hcB, hoB, hclB⟩, hPc⟩ := hp
  obtain ⟨hfc, kB, hkB, -⟩ := hat
  cases hfc.symm.trans hclB
  intro T hT X
  rcases vx_callSU X hx (bytes := bytes) (maxL := maxL) (ret := ret) ho hl1 hl2 hl3 hl4 hcode hno hK (by rw [hT]; exact hcB) hoB hkB hg (hsize.trans hml.symm) (argsL := As) (rest := rest) (fun sig h => hn.trans (hlen sig h)) hstack hW (by rw [hb]; exact hdg)
    (fun vm₁ hW₁ => ⟨hf.1, hf.2, hPc (T.setVm vm₁) hT hW₁⟩) with ⟨v, vm₁, ⟨U', l2, c2, s2⟩, hW₁, X', ⟨g', mk, t, L, e1, e2, hq, h1, hL, h2, h3⟩, st⟩ | ⟨q, vm₁, ⟨U', l2, c2, s2⟩, hW₁, X', ⟨g', mk, t, L, E, ce, e1, e2, hq, hce, hcv, hcl, h1, hL, h2, h3⟩, st⟩
  · dsimp only [Pt.U, Pt.locs, Pt.cells, Pt.slots] at X' e1 e2 h1 h2 h3 st
    subst h1; subst h2; subst h3
    exact Or.inl ⟨v, (T.setVm vm₁).calling g' mk (Value.ref b :: As).toArray, t, U', L, hT, X', hL, e1, e2, hq, st⟩
  · dsimp only [Pt.U, Pt.locs, Pt.cells, Pt.slots] at X' e1 e2 h1 h2 h3 st hcl
    subst h1; subst h2; subst h3
    exact Or.inr ⟨q, (T.setVm vm₁).calling g' mk (Value.ref b :: As).toArray, t, U', L, E, ce, hT, X', hL, e1, e2, hq, hce, hcv, vx_cls hW₁ hcl, st⟩
end
/-! ===== END ===== -/
/-! ===== BEGIN a private method of a nest mate that may throw (follows va_callVN, va_callSN, va_runVN, va_runSN) ===== -/
section
variable {p : Program} {l : Launch} {e : Env} {R : Room} {s : State} {m : MethodId} {args : Array Value} {below : List Frame} {meth : Method} {c : Code} {H : Heap} {locs : List Loc} {cells slots : Nat}
variable {T : State}
theorem vx_callVN (X : Stand p l e R s m args below meth c T locs cells slots) (hexec : p.tables.exec = Jvm.exec) {own C : String} {index : Nat} {host : String} {y : MethodName} {bytes : ByteArray} {maxL : Nat} {ret : Option FieldType}
    (hown : s.vm.findClass own = some m.cls) (hlink : (Cond.methodLinkNest own index y host).before args s = true) (hinst : (Cond.instanceMethod y).before args s = true) (hsel : (Cond.selects C y y).before args s = true)
    (hcode : (Cond.code y bytes maxL ret).before args s = true) (hy : y.cls ≠ "java/lang/invoke/MethodHandle" ∧ y.cls ≠ "java/lang/invoke/VarHandle")
    {W : Nat} {Pre : Pt → Array Value → Prop} {Post : Pt → Array Value → Option Value → Pt → Prop} {PostX : Pt → Array Value → Addr → Pt → Prop} (hK : vx_Back l R p e below s args y 3 W Pre Post PostX)
    {b : Addr} {cellB : Cell} (hcell : T.heap[b]? = some cellB) (hobj : cellB.vm.isStatics = false) (hcls : s.vm.findClass C = some cellB.cls)
    {g : JFrame} (hg : g.method = m) (hsize : g.locals.size = c.maxLocals) {argsL rest : List Value} (hlen : ∀ sig, parseMethodDescriptor y.desc = some sig → argsL.length = sig.parameters.length)
    (hstack : g.stack = argsL.reverse ++ .ref b :: rest) (hW : 2 * g.monitorRoom + (rest.map fun v => v.category).sum ≤ W) (hdg : decode c.code g.pc = .ok (.invokevirtual index, 3))
    (hpre : ∀ vm₁, s.WarmedH vm₁ → Pre ⟨T.setVm vm₁, locs, cells, slots⟩ (Value.ref b :: argsL).toArray) :
    (∃ (v : Option Value) (vm₁ : Vm) (B : Pt), s.WarmedH vm₁ ∧ Stand p l e R s m args below meth c B.U B.locs B.cells B.slots ∧ Post ⟨T.setVm vm₁, locs, cells, slots⟩ (Value.ref b :: argsL).toArray v B ∧
      ∀ target, Steps p.tables e below (B.U.setTop { g with pc := g.pc + 3, stack := v.toList ++ rest }) target → Steps p.tables e below (T.setTop g) target) ∨
    (∃ (q : Addr) (vm₁ : Vm) (B : Pt), s.WarmedH vm₁ ∧ Stand p l e R s m args below meth c B.U B.locs B.cells B.slots ∧ PostX ⟨T.setVm vm₁, locs, cells, slots⟩ (Value.ref b :: argsL).toArray q B ∧
      Steps p.tables e below (T.setTop g) ((B.U.setTop { g with stack := rest }).pushFrame (.throwing q))) := by
  obtain ⟨mk, methM, hnamed, hmethM, hstM, habM⟩ := Cond.instanceMethod_spec hinst
  obtain ⟨methM', cM, hmethM', -, -, -, -, -, -, hsigM⟩ := Cond.code_spec hnamed hcode
  cases hmethM.symm.trans hmethM'
  obtain ⟨c2, r2, m2, q1, q2, q3, q4, kP, hkP, hkPi⟩ := Cond.selects_spec hsel
  cases hcls.symm.trans q1
  cases (State.methodFound?_of_named hnamed hy).symm.trans q2
  cases hnamed.symm.trans q3
  have hselP : selectMethod e.platform s.vm cellB.cls mk = .method mk := by rw [Launch.admits_selectMethod X.admits]; exact q4
  obtain ⟨vm₁, X₁, hstep₁⟩ := X.invokevirtualNest hexec hown hlink hnamed hmethM hstM hkP hkPi hy (a := b) (cell := cellB) hcell
    (fun z h => by rw [h] at hobj; cases hobj) hselP hmethM habM hkP hkPi (g := g) hg (argsL := argsL) (rest := rest) (hlen _ hsigM) hstack hdg
  rcases hK m meth c ⟨T.setVm vm₁, locs, cells, slots⟩ { g with stack := rest } (.invokevirtual index) mk (Value.ref b :: argsL).toArray X₁ hg hsize hdg hW (X₁.named hnamed) (hpre vm₁ X₁.warmed) with ⟨v, B, X', hpost, hsteps⟩ | ⟨q, B, X', hpost, hsteps⟩
  · exact Or.inl ⟨v, vm₁, B, X₁.warmed, X', hpost, fun target h => hstep₁ _ fun acts => by rw [doInvoke_state]; exact hsteps.trans h⟩
  · exact Or.inr ⟨q, vm₁, B, X₁.warmed, X', hpost, hstep₁ _ fun acts => by rw [doInvoke_state]; exact hsteps⟩
theorem vx_callSN (X : Stand p l e R s m args below meth c T locs cells slots) (hexec : p.tables.exec = Jvm.exec) {own : String} {index : Nat} {host : String} {y : MethodName} {bytes : ByteArray} {maxL : Nat} {ret : Option FieldType}
    (hown : s.vm.findClass own = some m.cls) (hlink : (Cond.methodLinkNest own index y host).before args s = true) (hstat : (Cond.static y).before args s = true) (hinit : (Cond.initialized y.cls).before args s = true)
    (hcode : (Cond.code y bytes maxL ret).before args s = true) (hy : y.cls ≠ "java/lang/invoke/MethodHandle" ∧ y.cls ≠ "java/lang/invoke/VarHandle")
    {W : Nat} {Pre : Pt → Array Value → Prop} {Post : Pt → Array Value → Option Value → Pt → Prop} {PostX : Pt → Array Value → Addr → Pt → Prop} (hK : vx_Back l R p e below s args y 3 W Pre Post PostX)
    {g : JFrame} (hg : g.method = m) (hsize : g.locals.size = c.maxLocals) {argsL rest : List Value} (hlen : ∀ sig, parseMethodDescriptor y.desc = some sig → argsL.length = sig.parameters.length)
    (hstack : g.stack = argsL.reverse ++ rest) (hW : 2 * g.monitorRoom + (rest.map fun v => v.category).sum ≤ W) (hdg : decode c.code g.pc = .ok (.invokestatic index, 3))
    (hpre : ∀ vm₁, s.WarmedH vm₁ → Pre ⟨T.setVm vm₁, locs, cells, slots⟩ argsL.toArray) :
    (∃ (v : Option Value) (vm₁ : Vm) (B : Pt), s.WarmedH vm₁ ∧ Stand p l e R s m args below meth c B.U B.locs B.cells B.slots ∧ Post ⟨T.setVm vm₁, locs, cells, slots⟩ argsL.toArray v B ∧
      ∀ target, Steps p.tables e below (B.U.setTop { g with pc := g.pc + 3, stack := v.toList ++ rest }) target → Steps p.tables e below (T.setTop g) target) ∨
    (∃ (q : Addr) (vm₁ : Vm) (B : Pt), s.WarmedH vm₁ ∧ Stand p l e R s m args below meth c B.U B.locs B.cells B.slots ∧ PostX ⟨T.setVm vm₁, locs, cells, slots⟩ argsL.toArray q B ∧
      Steps p.tables e below (T.setTop g) ((B.U.setTop { g with stack := rest }).pushFrame (.throwing q))) := by
  obtain ⟨mk, hnamed⟩ := Cond.code_named hcode
  obtain ⟨methM, cM, hmethM, -, -, -, -, -, -, hsigM⟩ := Cond.code_spec hnamed hcode
  have hstatic : methM.isStatic = true := Cond.static_spec hnamed hmethM hstat
  obtain ⟨kP, hkP, -⟩ := className_of_methodNamed hnamed
  have hinitP : kP.init = .initialized := Cond.initialized_spec (findClass_of_methodNamed hnamed) hkP hinit
  obtain ⟨vm₁, X₁, hstep₁⟩ := X.invokestaticNest hexec hown hlink hnamed hmethM hstatic hkP hinitP hy (g := g) hg (argsL := argsL) (rest := rest) (hlen _ hsigM) hstack hdg
  rcases hK m meth c ⟨T.setVm vm₁, locs, cells, slots⟩ { g with stack := rest } (.invokestatic index) mk argsL.toArray X₁ hg hsize hdg hW (X₁.named hnamed) (hpre vm₁ X₁.warmed) with ⟨v, B, X', hpost, hsteps⟩ | ⟨q, B, X', hpost, hsteps⟩
  · exact Or.inl ⟨v, vm₁, B, X₁.warmed, X', hpost, fun target h => hstep₁ _ fun acts => by rw [doInvoke_state]; exact hsteps.trans h⟩
  · exact Or.inr ⟨q, vm₁, B, X₁.warmed, X', hpost, hstep₁ _ fun acts => by rw [doInvoke_state]; exact hsteps⟩
theorem vx_runVN {y : MethodName} {bytes cc : ByteArray} {maxL nL mc ms n index : Nat} {ret : Option FieldType} {ws : List Cond} {rm : Room} {Pc : Array Value → State → Prop} {Qc : Array Value → State → Outcome → State → Prop} {XC : String → State → State → Prop} {free : Addr → Prop} {Ts : List Cond} {own C host : String} {b : Addr} {As rest : List Value} {g : JFrame}
    (S : CallFix p m c cc nL s args Ts own) (hM : vx_Met l y ws rm Pc Qc XC mc ms free) (cw : va_CN R s args own index y host bytes maxL ret ws rm mc ms n ∧ (Cond.instanceMethod y).before args s = true ∧ (Cond.selects C y y).before args s = true) (hp : PreV s H C b Pc As)
    (hg : g.method = m) (hn : As.length = n) (hsize : g.locals.size = nL) (hstack : g.stack = As.reverse ++ .ref b :: rest) (hW : 2 * g.monitorRoom + (rest.map fun v => v.category).sum ≤ 8) (hdg : decode cc g.pc = .ok (.invokevirtual index, 3)) (hf : cells + mc ≤ R.cells ∧ slots + ms ≤ R.slots) :
    vx_Run p l e R s m args below meth c H locs cells slots mc ms g rest (Qc (Value.ref b :: As).toArray) XC free := by
  obtain ⟨⟨⟨hrc, hrs, hfr, hlo, hws, hcw⟩, hcode, hini, hy, hlen, hl⟩, hx1, hx2⟩ := cw
  have hK : vx_Back l R p e below s args y 3 8 (PreOf R mc ms Pc) (PostOf Qc mc ms free) (vx_Post XC mc ms free) := vx_back (bytes := bytes) (maxL := maxL) (ret := ret) hM hp.1 hrc hrs hfr hlo hws hcw (fun a' U hW => word_at hW (Or.inl (by first | rfl | simp [Cond.onTables, Cond.keeps, Cond.steady])) hini)
  obtain ⟨hx, hb, hml, ho, -⟩ := S
  obtain ⟨-, ⟨cellB, hcB, hoB, hclB⟩, hPc⟩ := hp
  intro T hT X
  rcases vx_callVN X hx (C := C) (bytes := bytes) (maxL := maxL) (ret := ret) ho hl hx1 hx2 hcode hy hK (by rw [hT]; exact hcB) hoB hclB hg (hsize.trans hml.symm) (argsL := As) (rest := rest) (fun sig h => hn.trans (hlen sig h)) hstack hW (by rw [hb]; exact hdg)
    (fun vm₁ hW₁ => ⟨hf.1, hf.2, hPc (T.setVm vm₁) hT hW₁⟩) with ⟨v, vm₁, ⟨U', l2, c2, s2⟩, hW₁, X', ⟨g', mk, t, L, e1, e2, hq, h1, hL, h2, h3⟩, st⟩ | ⟨q, vm₁, ⟨U', l2, c2, s2⟩, hW₁, X', ⟨g', mk, t, L, E, ce, e1, e2, hq, hce, hcv, hcl, h1, hL, h2, h3⟩, st⟩
  · dsimp only [Pt.U, Pt.locs, Pt.cells, Pt.slots] at X' e1 e2 h1 h2 h3 st
    subst h1; subst h2; subst h3
    exact Or.inl ⟨v, (T.setVm vm₁).calling g' mk (Value.ref b :: As).toArray, t, U', L, hT, X', hL, e1, e2, hq, st⟩
  · dsimp only [Pt.U, Pt.locs, Pt.cells, Pt.slots] at X' e1 e2 h1 h2 h3 st hcl
    subst h1; subst h2; subst h3
    exact Or.inr ⟨q, (T.setVm vm₁).calling g' mk (Value.ref b :: As).toArray, t, U', L, E, ce, hT, X', hL, e1, e2, hq, hce, hcv, vx_cls hW₁ hcl, st⟩
theorem vx_runSN {y : MethodName} {bytes cc : ByteArray} {maxL nL mc ms n index : Nat} {ret : Option FieldType} {ws : List Cond} {rm : Room} {Pc : Array Value → State → Prop} {Qc : Array Value → State → Outcome → State → Prop} {XC : String → State → State → Prop} {free : Addr → Prop} {Ts : List Cond} {own host : String} {As rest : List Value} {g : JFrame}
    (S : CallFix p m c cc nL s args Ts own) (hM : vx_Met l y ws rm Pc Qc XC mc ms free) (cw : va_CN R s args own index y host bytes maxL ret ws rm mc ms n ∧ (Cond.static y).before args s = true ∧ True) (hp : PreS s H Pc As)
    (hg : g.method = m) (hn : As.length = n) (hsize : g.locals.size = nL) (hstack : g.stack = As.reverse ++ rest) (hW : 2 * g.monitorRoom + (rest.map fun v => v.category).sum ≤ 8) (hdg : decode cc g.pc = .ok (.invokestatic index, 3)) (hf : cells + mc ≤ R.cells ∧ slots + ms ≤ R.slots) :
    vx_Run p l e R s m args below meth c H locs cells slots mc ms g rest (Qc As.toArray) XC free := by
  obtain ⟨⟨⟨hrc, hrs, hfr, hlo, hws, hcw⟩, hcode, hini, hy, hlen, hl⟩, hx1, hx2⟩ := cw
  have hK : vx_Back l R p e below s args y 3 8 (PreOf R mc ms Pc) (PostOf Qc mc ms free) (vx_Post XC mc ms free) := vx_back (bytes := bytes) (maxL := maxL) (ret := ret) hM hp.1 hrc hrs hfr hlo hws hcw (fun a' U hW => word_at hW (Or.inl (by first | rfl | simp [Cond.onTables, Cond.keeps, Cond.steady])) hini)
  obtain ⟨hx, hb, hml, ho, -⟩ := S
  have hPc := hp.2
  intro T hT X
  rcases vx_callSN X hx (bytes := bytes) (maxL := maxL) (ret := ret) ho hl hx1 hini hcode hy hK hg (hsize.trans hml.symm) (argsL := As) (rest := rest) (fun sig h => hn.trans (hlen sig h)) hstack hW (by rw [hb]; exact hdg)
    (fun vm₁ hW₁ => ⟨hf.1, hf.2, hPc (T.setVm vm₁) hT hW₁⟩) with ⟨v, vm₁, ⟨U', l2, c2, s2⟩, hW₁, X', ⟨g', mk, t, L, e1, e2, hq, h1, hL, h2, h3⟩, st⟩ | ⟨q, vm₁, ⟨U', l2, c2, s2⟩, hW₁, X', ⟨g', mk, t, L, E, ce, e1, e2, hq, hce, hcv, hcl, h1, hL, h2, h3⟩, st⟩
  · dsimp only [Pt.U, Pt.locs, Pt.cells, Pt.slots] at X' e1 e2 h1 h2 h3 st
    subst h1; subst h2; subst h3
    exact Or.inl ⟨v, (T.setVm vm₁).calling g' mk As.toArray, t, U', L, hT, X', hL, e1, e2, hq, st⟩
  · dsimp only [Pt.U, Pt.locs, Pt.cells, Pt.slots] at X' e1 e2 h1 h2 h3 st hcl
    subst h1; subst h2; subst h3
    exact Or.inr ⟨q, (T.setVm vm₁).calling g' mk As.toArray, t, U', L, E, ce, hT, X', hL, e1, e2, hq, hce, hcv, vx_cls hW₁ hcl, st⟩
end
/-! ===== END ===== -/
/-! ===== BEGIN calls by an interface of methods that may throw (vx_callIF, vx_runF follow va_callIF, va_runF of this kit) ===== -/
section
variable {p : Program} {l : Launch} {e : Env} {R : Room} {s : State} {m : MethodId} {args : Array Value} {below : List Frame} {meth : Method} {c : Code} {H : Heap} {locs : List Loc} {cells slots : Nat} {Q : State → Prop}
variable {mc ms : Nat} {free : Addr → Prop} {A0 A1 : Nat → Prop} {H0 : Heap} {a : Array Value} {pc : Nat} {ls : Array Slot} {st0 rest : List Value}
def vx_Run5 (p : Program) (l : Launch) (e : Env) (R : Room) (s : State) (m : MethodId) (args : Array Value) (below : List Frame) (meth : Method) (c : Code) (H : Heap) (locs : List Loc) (cells slots mc ms : Nat) (g : JFrame) (rest : List Value) (Qa : State → Outcome → State → Prop) (XC : String → State → State → Prop) (free : Addr → Prop) : Prop :=
  ∀ T : State, T.heap = H → Stand p l e R s m args below meth c T locs cells slots →
    (∃ (v : Option Value) (st₀ t T' : State) (L : List Loc), st₀.heap = H ∧ Stand p l e R s m args below meth c T' (locs ++ L) (cells + mc) (slots + ms) ∧ (∀ q ∈ L, free q.base) ∧ T'.heap = t.heap ∧ T'.vm = t.vm ∧ Qa st₀ (.returned v) t ∧
      Goes p e below T g T' { g with pc := g.pc + 5, stack := v.toList ++ rest }) ∨
    (∃ (q : Addr) (st₀ t T' : State) (L : List Loc) (E : String) (ce : Cell), st₀.heap = H ∧ Stand p l e R s m args below meth c T' (locs ++ L) (cells + mc) (slots + ms) ∧ (∀ z ∈ L, free z.base) ∧ T'.heap = t.heap ∧ T'.vm = t.vm ∧ XC E st₀ t ∧ t.heap[q]? = some ce ∧ ce.vm = .none ∧ s.vm.findClass E = some ce.cls ∧
      Steps p.tables e below (T.setTop g) ((T'.setTop { g with stack := rest }).pushFrame (.throwing q)))
theorem vx_callIF {T : State} (X : Stand p l e R s m args below meth c T locs cells slots) (hexec : p.tables.exec = Jvm.exec) {own C : String} {index count : Nat} {x y : MethodName} {bytes : ByteArray} {maxL : Nat} {ret : Option FieldType}
    (hown : s.vm.findClass own = some m.cls) (hlink : (Cond.methodLink own index x).before args s = true) (hdecl : (Cond.declares x).before args s = true) (hface : (Cond.interfaceMethod x.cls x.cls x.name x.desc).before args s = true)
    (hsel : (Cond.selects C x y).before args s = true) (hinst : (Cond.instanceMethod y).before args s = true) (hpub : (Cond.publicMethod y).before args s = true) (hunh : (Cond.unhidden C x.name x.desc).before args s = true)
    (hcast : (Cond.castable C x.cls).before args s = true) (hcode : (Cond.code y bytes maxL ret).before args s = true) (hx : x.cls ≠ "java/lang/invoke/MethodHandle" ∧ x.cls ≠ "java/lang/invoke/VarHandle")
    {W9 : Nat} {Pre : Pt → Array Value → Prop} {Post : Pt → Array Value → Option Value → Pt → Prop} {PostX : Pt → Array Value → Addr → Pt → Prop} (hK : vx_Back l R p e below s args y 5 W9 Pre Post PostX)
    {b : Addr} {cellB : Cell} {kB : Class} (hcell : T.heap[b]? = some cellB) (hobj : cellB.vm.isStatics = false) (hcls : s.vm.findClass C = some cellB.cls) (hkB : s.vm.classes[cellB.cls]? = some kB)
    {g : JFrame} (hg : g.method = m) (hsize : g.locals.size = c.maxLocals) {argsL rest : List Value} (hlen : ∀ sig, parseMethodDescriptor x.desc = some sig → argsL.length = sig.parameters.length)
    (hstack : g.stack = argsL.reverse ++ .ref b :: rest) (hW : 2 * g.monitorRoom + (rest.map fun v => v.category).sum ≤ W9) (hdg : decode c.code g.pc = .ok (.invokeinterface index count, 5))
    (hpre : ∀ vm₁, s.WarmedH vm₁ → Pre ⟨T.setVm vm₁, locs, cells, slots⟩ (Value.ref b :: argsL).toArray) :
    (∃ (v : Option Value) (vm₁ : Vm) (B : Pt), s.WarmedH vm₁ ∧ Stand p l e R s m args below meth c B.U B.locs B.cells B.slots ∧ Post ⟨T.setVm vm₁, locs, cells, slots⟩ (Value.ref b :: argsL).toArray v B ∧
      ∀ target, Steps p.tables e below (B.U.setTop { g with pc := g.pc + 5, stack := v.toList ++ rest }) target → Steps p.tables e below (T.setTop g) target) ∨
    (∃ (q : Addr) (vm₁ : Vm) (B : Pt), s.WarmedH vm₁ ∧ Stand p l e R s m args below meth c B.U B.locs B.cells B.slots ∧ PostX ⟨T.setVm vm₁, locs, cells, slots⟩ (Value.ref b :: argsL).toArray q B ∧
      Steps p.tables e below (T.setTop g) ((B.U.setTop { g with stack := rest }).pushFrame (.throwing q))) := by
  obtain ⟨r0, r, hn, hrm, hstR, hsigR⟩ := Cond.declares_spec hdecl
  obtain ⟨cL, kL, r1, hcL, hkL, hiL, hfoundL, hn1⟩ := Cond.interfaceMethod_spec hface
  cases hn.symm.trans hn1
  have hr0cls : r0.cls = cL := Option.some.inj ((findClass_of_methodNamed hn).symm.trans hcL)
  obtain ⟨hnameR, hdescR⟩ := name_of_methodNamed hn hrm
  obtain ⟨mk, methM, hnamed, hmethM, -, habM⟩ := Cond.instanceMethod_spec hinst
  obtain ⟨c2, r2, m2, q1, q2, q3, q4, -⟩ := Cond.selects_spec hsel
  cases hcls.symm.trans q1
  cases hfoundL.symm.trans q2
  cases hnamed.symm.trans q3
  have hselP : selectMethod e.platform s.vm cellB.cls r0 = .method mk := by rw [Launch.admits_selectMethod X.admits]; exact q4
  have hpubM : hasFlag methM.accessFlags Acc.public_ = true := Cond.publicMethod_spec hnamed hmethM hpub
  have hway : ((cellB.cls :: s.vm.superclasses cellB.cls).any fun k => (declaredIn s.vm r.name r.desc k).any fun (_, z) => z.isPrivate || z.isStatic) = false := by
    rw [hnameR, hdescR]; exact Cond.unhidden_spec hcls hunh
  obtain ⟨c3, t3, w1, w2, w3⟩ := Cond.castable_spec hcast
  cases hcls.symm.trans w1
  cases hcL.symm.trans w2
  obtain ⟨vm₁, X₁, hstep₁⟩ := X.invokeinterface hexec hown hlink hn hrm hstR (by rw [hr0cls]; exact hkL) hiL hx (a := b) (cell := cellB) (kcell := kB) hcell
    (fun z h => by rw [h] at hobj; cases hobj) hkB (by rw [hr0cls]; exact w3) hselP hmethM hway hpubM habM (g := g) hg (argsL := argsL) (rest := rest) (hlen _ hsigR) hstack hdg
  rcases hK m meth c ⟨T.setVm vm₁, locs, cells, slots⟩ { g with stack := rest } (.invokeinterface index count) mk (Value.ref b :: argsL).toArray X₁ hg hsize hdg hW (X₁.named hnamed) (hpre vm₁ X₁.warmed) with ⟨v, B, X', hpost, hsteps⟩ | ⟨q, B, X', hpost, hsteps⟩
  · exact Or.inl ⟨v, vm₁, B, X₁.warmed, X', hpost, fun target h => hstep₁ _ fun acts => by rw [doInvoke_state]; exact hsteps.trans h⟩
  · exact Or.inr ⟨q, vm₁, B, X₁.warmed, X', hpost, hstep₁ _ fun acts => by rw [doInvoke_state]; exact hsteps⟩
theorem vx_runF {x y : MethodName} {bytes cc : ByteArray} {maxL nL mc ms n index count : Nat} {ret : Option FieldType} {ws : List Cond} {rm : Room} {Pc : Array Value → State → Prop} {Qc : Array Value → State → Outcome → State → Prop} {XC : String → State → State → Prop} {free : Addr → Prop} {Ts : List Cond} {own C : String} {cC : ClassId} {b : Addr} {As rest : List Value} {g : JFrame}
    (hat : ClassAt s C cC) (S : CallFix p m c cc nL s args Ts own) (hM : vx_Met l y ws rm Pc Qc XC mc ms free) (cw : va_CI R s args own C index x y bytes maxL ret ws rm mc ms n) (hp : PreV s H C b Pc As)
    (hg : g.method = m) (hn : As.length = n) (hsize : g.locals.size = nL) (hstack : g.stack = As.reverse ++ .ref b :: rest) (hW : 2 * g.monitorRoom + (rest.map fun v => v.category).sum ≤ 8) (hdg : decode cc g.pc = .ok (.invokeinterface index count, 5)) (hf : cells + mc ≤ R.cells ∧ slots + ms ≤ R.slots) :
    vx_Run5 p l e R s m args below meth c H locs cells slots mc ms g rest (Qc (Value.ref b :: As).toArray) XC free := by
  obtain ⟨hrc, hrs, hfr, hlo, hws, hcw⟩ := cw.back
  have hini := cw.init
  have hK : vx_Back l R p e below s args y 5 8 (PreOf R mc ms Pc) (PostOf Qc mc ms free) (vx_Post XC mc ms free) := vx_back (bytes := bytes) (maxL := maxL) (ret := ret) hM hp.1 hrc hrs hfr hlo hws hcw (fun a' U hW => word_at hW (Or.inl (by first | rfl | simp [Cond.onTables, Cond.keeps, Cond.steady])) hini)
  obtain ⟨hx, hb, hml, ho, -⟩ := S
  obtain ⟨-, ⟨cellB, hcB, hoB, hclB⟩, hPc⟩ := hp
  obtain ⟨hfc, kB, hkB, -⟩ := hat
  cases hfc.symm.trans hclB
  intro T hT X
  rcases vx_callIF X hx (C := C) (bytes := bytes) (maxL := maxL) (ret := ret) ho cw.link cw.decl cw.face cw.sel cw.inst cw.pub cw.unh cw.cast cw.code cw.notMH hK (by rw [hT]; exact hcB) hoB hclB hkB hg (hsize.trans hml.symm) (argsL := As) (rest := rest) (fun sig h => hn.trans (cw.len sig h)) hstack hW (by rw [hb]; exact hdg)
    (fun vm₁ hW₁ => ⟨hf.1, hf.2, hPc (T.setVm vm₁) hT hW₁⟩) with ⟨v, vm₁, ⟨U', l2, c2, s2⟩, hW₁, X', ⟨g', mk, t, L, e1, e2, hq, h1, hL, h2, h3⟩, st⟩ | ⟨q, vm₁, ⟨U', l2, c2, s2⟩, hW₁, X', ⟨g', mk, t, L, E, ce, e1, e2, hq, hce, hcv, hcl, h1, hL, h2, h3⟩, st⟩
  · dsimp only [Pt.U, Pt.locs, Pt.cells, Pt.slots] at X' e1 e2 h1 h2 h3 st
    subst h1; subst h2; subst h3
    exact Or.inl ⟨v, (T.setVm vm₁).calling g' mk (Value.ref b :: As).toArray, t, U', L, hT, X', hL, e1, e2, hq, st⟩
  · dsimp only [Pt.U, Pt.locs, Pt.cells, Pt.slots] at X' e1 e2 h1 h2 h3 st hcl
    subst h1; subst h2; subst h3
    exact Or.inr ⟨q, (T.setVm vm₁).calling g' mk (Value.ref b :: As).toArray, t, U', L, E, ce, hT, X', hL, e1, e2, hq, hce, hcv, vx_cls hW₁ hcl, st⟩
theorem vx_callFv {S SX : Type} {post : S → Prop} {px : SX → Prop} {B : S → State → Prop} {BX : String → SX → State → Prop} {AX : Nat → Prop} (hr : vx_Run5 p l e R s m args below meth c H locs cells slots mc ms (F0 m pc ls st0) rest (va_Qv post B A1 a) (vx_X px BX AX) free) (hS : va_S A0 H0 H locs) (hA : ∀ q, q < H.size → A1 q → A0 q) (hf : ∀ q, free q → A0 q) (hAX : ∀ q, q < H.size → AX q → A0 q)
    (kx : ∀ (E : String) (ce : Cell) (q9 : Addr) (u : SX) (t : State) (H1 : Heap) (locs1 : List Loc), t.heap = H1 → s.vm.Alike t.vm → px u → BX E u t → H.size ≤ H1.size → (∀ q : Nat, q < H.size → ¬ AX q → H1[q]? = H[q]?) → va_S A0 H0 H1 locs1 → H1[q9]? = some ce → ce.vm = .none → s.vm.findClass E = some ce.cls → vx_W p l e R s m args below meth c H1 locs1 (cells + mc) (slots + ms) Q (F0 m pc ls rest) q9)
    (kk : ∀ (u : S) (t : State) (H1 : Heap) (locs1 : List Loc), t.heap = H1 → s.vm.Alike t.vm → post u → B u t → H.size ≤ H1.size → (∀ q : Nat, q < H.size → ¬ A1 q → H1[q]? = H[q]?) → va_S A0 H0 H1 locs1 → W p l e R s m args below meth c H1 locs1 (cells + mc) (slots + ms) Q (F0 m (pc + 5) ls (rest))) : W p l e R s m args below meth c H locs cells slots Q (F0 m pc ls st0) := by
  intro T hT X
  rcases hr T hT X with ⟨v, st₀, t, T', L, h0, X', hL, e1, e2, ⟨⟨u, hv, hp, hb⟩, hF⟩, st⟩ | ⟨q, st₀, t, T', L, E, ce, h0, X', hL, e1, e2, ⟨u, hp, hb, hF⟩, hce, hcv, hcl, st⟩
  · cases hv
    obtain ⟨k1, k2, k3⟩ := vx_keep h0 e1 hS hA hf hL hF
    obtain ⟨t2, a1, b1⟩ := kk u t T'.heap (locs ++ L) e1.symm (by rw [← e2]; exact X'.warmed.alike) hp hb k1 k2 k3 T' rfl X'
    exact ⟨t2, st t2 a1, b1⟩
  · obtain ⟨k1, k2, k3⟩ := vx_keep h0 e1 hS hAX hf hL hF
    obtain ⟨t2, a1, b1⟩ := kx E ce q u t T'.heap (locs ++ L) e1.symm (by rw [← e2]; exact X'.warmed.alike) hp hb k1 k2 k3 (by rw [e1]; exact hce) hcv hcl T' rfl X'
    exact ⟨t2, st.trans a1, b1⟩
theorem vx_callFi {S SX : Type} {post : Int32 → S → Prop} {px : SX → Prop} {B : S → State → Prop} {BX : String → SX → State → Prop} {AX : Nat → Prop} (hr : vx_Run5 p l e R s m args below meth c H locs cells slots mc ms (F0 m pc ls st0) rest (va_Qi post B A1 a) (vx_X px BX AX) free) (hS : va_S A0 H0 H locs) (hA : ∀ q, q < H.size → A1 q → A0 q) (hf : ∀ q, free q → A0 q) (hAX : ∀ q, q < H.size → AX q → A0 q)
    (kx : ∀ (E : String) (ce : Cell) (q9 : Addr) (u : SX) (t : State) (H1 : Heap) (locs1 : List Loc), t.heap = H1 → s.vm.Alike t.vm → px u → BX E u t → H.size ≤ H1.size → (∀ q : Nat, q < H.size → ¬ AX q → H1[q]? = H[q]?) → va_S A0 H0 H1 locs1 → H1[q9]? = some ce → ce.vm = .none → s.vm.findClass E = some ce.cls → vx_W p l e R s m args below meth c H1 locs1 (cells + mc) (slots + ms) Q (F0 m pc ls rest) q9)
    (kk : ∀ (r : Int32) (u : S) (t : State) (H1 : Heap) (locs1 : List Loc), t.heap = H1 → s.vm.Alike t.vm → post r u → B u t → H.size ≤ H1.size → (∀ q : Nat, q < H.size → ¬ A1 q → H1[q]? = H[q]?) → va_S A0 H0 H1 locs1 → W p l e R s m args below meth c H1 locs1 (cells + mc) (slots + ms) Q (F0 m (pc + 5) ls (.int r :: rest))) : W p l e R s m args below meth c H locs cells slots Q (F0 m pc ls st0) := by
  intro T hT X
  rcases hr T hT X with ⟨v, st₀, t, T', L, h0, X', hL, e1, e2, ⟨⟨r, u, hv, hp, hb⟩, hF⟩, st⟩ | ⟨q, st₀, t, T', L, E, ce, h0, X', hL, e1, e2, ⟨u, hp, hb, hF⟩, hce, hcv, hcl, st⟩
  · cases hv
    obtain ⟨k1, k2, k3⟩ := vx_keep h0 e1 hS hA hf hL hF
    obtain ⟨t2, a1, b1⟩ := kk r u t T'.heap (locs ++ L) e1.symm (by rw [← e2]; exact X'.warmed.alike) hp hb k1 k2 k3 T' rfl X'
    exact ⟨t2, st t2 a1, b1⟩
  · obtain ⟨k1, k2, k3⟩ := vx_keep h0 e1 hS hAX hf hL hF
    obtain ⟨t2, a1, b1⟩ := kx E ce q u t T'.heap (locs ++ L) e1.symm (by rw [← e2]; exact X'.warmed.alike) hp hb k1 k2 k3 (by rw [e1]; exact hce) hcv hcl T' rfl X'
    exact ⟨t2, st.trans a1, b1⟩
theorem vx_callFl {S SX : Type} {post : Int64 → S → Prop} {px : SX → Prop} {B : S → State → Prop} {BX : String → SX → State → Prop} {AX : Nat → Prop} (hr : vx_Run5 p l e R s m args below meth c H locs cells slots mc ms (F0 m pc ls st0) rest (va_Ql post B A1 a) (vx_X px BX AX) free) (hS : va_S A0 H0 H locs) (hA : ∀ q, q < H.size → A1 q → A0 q) (hf : ∀ q, free q → A0 q) (hAX : ∀ q, q < H.size → AX q → A0 q)
    (kx : ∀ (E : String) (ce : Cell) (q9 : Addr) (u : SX) (t : State) (H1 : Heap) (locs1 : List Loc), t.heap = H1 → s.vm.Alike t.vm → px u → BX E u t → H.size ≤ H1.size → (∀ q : Nat, q < H.size → ¬ AX q → H1[q]? = H[q]?) → va_S A0 H0 H1 locs1 → H1[q9]? = some ce → ce.vm = .none → s.vm.findClass E = some ce.cls → vx_W p l e R s m args below meth c H1 locs1 (cells + mc) (slots + ms) Q (F0 m pc ls rest) q9)
    (kk : ∀ (r : Int64) (u : S) (t : State) (H1 : Heap) (locs1 : List Loc), t.heap = H1 → s.vm.Alike t.vm → post r u → B u t → H.size ≤ H1.size → (∀ q : Nat, q < H.size → ¬ A1 q → H1[q]? = H[q]?) → va_S A0 H0 H1 locs1 → W p l e R s m args below meth c H1 locs1 (cells + mc) (slots + ms) Q (F0 m (pc + 5) ls (.long r :: rest))) : W p l e R s m args below meth c H locs cells slots Q (F0 m pc ls st0) := by
  intro T hT X
  rcases hr T hT X with ⟨v, st₀, t, T', L, h0, X', hL, e1, e2, ⟨⟨r, u, hv, hp, hb⟩, hF⟩, st⟩ | ⟨q, st₀, t, T', L, E, ce, h0, X', hL, e1, e2, ⟨u, hp, hb, hF⟩, hce, hcv, hcl, st⟩
  · cases hv
    obtain ⟨k1, k2, k3⟩ := vx_keep h0 e1 hS hA hf hL hF
    obtain ⟨t2, a1, b1⟩ := kk r u t T'.heap (locs ++ L) e1.symm (by rw [← e2]; exact X'.warmed.alike) hp hb k1 k2 k3 T' rfl X'
    exact ⟨t2, st t2 a1, b1⟩
  · obtain ⟨k1, k2, k3⟩ := vx_keep h0 e1 hS hAX hf hL hF
    obtain ⟨t2, a1, b1⟩ := kx E ce q u t T'.heap (locs ++ L) e1.symm (by rw [← e2]; exact X'.warmed.alike) hp hb k1 k2 k3 (by rw [e1]; exact hce) hcv hcl T' rfl X'
    exact ⟨t2, st.trans a1, b1⟩
theorem vx_callFf {S SX : Type} {post : UInt32 → S → Prop} {px : SX → Prop} {B : S → State → Prop} {BX : String → SX → State → Prop} {AX : Nat → Prop} (hr : vx_Run5 p l e R s m args below meth c H locs cells slots mc ms (F0 m pc ls st0) rest (va_Qf post B A1 a) (vx_X px BX AX) free) (hS : va_S A0 H0 H locs) (hA : ∀ q, q < H.size → A1 q → A0 q) (hf : ∀ q, free q → A0 q) (hAX : ∀ q, q < H.size → AX q → A0 q)
    (kx : ∀ (E : String) (ce : Cell) (q9 : Addr) (u : SX) (t : State) (H1 : Heap) (locs1 : List Loc), t.heap = H1 → s.vm.Alike t.vm → px u → BX E u t → H.size ≤ H1.size → (∀ q : Nat, q < H.size → ¬ AX q → H1[q]? = H[q]?) → va_S A0 H0 H1 locs1 → H1[q9]? = some ce → ce.vm = .none → s.vm.findClass E = some ce.cls → vx_W p l e R s m args below meth c H1 locs1 (cells + mc) (slots + ms) Q (F0 m pc ls rest) q9)
    (kk : ∀ (r : UInt32) (u : S) (t : State) (H1 : Heap) (locs1 : List Loc), t.heap = H1 → s.vm.Alike t.vm → post r u → B u t → H.size ≤ H1.size → (∀ q : Nat, q < H.size → ¬ A1 q → H1[q]? = H[q]?) → va_S A0 H0 H1 locs1 → W p l e R s m args below meth c H1 locs1 (cells + mc) (slots + ms) Q (F0 m (pc + 5) ls (.float r :: rest))) : W p l e R s m args below meth c H locs cells slots Q (F0 m pc ls st0) := by
  intro T hT X
  rcases hr T hT X with ⟨v, st₀, t, T', L, h0, X', hL, e1, e2, ⟨⟨r, u, hv, hp, hb⟩, hF⟩, st⟩ | ⟨q, st₀, t, T', L, E, ce, h0, X', hL, e1, e2, ⟨u, hp, hb, hF⟩, hce, hcv, hcl, st⟩
  · cases hv
    obtain ⟨k1, k2, k3⟩ := vx_keep h0 e1 hS hA hf hL hF
    obtain ⟨t2, a1, b1⟩ := kk r u t T'.heap (locs ++ L) e1.symm (by rw [← e2]; exact X'.warmed.alike) hp hb k1 k2 k3 T' rfl X'
    exact ⟨t2, st t2 a1, b1⟩
  · obtain ⟨k1, k2, k3⟩ := vx_keep h0 e1 hS hAX hf hL hF
    obtain ⟨t2, a1, b1⟩ := kx E ce q u t T'.heap (locs ++ L) e1.symm (by rw [← e2]; exact X'.warmed.alike) hp hb k1 k2 k3 (by rw [e1]; exact hce) hcv hcl T' rfl X'
    exact ⟨t2, st.trans a1, b1⟩
theorem vx_callFd {S SX : Type} {post : UInt64 → S → Prop} {px : SX → Prop} {B : S → State → Prop} {BX : String → SX → State → Prop} {AX : Nat → Prop} (hr : vx_Run5 p l e R s m args below meth c H locs cells slots mc ms (F0 m pc ls st0) rest (va_Qd post B A1 a) (vx_X px BX AX) free) (hS : va_S A0 H0 H locs) (hA : ∀ q, q < H.size → A1 q → A0 q) (hf : ∀ q, free q → A0 q) (hAX : ∀ q, q < H.size → AX q → A0 q)
    (kx : ∀ (E : String) (ce : Cell) (q9 : Addr) (u : SX) (t : State) (H1 : Heap) (locs1 : List Loc), t.heap = H1 → s.vm.Alike t.vm → px u → BX E u t → H.size ≤ H1.size → (∀ q : Nat, q < H.size → ¬ AX q → H1[q]? = H[q]?) → va_S A0 H0 H1 locs1 → H1[q9]? = some ce → ce.vm = .none → s.vm.findClass E = some ce.cls → vx_W p l e R s m args below meth c H1 locs1 (cells + mc) (slots + ms) Q (F0 m pc ls rest) q9)
    (kk : ∀ (r : UInt64) (u : S) (t : State) (H1 : Heap) (locs1 : List Loc), t.heap = H1 → s.vm.Alike t.vm → post r u → B u t → H.size ≤ H1.size → (∀ q : Nat, q < H.size → ¬ A1 q → H1[q]? = H[q]?) → va_S A0 H0 H1 locs1 → W p l e R s m args below meth c H1 locs1 (cells + mc) (slots + ms) Q (F0 m (pc + 5) ls (.double r :: rest))) : W p l e R s m args below meth c H locs cells slots Q (F0 m pc ls st0) := by
  intro T hT X
  rcases hr T hT X with ⟨v, st₀, t, T', L, h0, X', hL, e1, e2, ⟨⟨r, u, hv, hp, hb⟩, hF⟩, st⟩ | ⟨q, st₀, t, T', L, E, ce, h0, X', hL, e1, e2, ⟨u, hp, hb, hF⟩, hce, hcv, hcl, st⟩
  · cases hv
    obtain ⟨k1, k2, k3⟩ := vx_keep h0 e1 hS hA hf hL hF
    obtain ⟨t2, a1, b1⟩ := kk r u t T'.heap (locs ++ L) e1.symm (by rw [← e2]; exact X'.warmed.alike) hp hb k1 k2 k3 T' rfl X'
    exact ⟨t2, st t2 a1, b1⟩
  · obtain ⟨k1, k2, k3⟩ := vx_keep h0 e1 hS hAX hf hL hF
    obtain ⟨t2, a1, b1⟩ := kx E ce q u t T'.heap (locs ++ L) e1.symm (by rw [← e2]; exact X'.warmed.alike) hp hb k1 k2 k3 (by rw [e1]; exact hce) hcv hcl T' rfl X'
    exact ⟨t2, st.trans a1, b1⟩
end
/-! ===== END ===== -/
/-! ===== BEGIN by an interface, a method with a table of its own that may throw (follows va_callIFW, va_runFW) ===== -/
section
variable {p : Program} {l : Launch} {e : Env} {R : Room} {s : State} {m : MethodId} {args : Array Value} {below : List Frame} {meth : Method} {c : Code} {H : Heap} {locs : List Loc} {cells slots : Nat}
theorem vx_callIFW {T : State} (X : Stand p l e R s m args below meth c T locs cells slots) (hexec : p.tables.exec = Jvm.exec) {own C : String} {index count : Nat} {x y : MethodName} {bytes : ByteArray} {maxL : Nat} {ret : Option FieldType} {hh : List (Nat × Nat × Nat × Nat)}
    (hown : s.vm.findClass own = some m.cls) (hlink : (Cond.methodLink own index x).before args s = true) (hdecl : (Cond.declares x).before args s = true) (hface : (Cond.interfaceMethod x.cls x.cls x.name x.desc).before args s = true)
    (hsel : (Cond.selects C x y).before args s = true) (hinst : (Cond.instanceMethod y).before args s = true) (hpub : (Cond.publicMethod y).before args s = true) (hunh : (Cond.unhidden C x.name x.desc).before args s = true)
    (hcast : (Cond.castable C x.cls).before args s = true) (hcode : (Cond.codeWith y bytes maxL ret hh).before args s = true) (hx : x.cls ≠ "java/lang/invoke/MethodHandle" ∧ x.cls ≠ "java/lang/invoke/VarHandle")
    {W : Nat} {Pre : Pt → Array Value → Prop} {Post : Pt → Array Value → Option Value → Pt → Prop} {PostX : Pt → Array Value → Addr → Pt → Prop} (hK : vx_Back l R p e below s args y 5 W Pre Post PostX)
    {b : Addr} {cellB : Cell} {kB : Class} (hcell : T.heap[b]? = some cellB) (hobj : cellB.vm.isStatics = false) (hcls : s.vm.findClass C = some cellB.cls) (hkB : s.vm.classes[cellB.cls]? = some kB)
    {g : JFrame} (hg : g.method = m) (hsize : g.locals.size = c.maxLocals) {argsL rest : List Value} (hlen : ∀ sig, parseMethodDescriptor x.desc = some sig → argsL.length = sig.parameters.length)
    (hstack : g.stack = argsL.reverse ++ .ref b :: rest) (hW : 2 * g.monitorRoom + (rest.map fun v => v.category).sum ≤ W) (hdg : decode c.code g.pc = .ok (.invokeinterface index count, 5))
    (hpre : ∀ vm₁, s.WarmedH vm₁ → Pre ⟨T.setVm vm₁, locs, cells, slots⟩ (Value.ref b :: argsL).toArray) :
    (∃ (v : Option Value) (vm₁ : Vm) (B : Pt), s.WarmedH vm₁ ∧ Stand p l e R s m args below meth c B.U B.locs B.cells B.slots ∧ Post ⟨T.setVm vm₁, locs, cells, slots⟩ (Value.ref b :: argsL).toArray v B ∧
      ∀ target, Steps p.tables e below (B.U.setTop { g with pc := g.pc + 5, stack := v.toList ++ rest }) target → Steps p.tables e below (T.setTop g) target) ∨
    (∃ (q : Addr) (vm₁ : Vm) (B : Pt), s.WarmedH vm₁ ∧ Stand p l e R s m args below meth c B.U B.locs B.cells B.slots ∧ PostX ⟨T.setVm vm₁, locs, cells, slots⟩ (Value.ref b :: argsL).toArray q B ∧
      Steps p.tables e below (T.setTop g) ((B.U.setTop { g with stack := rest }).pushFrame (.throwing q))) := by
  obtain ⟨r0, r, hn, hrm, hstR, hsigR⟩ := Cond.declares_spec hdecl
  obtain ⟨cL, kL, r1, hcL, hkL, hiL, hfoundL, hn1⟩ := Cond.interfaceMethod_spec hface
  cases hn.symm.trans hn1
  have hr0cls : r0.cls = cL := Option.some.inj ((findClass_of_methodNamed hn).symm.trans hcL)
  obtain ⟨hnameR, hdescR⟩ := name_of_methodNamed hn hrm
  obtain ⟨mk, methM, hnamed, hmethM, -, habM⟩ := Cond.instanceMethod_spec hinst
  obtain ⟨c2, r2, m2, q1, q2, q3, q4, -⟩ := Cond.selects_spec hsel
  cases hcls.symm.trans q1
  cases hfoundL.symm.trans q2
  cases hnamed.symm.trans q3
  have hselP : selectMethod e.platform s.vm cellB.cls r0 = .method mk := by rw [Launch.admits_selectMethod X.admits]; exact q4
  have hpubM : hasFlag methM.accessFlags Acc.public_ = true := Cond.publicMethod_spec hnamed hmethM hpub
  have hway : ((cellB.cls :: s.vm.superclasses cellB.cls).any fun k => (declaredIn s.vm r.name r.desc k).any fun (_, z) => z.isPrivate || z.isStatic) = false := by
    rw [hnameR, hdescR]; exact Cond.unhidden_spec hcls hunh
  obtain ⟨c3, t3, w1, w2, w3⟩ := Cond.castable_spec hcast
  cases hcls.symm.trans w1
  cases hcL.symm.trans w2
  obtain ⟨vm₁, X₁, hstep₁⟩ := X.invokeinterface hexec hown hlink hn hrm hstR (by rw [hr0cls]; exact hkL) hiL hx (a := b) (cell := cellB) (kcell := kB) hcell
    (fun z h => by rw [h] at hobj; cases hobj) hkB (by rw [hr0cls]; exact w3) hselP hmethM hway hpubM habM (g := g) hg (argsL := argsL) (rest := rest) (hlen _ hsigR) hstack hdg
  rcases hK m meth c ⟨T.setVm vm₁, locs, cells, slots⟩ { g with stack := rest } (.invokeinterface index count) mk (Value.ref b :: argsL).toArray X₁ hg hsize hdg hW (X₁.named hnamed) (hpre vm₁ X₁.warmed) with ⟨v, B, X', hpost, hsteps⟩ | ⟨q, B, X', hpost, hsteps⟩
  · exact Or.inl ⟨v, vm₁, B, X₁.warmed, X', hpost, fun target h => hstep₁ _ fun acts => by rw [doInvoke_state]; exact hsteps.trans h⟩
  · exact Or.inr ⟨q, vm₁, B, X₁.warmed, X', hpost, hstep₁ _ fun acts => by rw [doInvoke_state]; exact hsteps⟩
theorem vx_runFW {x y : MethodName} {bytes cc : ByteArray} {maxL nL mc ms n index count : Nat} {ret : Option FieldType} {hh : List (Nat × Nat × Nat × Nat)} {ws : List Cond} {rm : Room} {Pc : Array Value → State → Prop} {Qc : Array Value → State → Outcome → State → Prop} {XC : String → State → State → Prop} {free : Addr → Prop} {Ts : List Cond} {own C : String} {cC : ClassId} {b : Addr} {As rest : List Value} {g : JFrame}
    (hat : ClassAt s C cC) (S : CallFix p m c cc nL s args Ts own) (hM : vx_Met l y ws rm Pc Qc XC mc ms free) (cw : va_CIW R s args own C index x y bytes maxL ret hh ws rm mc ms n) (hp : PreV s H C b Pc As)
    (hg : g.method = m) (hn : As.length = n) (hsize : g.locals.size = nL) (hstack : g.stack = As.reverse ++ .ref b :: rest) (hW : 2 * g.monitorRoom + (rest.map fun v => v.category).sum ≤ 8) (hdg : decode cc g.pc = .ok (.invokeinterface index count, 5)) (hf : cells + mc ≤ R.cells ∧ slots + ms ≤ R.slots) :
    vx_Run5 p l e R s m args below meth c H locs cells slots mc ms g rest (Qc (Value.ref b :: As).toArray) XC free := by
  obtain ⟨hrc, hrs, hfr, hlo, hws, hcw⟩ := cw.back
  have hini := cw.init
  have hK : vx_Back l R p e below s args y 5 8 (PreOf R mc ms Pc) (PostOf Qc mc ms free) (vx_Post XC mc ms free) := vx_backW (hh := hh) (bytes := bytes) (maxL := maxL) (ret := ret) hM hp.1 hrc hrs hfr hlo hws hcw (fun a' U hW => word_at hW (Or.inl (by first | rfl | simp [Cond.onTables, Cond.keeps, Cond.steady])) hini)
  obtain ⟨hx, hb, hml, ho, -⟩ := S
  obtain ⟨-, ⟨cellB, hcB, hoB, hclB⟩, hPc⟩ := hp
  obtain ⟨hfc, kB, hkB, -⟩ := hat
  cases hfc.symm.trans hclB
  intro T hT X
  rcases vx_callIFW X hx (C := C) (hh := hh) (bytes := bytes) (maxL := maxL) (ret := ret) ho cw.link cw.decl cw.face cw.sel cw.inst cw.pub cw.unh cw.cast cw.code cw.notMH hK (by rw [hT]; exact hcB) hoB hclB hkB hg (hsize.trans hml.symm) (argsL := As) (rest := rest) (fun sig h => hn.trans (cw.len sig h)) hstack hW (by rw [hb]; exact hdg)
    (fun vm₁ hW₁ => ⟨hf.1, hf.2, hPc (T.setVm vm₁) hT hW₁⟩) with ⟨v, vm₁, ⟨U', l2, c2, s2⟩, hW₁, X', ⟨g', mk, t, L, e1, e2, hq, h1, hL, h2, h3⟩, st⟩ | ⟨q, vm₁, ⟨U', l2, c2, s2⟩, hW₁, X', ⟨g', mk, t, L, E, ce, e1, e2, hq, hce, hcv, hcl, h1, hL, h2, h3⟩, st⟩
  · dsimp only [Pt.U, Pt.locs, Pt.cells, Pt.slots] at X' e1 e2 h1 h2 h3 st
    subst h1; subst h2; subst h3
    exact Or.inl ⟨v, (T.setVm vm₁).calling g' mk (Value.ref b :: As).toArray, t, U', L, hT, X', hL, e1, e2, hq, st⟩
  · dsimp only [Pt.U, Pt.locs, Pt.cells, Pt.slots] at X' e1 e2 h1 h2 h3 st hcl
    subst h1; subst h2; subst h3
    exact Or.inr ⟨q, (T.setVm vm₁).calling g' mk (Value.ref b :: As).toArray, t, U', L, E, ce, hT, X', hL, e1, e2, hq, hce, hcv, vx_cls hW₁ hcl, st⟩
end
/-! ===== END ===== -/
/-! ===== BEGIN .. of methods that hand back an object of the pool ===== -/
section
variable {p : Program} {l : Launch} {e : Env} {R : Room} {s : State} {m : MethodId} {args : Array Value} {below : List Frame} {meth : Method} {c : Code} {H : Heap} {locs : List Loc} {cells slots : Nat} {Q : State → Prop}
variable {mc ms : Nat} {free : Addr → Prop} {A0 A1 : Nat → Prop} {H0 : Heap} {a : Array Value} {pc : Nat} {ls : Array Slot} {st0 rest : List Value}
theorem vx_callq {S SX : Type} {post : Option Nat → S → Prop} {px : SX → Prop} {B : S → State → Prop} {BX : String → SX → State → Prop} {AX : Nat → Prop} (hr : vx_Run p l e R s m args below meth c H locs cells slots mc ms (F0 m pc ls st0) rest (va_Qq post B A1 a) (vx_X px BX AX) free) (hS : va_S A0 H0 H locs) (hA : ∀ q, q < H.size → A1 q → A0 q) (hf : ∀ q, free q → A0 q) (hAX : ∀ q, q < H.size → AX q → A0 q)
    (kx : ∀ (E : String) (ce : Cell) (q9 : Addr) (u : SX) (t : State) (H1 : Heap) (locs1 : List Loc), t.heap = H1 → s.vm.Alike t.vm → px u → BX E u t → H.size ≤ H1.size → (∀ q : Nat, q < H.size → ¬ AX q → H1[q]? = H[q]?) → va_S A0 H0 H1 locs1 → H1[q9]? = some ce → ce.vm = .none → s.vm.findClass E = some ce.cls → vx_W p l e R s m args below meth c H1 locs1 (cells + mc) (slots + ms) Q (F0 m pc ls rest) q9)
    (kk : ∀ (r : Option Nat) (u : S) (t : State) (H1 : Heap) (locs1 : List Loc), t.heap = H1 → s.vm.Alike t.vm → post r u → B u t → H.size ≤ H1.size → (∀ q : Nat, q < H.size → ¬ A1 q → H1[q]? = H[q]?) → va_S A0 H0 H1 locs1 → W p l e R s m args below meth c H1 locs1 (cells + mc) (slots + ms) Q (F0 m (pc + 3) ls (va_rf r :: rest))) : W p l e R s m args below meth c H locs cells slots Q (F0 m pc ls st0) := by
  intro T hT X
  rcases hr T hT X with ⟨v, st₀, t, T', L, h0, X', hL, e1, e2, ⟨⟨r, u, hv, hp, hb⟩, hF⟩, st⟩ | ⟨q, st₀, t, T', L, E, ce, h0, X', hL, e1, e2, ⟨u, hp, hb, hF⟩, hce, hcv, hcl, st⟩
  · cases hv
    obtain ⟨k1, k2, k3⟩ := vx_keep h0 e1 hS hA hf hL hF
    obtain ⟨t2, a1, b1⟩ := kk r u t T'.heap (locs ++ L) e1.symm (by rw [← e2]; exact X'.warmed.alike) hp hb k1 k2 k3 T' rfl X'
    exact ⟨t2, st t2 a1, b1⟩
  · obtain ⟨k1, k2, k3⟩ := vx_keep h0 e1 hS hAX hf hL hF
    obtain ⟨t2, a1, b1⟩ := kx E ce q u t T'.heap (locs ++ L) e1.symm (by rw [← e2]; exact X'.warmed.alike) hp hb k1 k2 k3 (by rw [e1]; exact hce) hcv hcl T' rfl X'
    exact ⟨t2, st.trans a1, b1⟩
end
/-! ===== END ===== -/
/-! ===== BEGIN .. a constant ===== -/
section
variable {p : Program} {l : Launch} {e : Env} {R : Room} {s : State} {m : MethodId} {args : Array Value} {below : List Frame} {meth : Method} {c : Code} {H : Heap} {locs : List Loc} {cells slots : Nat} {Q : State → Prop}
variable {mc ms : Nat} {free : Addr → Prop} {A0 A1 : Nat → Prop} {H0 : Heap} {a : Array Value} {pc : Nat} {ls : Array Slot} {st0 rest : List Value}
theorem vx_calle {ad : Nat → Nat} {S SX : Type} {post : Option Nat → S → Prop} {px : SX → Prop} {B : S → State → Prop} {BX : String → SX → State → Prop} {AX : Nat → Prop} (hr : vx_Run p l e R s m args below meth c H locs cells slots mc ms (F0 m pc ls st0) rest (va_Qe ad post B A1 a) (vx_X px BX AX) free) (hS : va_S A0 H0 H locs) (hA : ∀ q, q < H.size → A1 q → A0 q) (hf : ∀ q, free q → A0 q) (hAX : ∀ q, q < H.size → AX q → A0 q)
    (kx : ∀ (E : String) (ce : Cell) (q9 : Addr) (u : SX) (t : State) (H1 : Heap) (locs1 : List Loc), t.heap = H1 → s.vm.Alike t.vm → px u → BX E u t → H.size ≤ H1.size → (∀ q : Nat, q < H.size → ¬ AX q → H1[q]? = H[q]?) → va_S A0 H0 H1 locs1 → H1[q9]? = some ce → ce.vm = .none → s.vm.findClass E = some ce.cls → vx_W p l e R s m args below meth c H1 locs1 (cells + mc) (slots + ms) Q (F0 m pc ls rest) q9)
    (kk : ∀ (r : Option Nat) (u : S) (t : State) (H1 : Heap) (locs1 : List Loc), t.heap = H1 → s.vm.Alike t.vm → post r u → B u t → H.size ≤ H1.size → (∀ q : Nat, q < H.size → ¬ A1 q → H1[q]? = H[q]?) → va_S A0 H0 H1 locs1 → W p l e R s m args below meth c H1 locs1 (cells + mc) (slots + ms) Q (F0 m (pc + 3) ls (va_re ad r :: rest))) : W p l e R s m args below meth c H locs cells slots Q (F0 m pc ls st0) := by
  intro T hT X
  rcases hr T hT X with ⟨v, st₀, t, T', L, h0, X', hL, e1, e2, ⟨⟨r, u, hv, hp, hb⟩, hF⟩, st⟩ | ⟨q, st₀, t, T', L, E, ce, h0, X', hL, e1, e2, ⟨u, hp, hb, hF⟩, hce, hcv, hcl, st⟩
  · cases hv
    obtain ⟨k1, k2, k3⟩ := vx_keep h0 e1 hS hA hf hL hF
    obtain ⟨t2, a1, b1⟩ := kk r u t T'.heap (locs ++ L) e1.symm (by rw [← e2]; exact X'.warmed.alike) hp hb k1 k2 k3 T' rfl X'
    exact ⟨t2, st t2 a1, b1⟩
  · obtain ⟨k1, k2, k3⟩ := vx_keep h0 e1 hS hAX hf hL hF
    obtain ⟨t2, a1, b1⟩ := kx E ce q u t T'.heap (locs ++ L) e1.symm (by rw [← e2]; exact X'.warmed.alike) hp hb k1 k2 k3 (by rw [e1]; exact hce) hcv hcl T' rfl X'
    exact ⟨t2, st.trans a1, b1⟩
end
/-! ===== END ===== -/
/-! ===== BEGIN .. by an interface, an object ===== -/
section
variable {p : Program} {l : Launch} {e : Env} {R : Room} {s : State} {m : MethodId} {args : Array Value} {below : List Frame} {meth : Method} {c : Code} {H : Heap} {locs : List Loc} {cells slots : Nat} {Q : State → Prop}
variable {mc ms : Nat} {free : Addr → Prop} {A0 A1 : Nat → Prop} {H0 : Heap} {a : Array Value} {pc : Nat} {ls : Array Slot} {st0 rest : List Value}
theorem vx_callFq {S SX : Type} {post : Option Nat → S → Prop} {px : SX → Prop} {B : S → State → Prop} {BX : String → SX → State → Prop} {AX : Nat → Prop} (hr : vx_Run5 p l e R s m args below meth c H locs cells slots mc ms (F0 m pc ls st0) rest (va_Qq post B A1 a) (vx_X px BX AX) free) (hS : va_S A0 H0 H locs) (hA : ∀ q, q < H.size → A1 q → A0 q) (hf : ∀ q, free q → A0 q) (hAX : ∀ q, q < H.size → AX q → A0 q)
    (kx : ∀ (E : String) (ce : Cell) (q9 : Addr) (u : SX) (t : State) (H1 : Heap) (locs1 : List Loc), t.heap = H1 → s.vm.Alike t.vm → px u → BX E u t → H.size ≤ H1.size → (∀ q : Nat, q < H.size → ¬ AX q → H1[q]? = H[q]?) → va_S A0 H0 H1 locs1 → H1[q9]? = some ce → ce.vm = .none → s.vm.findClass E = some ce.cls → vx_W p l e R s m args below meth c H1 locs1 (cells + mc) (slots + ms) Q (F0 m pc ls rest) q9)
    (kk : ∀ (r : Option Nat) (u : S) (t : State) (H1 : Heap) (locs1 : List Loc), t.heap = H1 → s.vm.Alike t.vm → post r u → B u t → H.size ≤ H1.size → (∀ q : Nat, q < H.size → ¬ A1 q → H1[q]? = H[q]?) → va_S A0 H0 H1 locs1 → W p l e R s m args below meth c H1 locs1 (cells + mc) (slots + ms) Q (F0 m (pc + 5) ls (va_rf r :: rest))) : W p l e R s m args below meth c H locs cells slots Q (F0 m pc ls st0) := by
  intro T hT X
  rcases hr T hT X with ⟨v, st₀, t, T', L, h0, X', hL, e1, e2, ⟨⟨r, u, hv, hp, hb⟩, hF⟩, st⟩ | ⟨q, st₀, t, T', L, E, ce, h0, X', hL, e1, e2, ⟨u, hp, hb, hF⟩, hce, hcv, hcl, st⟩
  · cases hv
    obtain ⟨k1, k2, k3⟩ := vx_keep h0 e1 hS hA hf hL hF
    obtain ⟨t2, a1, b1⟩ := kk r u t T'.heap (locs ++ L) e1.symm (by rw [← e2]; exact X'.warmed.alike) hp hb k1 k2 k3 T' rfl X'
    exact ⟨t2, st t2 a1, b1⟩
  · obtain ⟨k1, k2, k3⟩ := vx_keep h0 e1 hS hAX hf hL hF
    obtain ⟨t2, a1, b1⟩ := kx E ce q u t T'.heap (locs ++ L) e1.symm (by rw [← e2]; exact X'.warmed.alike) hp hb k1 k2 k3 (by rw [e1]; exact hce) hcv hcl T' rfl X'
    exact ⟨t2, st.trans a1, b1⟩
end
/-! ===== END ===== -/
/-! ===== BEGIN .. by an interface, a constant ===== -/
section
variable {p : Program} {l : Launch} {e : Env} {R : Room} {s : State} {m : MethodId} {args : Array Value} {below : List Frame} {meth : Method} {c : Code} {H : Heap} {locs : List Loc} {cells slots : Nat} {Q : State → Prop}
variable {mc ms : Nat} {free : Addr → Prop} {A0 A1 : Nat → Prop} {H0 : Heap} {a : Array Value} {pc : Nat} {ls : Array Slot} {st0 rest : List Value}
theorem vx_callFe {ad : Nat → Nat} {S SX : Type} {post : Option Nat → S → Prop} {px : SX → Prop} {B : S → State → Prop} {BX : String → SX → State → Prop} {AX : Nat → Prop} (hr : vx_Run5 p l e R s m args below meth c H locs cells slots mc ms (F0 m pc ls st0) rest (va_Qe ad post B A1 a) (vx_X px BX AX) free) (hS : va_S A0 H0 H locs) (hA : ∀ q, q < H.size → A1 q → A0 q) (hf : ∀ q, free q → A0 q) (hAX : ∀ q, q < H.size → AX q → A0 q)
    (kx : ∀ (E : String) (ce : Cell) (q9 : Addr) (u : SX) (t : State) (H1 : Heap) (locs1 : List Loc), t.heap = H1 → s.vm.Alike t.vm → px u → BX E u t → H.size ≤ H1.size → (∀ q : Nat, q < H.size → ¬ AX q → H1[q]? = H[q]?) → va_S A0 H0 H1 locs1 → H1[q9]? = some ce → ce.vm = .none → s.vm.findClass E = some ce.cls → vx_W p l e R s m args below meth c H1 locs1 (cells + mc) (slots + ms) Q (F0 m pc ls rest) q9)
    (kk : ∀ (r : Option Nat) (u : S) (t : State) (H1 : Heap) (locs1 : List Loc), t.heap = H1 → s.vm.Alike t.vm → post r u → B u t → H.size ≤ H1.size → (∀ q : Nat, q < H.size → ¬ A1 q → H1[q]? = H[q]?) → va_S A0 H0 H1 locs1 → W p l e R s m args below meth c H1 locs1 (cells + mc) (slots + ms) Q (F0 m (pc + 5) ls (va_re ad r :: rest))) : W p l e R s m args below meth c H locs cells slots Q (F0 m pc ls st0) := by
  intro T hT X
  rcases hr T hT X with ⟨v, st₀, t, T', L, h0, X', hL, e1, e2, ⟨⟨r, u, hv, hp, hb⟩, hF⟩, st⟩ | ⟨q, st₀, t, T', L, E, ce, h0, X', hL, e1, e2, ⟨u, hp, hb, hF⟩, hce, hcv, hcl, st⟩
  · cases hv
    obtain ⟨k1, k2, k3⟩ := vx_keep h0 e1 hS hA hf hL hF
    obtain ⟨t2, a1, b1⟩ := kk r u t T'.heap (locs ++ L) e1.symm (by rw [← e2]; exact X'.warmed.alike) hp hb k1 k2 k3 T' rfl X'
    exact ⟨t2, st t2 a1, b1⟩
  · obtain ⟨k1, k2, k3⟩ := vx_keep h0 e1 hS hAX hf hL hF
    obtain ⟨t2, a1, b1⟩ := kx E ce q u t T'.heap (locs ++ L) e1.symm (by rw [← e2]; exact X'.warmed.alike) hp hb k1 k2 k3 (by rw [e1]; exact hce) hcv hcl T' rfl X'
    exact ⟨t2, st.trans a1, b1⟩
end
/-! ===== END ===== -/
/-! ===== BEGIN what the machine throws by itself: null at a field, at athrow ===== -/
section VXM2
variable {p : Program} {l : Launch} {e : Env} {R : Room} {s : State} {m : MethodId} {args : Array Value} {below : List Frame} {meth : Method} {c : Code} {H : Heap} {locs : List Loc} {cells slots : Nat}
variable {Q : State → Prop} {cc : ByteArray} {pc : Nat} {ls : Array Slot} {rest : List Value}
theorem vx_getfN {D cl tys} {own ref C : String} {T : u_T} {N ci index : Nat} {Ts : List Cond} (hexec : p.tables.exec = Jvm.exec) (hb : c.code = cc) (hts : ∀ w ∈ Ts, w.before args s = true) (hin : ∀ w ∈ u_ws C T N, w ∈ Ts) (hown : s.vm.findClass own = some m.cls) (hK : va_K D cl tys s) (hc : cl[ci]? = some (C, T, N)) (k : Nat) (hk : k < N) (hlink : (Cond.fieldLink own index ref (T k).2.1 (T k).2.2.1).before args s = true) (hsame : ∀ x, s.fieldFound? (T k).1 (T k).2.1 (T k).2.2.1 = some x → s.fieldFound? ref (T k).2.1 (T k).2.2.1 = some x) (hdg : decode cc pc = .ok (.getfield index, 3)) (kk : vx_NoteN p l e R s m args below meth c H locs cells slots Q (F0 m pc ls rest)) : W p l e R s m args below meth c H locs cells slots Q (F0 m pc ls (.null :: rest)) := by
  obtain ⟨hS, hfc, kC, hkC, -⟩ := hK.1 ci _ hc
  obtain ⟨cf, kf, fi, f, hi, -⟩ := hS k hk
  intro U hU X
  obtain ⟨vm', X1, st1⟩ := X.getfieldNull hexec hown hlink (hsame _ hi) (u_facts hfc hkC (u_lays hts hin hk) hi).1 (g := F0 m pc ls (.null :: rest)) rfl (rest := rest) rfl (by rw [hb]; exact hdg)
  obtain ⟨t, st, q⟩ := kk (U.setVm vm') hU X1
  exact ⟨t, st1 t st, q⟩
theorem vx_getfNN {D cl tys} {own ref C host : String} {T : u_T} {N ci index : Nat} {Ts : List Cond} (hexec : p.tables.exec = Jvm.exec) (hb : c.code = cc) (hts : ∀ w ∈ Ts, w.before args s = true) (hin : ∀ w ∈ u_ws C T N, w ∈ Ts) (hown : s.vm.findClass own = some m.cls) (hK : va_K D cl tys s) (hc : cl[ci]? = some (C, T, N)) (k : Nat) (hk : k < N) (hlink : (Cond.fieldLinkNest own index ref (T k).2.1 (T k).2.2.1 host).before args s = true) (hsame : ∀ x, s.fieldFound? (T k).1 (T k).2.1 (T k).2.2.1 = some x → s.fieldFound? ref (T k).2.1 (T k).2.2.1 = some x) (hdg : decode cc pc = .ok (.getfield index, 3)) (kk : vx_NoteN p l e R s m args below meth c H locs cells slots Q (F0 m pc ls rest)) : W p l e R s m args below meth c H locs cells slots Q (F0 m pc ls (.null :: rest)) := by
  obtain ⟨hS, hfc, kC, hkC, -⟩ := hK.1 ci _ hc
  obtain ⟨cf, kf, fi, f, hi, -⟩ := hS k hk
  intro U hU X
  obtain ⟨vm', X1, st1⟩ := X.getfieldNullNest hexec hown hlink (hsame _ hi) (u_facts hfc hkC (u_lays hts hin hk) hi).1 (g := F0 m pc ls (.null :: rest)) rfl (rest := rest) rfl (by rw [hb]; exact hdg)
  obtain ⟨t, st, q⟩ := kk (U.setVm vm') hU X1
  exact ⟨t, st1 t st, q⟩
theorem vx_putfN {D cl tys} {own ref C : String} {T : u_T} {N ci index : Nat} {Ts : List Cond} (hexec : p.tables.exec = Jvm.exec) (hb : c.code = cc) (hts : ∀ w ∈ Ts, w.before args s = true) (hin : ∀ w ∈ u_ws C T N, w ∈ Ts) (hown : s.vm.findClass own = some m.cls) (hK : va_K D cl tys s) (hc : cl[ci]? = some (C, T, N)) (k : Nat) (hk : k < N) (hlink : (Cond.fieldLink own index ref (T k).2.1 (T k).2.2.1).before args s = true) (hsame : ∀ x, s.fieldFound? (T k).1 (T k).2.1 (T k).2.2.1 = some x → s.fieldFound? ref (T k).2.1 (T k).2.2.1 = some x) (hfin : (T k).2.2.2 = false) {v : Value} (hdg : decode cc pc = .ok (.putfield index, 3)) (kk : vx_NoteN p l e R s m args below meth c H locs cells slots Q (F0 m pc ls rest)) : W p l e R s m args below meth c H locs cells slots Q (F0 m pc ls (v :: .null :: rest)) := by
  obtain ⟨hS, hfc, kC, hkC, -⟩ := hK.1 ci _ hc
  obtain ⟨cf, kf, fi, f, hi, -⟩ := hS k hk
  have hlay := hts _ (hin _ (u_in_lay hk))
  unfold u_lay at hlay
  rw [if_neg (by rw [hfin]; decide)] at hlay
  obtain ⟨c9, k9, cf9, kf9, fi9, f9, -, -, hi9, hst9, hnf9, -⟩ := Cond.lays_spec hlay
  cases hi.symm.trans hi9
  intro U hU X
  obtain ⟨vm', X1, st1⟩ := X.putfieldNull hexec hown hlink (hsame _ hi) hst9 hnf9 (g := F0 m pc ls (v :: .null :: rest)) rfl (v := v) (rest := rest) rfl (by rw [hb]; exact hdg)
  obtain ⟨t, st, q⟩ := kk (U.setVm vm') hU X1
  exact ⟨t, st1 t st, q⟩
theorem vx_putfNN {D cl tys} {own ref C host : String} {T : u_T} {N ci index : Nat} {Ts : List Cond} (hexec : p.tables.exec = Jvm.exec) (hb : c.code = cc) (hts : ∀ w ∈ Ts, w.before args s = true) (hin : ∀ w ∈ u_ws C T N, w ∈ Ts) (hown : s.vm.findClass own = some m.cls) (hK : va_K D cl tys s) (hc : cl[ci]? = some (C, T, N)) (k : Nat) (hk : k < N) (hlink : (Cond.fieldLinkNest own index ref (T k).2.1 (T k).2.2.1 host).before args s = true) (hsame : ∀ x, s.fieldFound? (T k).1 (T k).2.1 (T k).2.2.1 = some x → s.fieldFound? ref (T k).2.1 (T k).2.2.1 = some x) (hfin : (T k).2.2.2 = false) {v : Value} (hdg : decode cc pc = .ok (.putfield index, 3)) (kk : vx_NoteN p l e R s m args below meth c H locs cells slots Q (F0 m pc ls rest)) : W p l e R s m args below meth c H locs cells slots Q (F0 m pc ls (v :: .null :: rest)) := by
  obtain ⟨hS, hfc, kC, hkC, -⟩ := hK.1 ci _ hc
  obtain ⟨cf, kf, fi, f, hi, -⟩ := hS k hk
  have hlay := hts _ (hin _ (u_in_lay hk))
  unfold u_lay at hlay
  rw [if_neg (by rw [hfin]; decide)] at hlay
  obtain ⟨c9, k9, cf9, kf9, fi9, f9, -, -, hi9, hst9, hnf9, -⟩ := Cond.lays_spec hlay
  cases hi.symm.trans hi9
  intro U hU X
  obtain ⟨vm', X1, st1⟩ := X.putfieldNullNest hexec hown hlink (hsame _ hi) hst9 hnf9 (g := F0 m pc ls (v :: .null :: rest)) rfl (v := v) (rest := rest) rfl (by rw [hb]; exact hdg)
  obtain ⟨t, st, q⟩ := kk (U.setVm vm') hU X1
  exact ⟨t, st1 t st, q⟩
theorem vx_athrowN (hexec : p.tables.exec = Jvm.exec) (hb : c.code = cc) (hdg : decode cc pc = .ok (.athrow, 1)) (k : vx_NoteN p l e R s m args below meth c H locs cells slots Q (F0 m pc ls rest)) : W p l e R s m args below meth c H locs cells slots Q (F0 m pc ls (.null :: rest)) := by
  intro T hT X
  obtain ⟨t, st, q⟩ := k T hT X
  exact ⟨t, X.athrowNull hexec (g := F0 m pc ls (.null :: rest)) rfl (rest := rest) rfl (by rw [hb]; exact hdg) t st, q⟩
end VXM2
/-! ===== END ===== -/
end
section
-- ===== PART A: goes FIRST, ahead of the names: the tables' words, and 'selects' of the private methods out of them =====
/-- a private method of a class that the tables say can be made, by its rows of tables_1 -/
def lw_okq (q : MethodName × Nat) : Prop := (q.1.cls ≠ "java/lang/invoke/MethodHandle" ∧ q.1.cls ≠ "java/lang/invoke/VarHandle") ∧ Cond.instantiable q.1.cls q.2 ∈ tables_1 ∧ Cond.privateMethod q.1 ∈ tables_1 ∧ Cond.instanceMethod q.1 ∈ tables_1
theorem lw_p0 : lw_okq (⟨"WingTrams", "putBytes", "(I)V"⟩, 19) := ⟨⟨by decide +kernel, by decide +kernel⟩, List.mem_of_getElem? (i := 27) (by decide +kernel), List.mem_of_getElem? (i := 493) (by decide +kernel), List.mem_of_getElem? (i := 494) (by decide +kernel)⟩
theorem lw_p1 : lw_okq (⟨"WingTrams", "refuse", "(I)I"⟩, 19) := ⟨⟨by decide +kernel, by decide +kernel⟩, List.mem_of_getElem? (i := 27) (by decide +kernel), List.mem_of_getElem? (i := 509) (by decide +kernel), List.mem_of_getElem? (i := 510) (by decide +kernel)⟩
theorem lw_p2 : lw_okq (⟨"WingTrams$Log", "dropFirst", "()V"⟩, 5) := ⟨⟨by decide +kernel, by decide +kernel⟩, List.mem_of_getElem? (i := 280) (by decide +kernel), List.mem_of_getElem? (i := 521) (by decide +kernel), List.mem_of_getElem? (i := 522) (by decide +kernel)⟩
theorem lw_p3 : lw_okq (⟨"WingTrams$Night", "nextOwl", "()I"⟩, 11) := ⟨⟨by decide +kernel, by decide +kernel⟩, List.mem_of_getElem? (i := 327) (by decide +kernel), List.mem_of_getElem? (i := 560) (by decide +kernel), List.mem_of_getElem? (i := 561) (by decide +kernel)⟩
theorem lw_p4 : lw_okq (⟨"WingTrams$Night", "come", "(ILWingTrams$Sky;)V"⟩, 11) := ⟨⟨by decide +kernel, by decide +kernel⟩, List.mem_of_getElem? (i := 327) (by decide +kernel), List.mem_of_getElem? (i := 564) (by decide +kernel), List.mem_of_getElem? (i := 565) (by decide +kernel)⟩
theorem lw_p5 : lw_okq (⟨"WingTrams$Night", "minutesHunted", "(IIILWingTrams$Sky;)I"⟩, 11) := ⟨⟨by decide +kernel, by decide +kernel⟩, List.mem_of_getElem? (i := 327) (by decide +kernel), List.mem_of_getElem? (i := 568) (by decide +kernel), List.mem_of_getElem? (i := 569) (by decide +kernel)⟩
theorem lw_p6 : lw_okq (⟨"WingTrams$Night", "minutesFlown", "(IILWingTrams$Sky;)I"⟩, 11) := ⟨⟨by decide +kernel, by decide +kernel⟩, List.mem_of_getElem? (i := 327) (by decide +kernel), List.mem_of_getElem? (i := 587) (by decide +kernel), List.mem_of_getElem? (i := 588) (by decide +kernel)⟩
theorem lw_p7 : lw_okq (⟨"WingTrams$Rides", "arrive", "(I)V"⟩, 6) := ⟨⟨by decide +kernel, by decide +kernel⟩, List.mem_of_getElem? (i := 378) (by decide +kernel), List.mem_of_getElem? (i := 600) (by decide +kernel), List.mem_of_getElem? (i := 601) (by decide +kernel)⟩
theorem lw_p8 : lw_okq (⟨"WingTrams", "worthOf", "(I)I"⟩, 19) := ⟨⟨by decide +kernel, by decide +kernel⟩, List.mem_of_getElem? (i := 27) (by decide +kernel), List.mem_of_getElem? (i := 615) (by decide +kernel), List.mem_of_getElem? (i := 616) (by decide +kernel)⟩
theorem lw_p9 : lw_okq (⟨"WingTrams", "homes", "(LWingTrams$Sky;)I"⟩, 19) := ⟨⟨by decide +kernel, by decide +kernel⟩, List.mem_of_getElem? (i := 27) (by decide +kernel), List.mem_of_getElem? (i := 627) (by decide +kernel), List.mem_of_getElem? (i := 628) (by decide +kernel)⟩
theorem lw_p10 : lw_okq (⟨"WingTrams", "fitting", "()I"⟩, 19) := ⟨⟨by decide +kernel, by decide +kernel⟩, List.mem_of_getElem? (i := 27) (by decide +kernel), List.mem_of_getElem? (i := 644) (by decide +kernel), List.mem_of_getElem? (i := 645) (by decide +kernel)⟩
theorem lw_p11 : lw_okq (⟨"WingTrams", "passBy", "(I)V"⟩, 19) := ⟨⟨by decide +kernel, by decide +kernel⟩, List.mem_of_getElem? (i := 27) (by decide +kernel), List.mem_of_getElem? (i := 648) (by decide +kernel), List.mem_of_getElem? (i := 649) (by decide +kernel)⟩
theorem lw_p12 : lw_okq (⟨"WingTrams", "allSeenIsSo", "()Z"⟩, 19) := ⟨⟨by decide +kernel, by decide +kernel⟩, List.mem_of_getElem? (i := 27) (by decide +kernel), List.mem_of_getElem? (i := 652) (by decide +kernel), List.mem_of_getElem? (i := 653) (by decide +kernel)⟩
theorem lw_p13 : lw_okq (⟨"WingTrams$Night", "lastMinuteOn", "(I)I"⟩, 11) := ⟨⟨by decide +kernel, by decide +kernel⟩, List.mem_of_getElem? (i := 327) (by decide +kernel), List.mem_of_getElem? (i := 660) (by decide +kernel), List.mem_of_getElem? (i := 661) (by decide +kernel)⟩
theorem lw_p14 : lw_okq (⟨"WingTrams", "countSeen", "(I)V"⟩, 19) := ⟨⟨by decide +kernel, by decide +kernel⟩, List.mem_of_getElem? (i := 27) (by decide +kernel), List.mem_of_getElem? (i := 670) (by decide +kernel), List.mem_of_getElem? (i := 671) (by decide +kernel)⟩
theorem lw_p15 : lw_okq (⟨"java/lang/Throwable", "fillInStackTrace", "(I)Ljava/lang/Throwable;"⟩, 6) := ⟨⟨by decide +kernel, by decide +kernel⟩, List.mem_of_getElem? (i := 758) (by decide +kernel), List.mem_of_getElem? (i := 756) (by decide +kernel), List.mem_of_getElem? (i := 757) (by decide +kernel)⟩
def lw_privs_1 : List (MethodName × Nat) := [(⟨"WingTrams", "putBytes", "(I)V"⟩, 19), (⟨"WingTrams", "refuse", "(I)I"⟩, 19), (⟨"WingTrams$Log", "dropFirst", "()V"⟩, 5), (⟨"WingTrams$Night", "nextOwl", "()I"⟩, 11), (⟨"WingTrams$Night", "come", "(ILWingTrams$Sky;)V"⟩, 11), (⟨"WingTrams$Night", "minutesHunted", "(IIILWingTrams$Sky;)I"⟩, 11), (⟨"WingTrams$Night", "minutesFlown", "(IILWingTrams$Sky;)I"⟩, 11), (⟨"WingTrams$Rides", "arrive", "(I)V"⟩, 6), (⟨"WingTrams", "worthOf", "(I)I"⟩, 19), (⟨"WingTrams", "homes", "(LWingTrams$Sky;)I"⟩, 19), (⟨"WingTrams", "fitting", "()I"⟩, 19), (⟨"WingTrams", "passBy", "(I)V"⟩, 19), (⟨"WingTrams", "allSeenIsSo", "()Z"⟩, 19), (⟨"WingTrams$Night", "lastMinuteOn", "(I)I"⟩, 11), (⟨"WingTrams", "countSeen", "(I)V"⟩, 19), (⟨"java/lang/Throwable", "fillInStackTrace", "(I)Ljava/lang/Throwable;"⟩, 6)]
theorem lw_r1 : ∀ q ∈ lw_privs_1, lw_okq q := List.forall_mem_cons.mpr ⟨lw_p0, List.forall_mem_cons.mpr ⟨lw_p1, List.forall_mem_cons.mpr ⟨lw_p2, List.forall_mem_cons.mpr ⟨lw_p3, List.forall_mem_cons.mpr ⟨lw_p4, List.forall_mem_cons.mpr ⟨lw_p5, List.forall_mem_cons.mpr ⟨lw_p6, List.forall_mem_cons.mpr ⟨lw_p7, List.forall_mem_cons.mpr ⟨lw_p8, List.forall_mem_cons.mpr ⟨lw_p9, List.forall_mem_cons.mpr ⟨lw_p10, List.forall_mem_cons.mpr ⟨lw_p11, List.forall_mem_cons.mpr ⟨lw_p12, List.forall_mem_cons.mpr ⟨lw_p13, List.forall_mem_cons.mpr ⟨lw_p14, List.forall_mem_cons.mpr ⟨lw_p15, fun _ h => absurd h List.not_mem_nil⟩⟩⟩⟩⟩⟩⟩⟩⟩⟩⟩⟩⟩⟩⟩⟩
theorem lw_p16 : lw_okq (⟨"WingTrams$Tokens", "add", "(III)V"⟩, 4) := ⟨⟨by decide +kernel, by decide +kernel⟩, List.mem_of_getElem? (i := 180) (by decide +kernel), List.mem_of_getElem? (i := 851) (by decide +kernel), List.mem_of_getElem? (i := 852) (by decide +kernel)⟩
theorem lw_p17 : lw_okq (⟨"WingTrams$Reader", "code", "()I"⟩, 6) := ⟨⟨by decide +kernel, by decide +kernel⟩, List.mem_of_getElem? (i := 204) (by decide +kernel), List.mem_of_getElem? (i := 934) (by decide +kernel), List.mem_of_getElem? (i := 935) (by decide +kernel)⟩
theorem lw_p18 : lw_okq (⟨"WingTrams$Reader", "readLine", "()Z"⟩, 6) := ⟨⟨by decide +kernel, by decide +kernel⟩, List.mem_of_getElem? (i := 204) (by decide +kernel), List.mem_of_getElem? (i := 939) (by decide +kernel), List.mem_of_getElem? (i := 940) (by decide +kernel)⟩
theorem lw_p19 : lw_okq (⟨"WingTrams$Reader", "readRoof", "()Z"⟩, 6) := ⟨⟨by decide +kernel, by decide +kernel⟩, List.mem_of_getElem? (i := 204) (by decide +kernel), List.mem_of_getElem? (i := 943) (by decide +kernel), List.mem_of_getElem? (i := 944) (by decide +kernel)⟩
theorem lw_p20 : lw_okq (⟨"WingTrams$Reader", "fail", "(I)Z"⟩, 6) := ⟨⟨by decide +kernel, by decide +kernel⟩, List.mem_of_getElem? (i := 204) (by decide +kernel), List.mem_of_getElem? (i := 947) (by decide +kernel), List.mem_of_getElem? (i := 948) (by decide +kernel)⟩
theorem lw_p21 : lw_okq (⟨"WingTrams$Reader", "takeNumber", "(II)I"⟩, 6) := ⟨⟨by decide +kernel, by decide +kernel⟩, List.mem_of_getElem? (i := 204) (by decide +kernel), List.mem_of_getElem? (i := 951) (by decide +kernel), List.mem_of_getElem? (i := 952) (by decide +kernel)⟩
theorem lw_p22 : lw_okq (⟨"WingTrams$Reader", "readFlight", "()Z"⟩, 6) := ⟨⟨by decide +kernel, by decide +kernel⟩, List.mem_of_getElem? (i := 204) (by decide +kernel), List.mem_of_getElem? (i := 956) (by decide +kernel), List.mem_of_getElem? (i := 957) (by decide +kernel)⟩
theorem lw_p23 : lw_okq (⟨"WingTrams$Reader", "roofHere", "()I"⟩, 6) := ⟨⟨by decide +kernel, by decide +kernel⟩, List.mem_of_getElem? (i := 204) (by decide +kernel), List.mem_of_getElem? (i := 960) (by decide +kernel), List.mem_of_getElem? (i := 961) (by decide +kernel)⟩
theorem lw_p24 : lw_okq (⟨"WingTrams$Reader", "readOwl", "(I)Z"⟩, 6) := ⟨⟨by decide +kernel, by decide +kernel⟩, List.mem_of_getElem? (i := 204) (by decide +kernel), List.mem_of_getElem? (i := 970) (by decide +kernel), List.mem_of_getElem? (i := 971) (by decide +kernel)⟩
theorem lw_p25 : lw_okq (⟨"WingTrams$Reader", "readWay", "(I)Z"⟩, 6) := ⟨⟨by decide +kernel, by decide +kernel⟩, List.mem_of_getElem? (i := 204) (by decide +kernel), List.mem_of_getElem? (i := 974) (by decide +kernel), List.mem_of_getElem? (i := 975) (by decide +kernel)⟩
theorem lw_p26 : lw_okq (⟨"WingTrams$Reader", "readRider", "()Z"⟩, 6) := ⟨⟨by decide +kernel, by decide +kernel⟩, List.mem_of_getElem? (i := 204) (by decide +kernel), List.mem_of_getElem? (i := 978) (by decide +kernel), List.mem_of_getElem? (i := 979) (by decide +kernel)⟩
theorem lw_p27 : lw_okq (⟨"WingTrams$Reader", "readDawn", "()Z"⟩, 6) := ⟨⟨by decide +kernel, by decide +kernel⟩, List.mem_of_getElem? (i := 204) (by decide +kernel), List.mem_of_getElem? (i := 982) (by decide +kernel), List.mem_of_getElem? (i := 983) (by decide +kernel)⟩
theorem lw_p28 : lw_okq (⟨"WingTrams$Reader", "readHunts", "()Z"⟩, 6) := ⟨⟨by decide +kernel, by decide +kernel⟩, List.mem_of_getElem? (i := 204) (by decide +kernel), List.mem_of_getElem? (i := 986) (by decide +kernel), List.mem_of_getElem? (i := 987) (by decide +kernel)⟩
theorem lw_p29 : lw_okq (⟨"WingTrams$Reader", "readExpr", "(I)Z"⟩, 6) := ⟨⟨by decide +kernel, by decide +kernel⟩, List.mem_of_getElem? (i := 204) (by decide +kernel), List.mem_of_getElem? (i := 990) (by decide +kernel), List.mem_of_getElem? (i := 991) (by decide +kernel)⟩
theorem lw_p30 : lw_okq (⟨"WingTrams$Reader", "readAnd", "(I)Z"⟩, 6) := ⟨⟨by decide +kernel, by decide +kernel⟩, List.mem_of_getElem? (i := 204) (by decide +kernel), List.mem_of_getElem? (i := 994) (by decide +kernel), List.mem_of_getElem? (i := 995) (by decide +kernel)⟩
theorem lw_p31 : lw_okq (⟨"WingTrams$Reader", "readNot", "(I)Z"⟩, 6) := ⟨⟨by decide +kernel, by decide +kernel⟩, List.mem_of_getElem? (i := 204) (by decide +kernel), List.mem_of_getElem? (i := 998) (by decide +kernel), List.mem_of_getElem? (i := 999) (by decide +kernel)⟩
def lw_privs_2 : List (MethodName × Nat) := [(⟨"WingTrams$Tokens", "add", "(III)V"⟩, 4), (⟨"WingTrams$Reader", "code", "()I"⟩, 6), (⟨"WingTrams$Reader", "readLine", "()Z"⟩, 6), (⟨"WingTrams$Reader", "readRoof", "()Z"⟩, 6), (⟨"WingTrams$Reader", "fail", "(I)Z"⟩, 6), (⟨"WingTrams$Reader", "takeNumber", "(II)I"⟩, 6), (⟨"WingTrams$Reader", "readFlight", "()Z"⟩, 6), (⟨"WingTrams$Reader", "roofHere", "()I"⟩, 6), (⟨"WingTrams$Reader", "readOwl", "(I)Z"⟩, 6), (⟨"WingTrams$Reader", "readWay", "(I)Z"⟩, 6), (⟨"WingTrams$Reader", "readRider", "()Z"⟩, 6), (⟨"WingTrams$Reader", "readDawn", "()Z"⟩, 6), (⟨"WingTrams$Reader", "readHunts", "()Z"⟩, 6), (⟨"WingTrams$Reader", "readExpr", "(I)Z"⟩, 6), (⟨"WingTrams$Reader", "readAnd", "(I)Z"⟩, 6), (⟨"WingTrams$Reader", "readNot", "(I)Z"⟩, 6)]
theorem lw_r2 : ∀ q ∈ lw_privs_2, lw_okq q := List.forall_mem_cons.mpr ⟨lw_p16, List.forall_mem_cons.mpr ⟨lw_p17, List.forall_mem_cons.mpr ⟨lw_p18, List.forall_mem_cons.mpr ⟨lw_p19, List.forall_mem_cons.mpr ⟨lw_p20, List.forall_mem_cons.mpr ⟨lw_p21, List.forall_mem_cons.mpr ⟨lw_p22, List.forall_mem_cons.mpr ⟨lw_p23, List.forall_mem_cons.mpr ⟨lw_p24, List.forall_mem_cons.mpr ⟨lw_p25, List.forall_mem_cons.mpr ⟨lw_p26, List.forall_mem_cons.mpr ⟨lw_p27, List.forall_mem_cons.mpr ⟨lw_p28, List.forall_mem_cons.mpr ⟨lw_p29, List.forall_mem_cons.mpr ⟨lw_p30, List.forall_mem_cons.mpr ⟨lw_p31, fun _ h => absurd h List.not_mem_nil⟩⟩⟩⟩⟩⟩⟩⟩⟩⟩⟩⟩⟩⟩⟩⟩
theorem lw_p32 : lw_okq (⟨"WingTrams$Reader", "readTest", "(I)Z"⟩, 6) := ⟨⟨by decide +kernel, by decide +kernel⟩, List.mem_of_getElem? (i := 204) (by decide +kernel), List.mem_of_getElem? (i := 1002) (by decide +kernel), List.mem_of_getElem? (i := 1003) (by decide +kernel)⟩
theorem lw_p33 : lw_okq (⟨"WingTrams$Reader", "readSum", "(I)Z"⟩, 6) := ⟨⟨by decide +kernel, by decide +kernel⟩, List.mem_of_getElem? (i := 204) (by decide +kernel), List.mem_of_getElem? (i := 1006) (by decide +kernel), List.mem_of_getElem? (i := 1007) (by decide +kernel)⟩
theorem lw_p34 : lw_okq (⟨"WingTrams$Reader", "readProduct", "(I)Z"⟩, 6) := ⟨⟨by decide +kernel, by decide +kernel⟩, List.mem_of_getElem? (i := 204) (by decide +kernel), List.mem_of_getElem? (i := 1010) (by decide +kernel), List.mem_of_getElem? (i := 1011) (by decide +kernel)⟩
theorem lw_p35 : lw_okq (⟨"WingTrams$Reader", "readPart", "(I)Z"⟩, 6) := ⟨⟨by decide +kernel, by decide +kernel⟩, List.mem_of_getElem? (i := 204) (by decide +kernel), List.mem_of_getElem? (i := 1014) (by decide +kernel), List.mem_of_getElem? (i := 1015) (by decide +kernel)⟩
theorem lw_p36 : lw_okq (⟨"WingTrams$Reader", "takeSign", "(I)Z"⟩, 6) := ⟨⟨by decide +kernel, by decide +kernel⟩, List.mem_of_getElem? (i := 204) (by decide +kernel), List.mem_of_getElem? (i := 1018) (by decide +kernel), List.mem_of_getElem? (i := 1019) (by decide +kernel)⟩
theorem lw_p37 : lw_okq (⟨"WingTrams", "needRoof", "(I)V"⟩, 19) := ⟨⟨by decide +kernel, by decide +kernel⟩, List.mem_of_getElem? (i := 27) (by decide +kernel), List.mem_of_getElem? (i := 1079) (by decide +kernel), List.mem_of_getElem? (i := 1080) (by decide +kernel)⟩
theorem lw_p38 : lw_okq (⟨"WingTrams", "needOwl", "(I)V"⟩, 19) := ⟨⟨by decide +kernel, by decide +kernel⟩, List.mem_of_getElem? (i := 27) (by decide +kernel), List.mem_of_getElem? (i := 1109) (by decide +kernel), List.mem_of_getElem? (i := 1110) (by decide +kernel)⟩
theorem lw_p39 : lw_okq (⟨"WingTrams$Night", "markBoth", "(II)V"⟩, 11) := ⟨⟨by decide +kernel, by decide +kernel⟩, List.mem_of_getElem? (i := 327) (by decide +kernel), List.mem_of_getElem? (i := 1120) (by decide +kernel), List.mem_of_getElem? (i := 1121) (by decide +kernel)⟩
theorem lw_p40 : lw_okq (⟨"WingTrams", "needRider", "(I)V"⟩, 19) := ⟨⟨by decide +kernel, by decide +kernel⟩, List.mem_of_getElem? (i := 27) (by decide +kernel), List.mem_of_getElem? (i := 1140) (by decide +kernel), List.mem_of_getElem? (i := 1141) (by decide +kernel)⟩
theorem lw_p41 : lw_okq (⟨"WingTrams$Rides", "rideAlong", "(III)V"⟩, 6) := ⟨⟨by decide +kernel, by decide +kernel⟩, List.mem_of_getElem? (i := 378) (by decide +kernel), List.mem_of_getElem? (i := 1192) (by decide +kernel), List.mem_of_getElem? (i := 1193) (by decide +kernel)⟩
theorem lw_p42 : lw_okq (⟨"WingTrams$Rides", "bringsTo", "(III)Z"⟩, 6) := ⟨⟨by decide +kernel, by decide +kernel⟩, List.mem_of_getElem? (i := 378) (by decide +kernel), List.mem_of_getElem? (i := 1214) (by decide +kernel), List.mem_of_getElem? (i := 1215) (by decide +kernel)⟩
theorem lw_p43 : lw_okq (⟨"WingTrams", "fewestGrains", "(II)I"⟩, 19) := ⟨⟨by decide +kernel, by decide +kernel⟩, List.mem_of_getElem? (i := 27) (by decide +kernel), List.mem_of_getElem? (i := 1227) (by decide +kernel), List.mem_of_getElem? (i := 1228) (by decide +kernel)⟩
theorem lw_p44 : lw_okq (⟨"WingTrams", "luresHome", "(II)Z"⟩, 19) := ⟨⟨by decide +kernel, by decide +kernel⟩, List.mem_of_getElem? (i := 27) (by decide +kernel), List.mem_of_getElem? (i := 1231) (by decide +kernel), List.mem_of_getElem? (i := 1232) (by decide +kernel)⟩
theorem lw_p45 : lw_okq (⟨"WingTrams", "nextRow", "()Z"⟩, 19) := ⟨⟨by decide +kernel, by decide +kernel⟩, List.mem_of_getElem? (i := 27) (by decide +kernel), List.mem_of_getElem? (i := 1239) (by decide +kernel), List.mem_of_getElem? (i := 1240) (by decide +kernel)⟩
theorem lw_p46 : lw_okq (⟨"WingTrams$Beams", "measure", "()V"⟩, 5) := ⟨⟨by decide +kernel, by decide +kernel⟩, List.mem_of_getElem? (i := 405) (by decide +kernel), List.mem_of_getElem? (i := 1265) (by decide +kernel), List.mem_of_getElem? (i := 1266) (by decide +kernel)⟩
theorem lw_p47 : lw_okq (⟨"WingTrams$Beams", "shorten", "(I)V"⟩, 5) := ⟨⟨by decide +kernel, by decide +kernel⟩, List.mem_of_getElem? (i := 405) (by decide +kernel), List.mem_of_getElem? (i := 1271) (by decide +kernel), List.mem_of_getElem? (i := 1272) (by decide +kernel)⟩
def lw_privs_3 : List (MethodName × Nat) := [(⟨"WingTrams$Reader", "readTest", "(I)Z"⟩, 6), (⟨"WingTrams$Reader", "readSum", "(I)Z"⟩, 6), (⟨"WingTrams$Reader", "readProduct", "(I)Z"⟩, 6), (⟨"WingTrams$Reader", "readPart", "(I)Z"⟩, 6), (⟨"WingTrams$Reader", "takeSign", "(I)Z"⟩, 6), (⟨"WingTrams", "needRoof", "(I)V"⟩, 19), (⟨"WingTrams", "needOwl", "(I)V"⟩, 19), (⟨"WingTrams$Night", "markBoth", "(II)V"⟩, 11), (⟨"WingTrams", "needRider", "(I)V"⟩, 19), (⟨"WingTrams$Rides", "rideAlong", "(III)V"⟩, 6), (⟨"WingTrams$Rides", "bringsTo", "(III)Z"⟩, 6), (⟨"WingTrams", "fewestGrains", "(II)I"⟩, 19), (⟨"WingTrams", "luresHome", "(II)Z"⟩, 19), (⟨"WingTrams", "nextRow", "()Z"⟩, 19), (⟨"WingTrams$Beams", "measure", "()V"⟩, 5), (⟨"WingTrams$Beams", "shorten", "(I)V"⟩, 5)]
theorem lw_r3 : ∀ q ∈ lw_privs_3, lw_okq q := List.forall_mem_cons.mpr ⟨lw_p32, List.forall_mem_cons.mpr ⟨lw_p33, List.forall_mem_cons.mpr ⟨lw_p34, List.forall_mem_cons.mpr ⟨lw_p35, List.forall_mem_cons.mpr ⟨lw_p36, List.forall_mem_cons.mpr ⟨lw_p37, List.forall_mem_cons.mpr ⟨lw_p38, List.forall_mem_cons.mpr ⟨lw_p39, List.forall_mem_cons.mpr ⟨lw_p40, List.forall_mem_cons.mpr ⟨lw_p41, List.forall_mem_cons.mpr ⟨lw_p42, List.forall_mem_cons.mpr ⟨lw_p43, List.forall_mem_cons.mpr ⟨lw_p44, List.forall_mem_cons.mpr ⟨lw_p45, List.forall_mem_cons.mpr ⟨lw_p46, List.forall_mem_cons.mpr ⟨lw_p47, fun _ h => absurd h List.not_mem_nil⟩⟩⟩⟩⟩⟩⟩⟩⟩⟩⟩⟩⟩⟩⟩⟩
theorem lw_p48 : lw_okq (⟨"WingTrams$Beams", "ridersNear", "(II)I"⟩, 5) := ⟨⟨by decide +kernel, by decide +kernel⟩, List.mem_of_getElem? (i := 405) (by decide +kernel), List.mem_of_getElem? (i := 1276) (by decide +kernel), List.mem_of_getElem? (i := 1277) (by decide +kernel)⟩
theorem lw_p49 : lw_okq (⟨"WingTrams$Beams", "ridersOfSet", "(I)I"⟩, 5) := ⟨⟨by decide +kernel, by decide +kernel⟩, List.mem_of_getElem? (i := 405) (by decide +kernel), List.mem_of_getElem? (i := 1281) (by decide +kernel), List.mem_of_getElem? (i := 1282) (by decide +kernel)⟩
theorem lw_p50 : lw_okq (⟨"WingTrams$Rides", "takesStrap", "(II)Z"⟩, 6) := ⟨⟨by decide +kernel, by decide +kernel⟩, List.mem_of_getElem? (i := 378) (by decide +kernel), List.mem_of_getElem? (i := 1297) (by decide +kernel), List.mem_of_getElem? (i := 1298) (by decide +kernel)⟩
theorem lw_p51 : lw_okq (⟨"WingTrams$Rides", "cellToGetOn", "(II)I"⟩, 6) := ⟨⟨by decide +kernel, by decide +kernel⟩, List.mem_of_getElem? (i := 378) (by decide +kernel), List.mem_of_getElem? (i := 1301) (by decide +kernel), List.mem_of_getElem? (i := 1302) (by decide +kernel)⟩
theorem lw_p52 : lw_okq (⟨"WingTrams$Rides", "hasStrap", "(III)Z"⟩, 6) := ⟨⟨by decide +kernel, by decide +kernel⟩, List.mem_of_getElem? (i := 378) (by decide +kernel), List.mem_of_getElem? (i := 1305) (by decide +kernel), List.mem_of_getElem? (i := 1306) (by decide +kernel)⟩
theorem lw_p53 : lw_okq (⟨"WingTrams", "rests", "(II)Z"⟩, 19) := ⟨⟨by decide +kernel, by decide +kernel⟩, List.mem_of_getElem? (i := 27) (by decide +kernel), List.mem_of_getElem? (i := 1331) (by decide +kernel), List.mem_of_getElem? (i := 1332) (by decide +kernel)⟩
theorem lw_p54 : lw_okq (⟨"WingTrams", "owlsGain", "(II)I"⟩, 19) := ⟨⟨by decide +kernel, by decide +kernel⟩, List.mem_of_getElem? (i := 27) (by decide +kernel), List.mem_of_getElem? (i := 1335) (by decide +kernel), List.mem_of_getElem? (i := 1336) (by decide +kernel)⟩
theorem lw_p55 : lw_okq (⟨"WingTrams", "batsGain", "(II)I"⟩, 19) := ⟨⟨by decide +kernel, by decide +kernel⟩, List.mem_of_getElem? (i := 27) (by decide +kernel), List.mem_of_getElem? (i := 1343) (by decide +kernel), List.mem_of_getElem? (i := 1344) (by decide +kernel)⟩
theorem lw_p56 : lw_okq (⟨"WingTramsModel", "lays", "(I)V"⟩, 76) := ⟨⟨by decide +kernel, by decide +kernel⟩, List.mem_of_getElem? (i := 1375) (by decide +kernel), List.mem_of_getElem? (i := 1619) (by decide +kernel), List.mem_of_getElem? (i := 1620) (by decide +kernel)⟩
theorem lw_p57 : lw_okq (⟨"WingTramsModel", "right", "(ZI)Z"⟩, 76) := ⟨⟨by decide +kernel, by decide +kernel⟩, List.mem_of_getElem? (i := 1375) (by decide +kernel), List.mem_of_getElem? (i := 1627) (by decide +kernel), List.mem_of_getElem? (i := 1628) (by decide +kernel)⟩
theorem lw_p58 : lw_okq (⟨"WingTramsModel", "goes", "()V"⟩, 76) := ⟨⟨by decide +kernel, by decide +kernel⟩, List.mem_of_getElem? (i := 1375) (by decide +kernel), List.mem_of_getElem? (i := 1631) (by decide +kernel), List.mem_of_getElem? (i := 1632) (by decide +kernel)⟩
theorem lw_p59 : lw_okq (⟨"WingTramsModel", "byteAt", "(I)I"⟩, 76) := ⟨⟨by decide +kernel, by decide +kernel⟩, List.mem_of_getElem? (i := 1375) (by decide +kernel), List.mem_of_getElem? (i := 1635) (by decide +kernel), List.mem_of_getElem? (i := 1636) (by decide +kernel)⟩
theorem lw_p60 : lw_okq (⟨"WingTramsModel", "isGood", "()Z"⟩, 76) := ⟨⟨by decide +kernel, by decide +kernel⟩, List.mem_of_getElem? (i := 1375) (by decide +kernel), List.mem_of_getElem? (i := 1645) (by decide +kernel), List.mem_of_getElem? (i := 1646) (by decide +kernel)⟩
theorem lw_p61 : lw_okq (⟨"WingTramsModel", "line", "()V"⟩, 76) := ⟨⟨by decide +kernel, by decide +kernel⟩, List.mem_of_getElem? (i := 1375) (by decide +kernel), List.mem_of_getElem? (i := 1649) (by decide +kernel), List.mem_of_getElem? (i := 1650) (by decide +kernel)⟩
theorem lw_p62 : lw_okq (⟨"WingTramsModel", "knownWord", "()I"⟩, 76) := ⟨⟨by decide +kernel, by decide +kernel⟩, List.mem_of_getElem? (i := 1375) (by decide +kernel), List.mem_of_getElem? (i := 1653) (by decide +kernel), List.mem_of_getElem? (i := 1654) (by decide +kernel)⟩
theorem lw_p63 : lw_okq (⟨"WingTramsModel", "wrong", "(I)V"⟩, 76) := ⟨⟨by decide +kernel, by decide +kernel⟩, List.mem_of_getElem? (i := 1375) (by decide +kernel), List.mem_of_getElem? (i := 1664) (by decide +kernel), List.mem_of_getElem? (i := 1665) (by decide +kernel)⟩
def lw_privs_4 : List (MethodName × Nat) := [(⟨"WingTrams$Beams", "ridersNear", "(II)I"⟩, 5), (⟨"WingTrams$Beams", "ridersOfSet", "(I)I"⟩, 5), (⟨"WingTrams$Rides", "takesStrap", "(II)Z"⟩, 6), (⟨"WingTrams$Rides", "cellToGetOn", "(II)I"⟩, 6), (⟨"WingTrams$Rides", "hasStrap", "(III)Z"⟩, 6), (⟨"WingTrams", "rests", "(II)Z"⟩, 19), (⟨"WingTrams", "owlsGain", "(II)I"⟩, 19), (⟨"WingTrams", "batsGain", "(II)I"⟩, 19), (⟨"WingTramsModel", "lays", "(I)V"⟩, 76), (⟨"WingTramsModel", "right", "(ZI)Z"⟩, 76), (⟨"WingTramsModel", "goes", "()V"⟩, 76), (⟨"WingTramsModel", "byteAt", "(I)I"⟩, 76), (⟨"WingTramsModel", "isGood", "()Z"⟩, 76), (⟨"WingTramsModel", "line", "()V"⟩, 76), (⟨"WingTramsModel", "knownWord", "()I"⟩, 76), (⟨"WingTramsModel", "wrong", "(I)V"⟩, 76)]
theorem lw_r4 : ∀ q ∈ lw_privs_4, lw_okq q := List.forall_mem_cons.mpr ⟨lw_p48, List.forall_mem_cons.mpr ⟨lw_p49, List.forall_mem_cons.mpr ⟨lw_p50, List.forall_mem_cons.mpr ⟨lw_p51, List.forall_mem_cons.mpr ⟨lw_p52, List.forall_mem_cons.mpr ⟨lw_p53, List.forall_mem_cons.mpr ⟨lw_p54, List.forall_mem_cons.mpr ⟨lw_p55, List.forall_mem_cons.mpr ⟨lw_p56, List.forall_mem_cons.mpr ⟨lw_p57, List.forall_mem_cons.mpr ⟨lw_p58, List.forall_mem_cons.mpr ⟨lw_p59, List.forall_mem_cons.mpr ⟨lw_p60, List.forall_mem_cons.mpr ⟨lw_p61, List.forall_mem_cons.mpr ⟨lw_p62, List.forall_mem_cons.mpr ⟨lw_p63, fun _ h => absurd h List.not_mem_nil⟩⟩⟩⟩⟩⟩⟩⟩⟩⟩⟩⟩⟩⟩⟩⟩
theorem lw_p64 : lw_okq (⟨"WingTramsModel", "number", "(II)I"⟩, 76) := ⟨⟨by decide +kernel, by decide +kernel⟩, List.mem_of_getElem? (i := 1375) (by decide +kernel), List.mem_of_getElem? (i := 1668) (by decide +kernel), List.mem_of_getElem? (i := 1669) (by decide +kernel)⟩
theorem lw_p65 : lw_okq (⟨"WingTramsModel", "readsFlight", "()V"⟩, 76) := ⟨⟨by decide +kernel, by decide +kernel⟩, List.mem_of_getElem? (i := 1375) (by decide +kernel), List.mem_of_getElem? (i := 1672) (by decide +kernel), List.mem_of_getElem? (i := 1673) (by decide +kernel)⟩
theorem lw_p66 : lw_okq (⟨"WingTramsModel", "roofNext", "()I"⟩, 76) := ⟨⟨by decide +kernel, by decide +kernel⟩, List.mem_of_getElem? (i := 1375) (by decide +kernel), List.mem_of_getElem? (i := 1676) (by decide +kernel), List.mem_of_getElem? (i := 1677) (by decide +kernel)⟩
theorem lw_p67 : lw_okq (⟨"WingTramsModel", "roofHere", "()I"⟩, 76) := ⟨⟨by decide +kernel, by decide +kernel⟩, List.mem_of_getElem? (i := 1375) (by decide +kernel), List.mem_of_getElem? (i := 1680) (by decide +kernel), List.mem_of_getElem? (i := 1681) (by decide +kernel)⟩
theorem lw_p68 : lw_okq (⟨"WingTramsModel", "readsOwl", "(I)V"⟩, 76) := ⟨⟨by decide +kernel, by decide +kernel⟩, List.mem_of_getElem? (i := 1375) (by decide +kernel), List.mem_of_getElem? (i := 1684) (by decide +kernel), List.mem_of_getElem? (i := 1685) (by decide +kernel)⟩
theorem lw_p69 : lw_okq (⟨"WingTramsModel", "readsRider", "()V"⟩, 76) := ⟨⟨by decide +kernel, by decide +kernel⟩, List.mem_of_getElem? (i := 1375) (by decide +kernel), List.mem_of_getElem? (i := 1688) (by decide +kernel), List.mem_of_getElem? (i := 1689) (by decide +kernel)⟩
theorem lw_p70 : lw_okq (⟨"WingTramsModel", "expression", "()V"⟩, 76) := ⟨⟨by decide +kernel, by decide +kernel⟩, List.mem_of_getElem? (i := 1375) (by decide +kernel), List.mem_of_getElem? (i := 1692) (by decide +kernel), List.mem_of_getElem? (i := 1693) (by decide +kernel)⟩
theorem lw_p71 : lw_okq (⟨"WingTramsModel", "deeper", "()V"⟩, 76) := ⟨⟨by decide +kernel, by decide +kernel⟩, List.mem_of_getElem? (i := 1375) (by decide +kernel), List.mem_of_getElem? (i := 1696) (by decide +kernel), List.mem_of_getElem? (i := 1697) (by decide +kernel)⟩
theorem lw_p72 : lw_okq (⟨"WingTramsModel", "isSign", "(I)Z"⟩, 76) := ⟨⟨by decide +kernel, by decide +kernel⟩, List.mem_of_getElem? (i := 1375) (by decide +kernel), List.mem_of_getElem? (i := 1700) (by decide +kernel), List.mem_of_getElem? (i := 1701) (by decide +kernel)⟩
theorem lw_p73 : lw_okq (⟨"WingTramsModel", "operand", "(Z)V"⟩, 76) := ⟨⟨by decide +kernel, by decide +kernel⟩, List.mem_of_getElem? (i := 1375) (by decide +kernel), List.mem_of_getElem? (i := 1704) (by decide +kernel), List.mem_of_getElem? (i := 1705) (by decide +kernel)⟩
theorem lw_p74 : lw_okq (⟨"WingTramsModel", "waitsFor", "(I)V"⟩, 76) := ⟨⟨by decide +kernel, by decide +kernel⟩, List.mem_of_getElem? (i := 1375) (by decide +kernel), List.mem_of_getElem? (i := 1708) (by decide +kernel), List.mem_of_getElem? (i := 1709) (by decide +kernel)⟩
theorem lw_p75 : lw_okq (⟨"WingTramsModel", "part", "()V"⟩, 76) := ⟨⟨by decide +kernel, by decide +kernel⟩, List.mem_of_getElem? (i := 1375) (by decide +kernel), List.mem_of_getElem? (i := 1712) (by decide +kernel), List.mem_of_getElem? (i := 1713) (by decide +kernel)⟩
theorem lw_p76 : lw_okq (⟨"WingTramsModel", "puts", "(I)V"⟩, 76) := ⟨⟨by decide +kernel, by decide +kernel⟩, List.mem_of_getElem? (i := 1375) (by decide +kernel), List.mem_of_getElem? (i := 1716) (by decide +kernel), List.mem_of_getElem? (i := 1717) (by decide +kernel)⟩
theorem lw_p77 : lw_okq (⟨"WingTramsModel", "drops", "(I)V"⟩, 76) := ⟨⟨by decide +kernel, by decide +kernel⟩, List.mem_of_getElem? (i := 1375) (by decide +kernel), List.mem_of_getElem? (i := 1720) (by decide +kernel), List.mem_of_getElem? (i := 1721) (by decide +kernel)⟩
theorem lw_p78 : lw_okq (⟨"WingTramsModel", "isOpened", "()Z"⟩, 76) := ⟨⟨by decide +kernel, by decide +kernel⟩, List.mem_of_getElem? (i := 1375) (by decide +kernel), List.mem_of_getElem? (i := 1730) (by decide +kernel), List.mem_of_getElem? (i := 1731) (by decide +kernel)⟩
theorem lw_p79 : lw_okq (⟨"WingTramsModel", "closes", "()V"⟩, 76) := ⟨⟨by decide +kernel, by decide +kernel⟩, List.mem_of_getElem? (i := 1375) (by decide +kernel), List.mem_of_getElem? (i := 1734) (by decide +kernel), List.mem_of_getElem? (i := 1735) (by decide +kernel)⟩
def lw_privs_5 : List (MethodName × Nat) := [(⟨"WingTramsModel", "number", "(II)I"⟩, 76), (⟨"WingTramsModel", "readsFlight", "()V"⟩, 76), (⟨"WingTramsModel", "roofNext", "()I"⟩, 76), (⟨"WingTramsModel", "roofHere", "()I"⟩, 76), (⟨"WingTramsModel", "readsOwl", "(I)V"⟩, 76), (⟨"WingTramsModel", "readsRider", "()V"⟩, 76), (⟨"WingTramsModel", "expression", "()V"⟩, 76), (⟨"WingTramsModel", "deeper", "()V"⟩, 76), (⟨"WingTramsModel", "isSign", "(I)Z"⟩, 76), (⟨"WingTramsModel", "operand", "(Z)V"⟩, 76), (⟨"WingTramsModel", "waitsFor", "(I)V"⟩, 76), (⟨"WingTramsModel", "part", "()V"⟩, 76), (⟨"WingTramsModel", "puts", "(I)V"⟩, 76), (⟨"WingTramsModel", "drops", "(I)V"⟩, 76), (⟨"WingTramsModel", "isOpened", "()Z"⟩, 76), (⟨"WingTramsModel", "closes", "()V"⟩, 76)]
theorem lw_r5 : ∀ q ∈ lw_privs_5, lw_okq q := List.forall_mem_cons.mpr ⟨lw_p64, List.forall_mem_cons.mpr ⟨lw_p65, List.forall_mem_cons.mpr ⟨lw_p66, List.forall_mem_cons.mpr ⟨lw_p67, List.forall_mem_cons.mpr ⟨lw_p68, List.forall_mem_cons.mpr ⟨lw_p69, List.forall_mem_cons.mpr ⟨lw_p70, List.forall_mem_cons.mpr ⟨lw_p71, List.forall_mem_cons.mpr ⟨lw_p72, List.forall_mem_cons.mpr ⟨lw_p73, List.forall_mem_cons.mpr ⟨lw_p74, List.forall_mem_cons.mpr ⟨lw_p75, List.forall_mem_cons.mpr ⟨lw_p76, List.forall_mem_cons.mpr ⟨lw_p77, List.forall_mem_cons.mpr ⟨lw_p78, List.forall_mem_cons.mpr ⟨lw_p79, fun _ h => absurd h List.not_mem_nil⟩⟩⟩⟩⟩⟩⟩⟩⟩⟩⟩⟩⟩⟩⟩⟩
theorem lw_p80 : lw_okq (⟨"WingTramsModel", "need", "(Z)V"⟩, 76) := ⟨⟨by decide +kernel, by decide +kernel⟩, List.mem_of_getElem? (i := 1375) (by decide +kernel), List.mem_of_getElem? (i := 1738) (by decide +kernel), List.mem_of_getElem? (i := 1739) (by decide +kernel)⟩
theorem lw_p81 : lw_okq (⟨"WingTramsModel", "copies", "([I[I)V"⟩, 76) := ⟨⟨by decide +kernel, by decide +kernel⟩, List.mem_of_getElem? (i := 1375) (by decide +kernel), List.mem_of_getElem? (i := 1742) (by decide +kernel), List.mem_of_getElem? (i := 1743) (by decide +kernel)⟩
theorem lw_p82 : lw_okq (⟨"WingTramsModel", "measures", "()V"⟩, 76) := ⟨⟨by decide +kernel, by decide +kernel⟩, List.mem_of_getElem? (i := 1375) (by decide +kernel), List.mem_of_getElem? (i := 1746) (by decide +kernel), List.mem_of_getElem? (i := 1747) (by decide +kernel)⟩
theorem lw_p83 : lw_okq (⟨"WingTramsModel", "homes", "()I"⟩, 76) := ⟨⟨by decide +kernel, by decide +kernel⟩, List.mem_of_getElem? (i := 1375) (by decide +kernel), List.mem_of_getElem? (i := 1766) (by decide +kernel), List.mem_of_getElem? (i := 1767) (by decide +kernel)⟩
theorem lw_p84 : lw_okq (⟨"WingTramsModel", "nights", "()V"⟩, 76) := ⟨⟨by decide +kernel, by decide +kernel⟩, List.mem_of_getElem? (i := 1375) (by decide +kernel), List.mem_of_getElem? (i := 1770) (by decide +kernel), List.mem_of_getElem? (i := 1771) (by decide +kernel)⟩
theorem lw_p85 : lw_okq (⟨"WingTramsModel", "nests", "(I)Z"⟩, 76) := ⟨⟨by decide +kernel, by decide +kernel⟩, List.mem_of_getElem? (i := 1375) (by decide +kernel), List.mem_of_getElem? (i := 1774) (by decide +kernel), List.mem_of_getElem? (i := 1775) (by decide +kernel)⟩
theorem lw_p86 : lw_okq (⟨"WingTramsModel", "huntsFor", "(II)I"⟩, 76) := ⟨⟨by decide +kernel, by decide +kernel⟩, List.mem_of_getElem? (i := 1375) (by decide +kernel), List.mem_of_getElem? (i := 1778) (by decide +kernel), List.mem_of_getElem? (i := 1779) (by decide +kernel)⟩
theorem lw_p87 : lw_okq (⟨"WingTramsModel", "reckons", "(I)I"⟩, 76) := ⟨⟨by decide +kernel, by decide +kernel⟩, List.mem_of_getElem? (i := 1375) (by decide +kernel), List.mem_of_getElem? (i := 1782) (by decide +kernel), List.mem_of_getElem? (i := 1783) (by decide +kernel)⟩
theorem lw_p88 : lw_okq (⟨"WingTramsModel", "flies", "(III)I"⟩, 76) := ⟨⟨by decide +kernel, by decide +kernel⟩, List.mem_of_getElem? (i := 1375) (by decide +kernel), List.mem_of_getElem? (i := 1789) (by decide +kernel), List.mem_of_getElem? (i := 1790) (by decide +kernel)⟩
theorem lw_p89 : lw_okq (⟨"WingTramsModel", "soonest", "(I)I"⟩, 76) := ⟨⟨by decide +kernel, by decide +kernel⟩, List.mem_of_getElem? (i := 1375) (by decide +kernel), List.mem_of_getElem? (i := 1793) (by decide +kernel), List.mem_of_getElem? (i := 1794) (by decide +kernel)⟩
theorem lw_p90 : lw_okq (⟨"WingTramsModel", "rides", "(I)V"⟩, 76) := ⟨⟨by decide +kernel, by decide +kernel⟩, List.mem_of_getElem? (i := 1375) (by decide +kernel), List.mem_of_getElem? (i := 1797) (by decide +kernel), List.mem_of_getElem? (i := 1798) (by decide +kernel)⟩
theorem lw_p91 : lw_okq (⟨"WingTramsModel", "waitsAt", "(I[I)V"⟩, 76) := ⟨⟨by decide +kernel, by decide +kernel⟩, List.mem_of_getElem? (i := 1375) (by decide +kernel), List.mem_of_getElem? (i := 1801) (by decide +kernel), List.mem_of_getElem? (i := 1802) (by decide +kernel)⟩
theorem lw_p92 : lw_okq (⟨"WingTramsModel", "takes", "(I[II[II)Z"⟩, 76) := ⟨⟨by decide +kernel, by decide +kernel⟩, List.mem_of_getElem? (i := 1375) (by decide +kernel), List.mem_of_getElem? (i := 1805) (by decide +kernel), List.mem_of_getElem? (i := 1806) (by decide +kernel)⟩
theorem lw_p93 : lw_okq (⟨"WingTramsModel", "homeOf", "(I)I"⟩, 76) := ⟨⟨by decide +kernel, by decide +kernel⟩, List.mem_of_getElem? (i := 1375) (by decide +kernel), List.mem_of_getElem? (i := 1809) (by decide +kernel), List.mem_of_getElem? (i := 1810) (by decide +kernel)⟩
theorem lw_p94 : lw_okq (⟨"WingTramsModel", "isRoof", "(I)Z"⟩, 76) := ⟨⟨by decide +kernel, by decide +kernel⟩, List.mem_of_getElem? (i := 1375) (by decide +kernel), List.mem_of_getElem? (i := 1817) (by decide +kernel), List.mem_of_getElem? (i := 1818) (by decide +kernel)⟩
theorem lw_p95 : lw_okq (⟨"WingTramsModel", "isWhat", "(II)Z"⟩, 76) := ⟨⟨by decide +kernel, by decide +kernel⟩, List.mem_of_getElem? (i := 1375) (by decide +kernel), List.mem_of_getElem? (i := 1821) (by decide +kernel), List.mem_of_getElem? (i := 1822) (by decide +kernel)⟩
def lw_privs_6 : List (MethodName × Nat) := [(⟨"WingTramsModel", "need", "(Z)V"⟩, 76), (⟨"WingTramsModel", "copies", "([I[I)V"⟩, 76), (⟨"WingTramsModel", "measures", "()V"⟩, 76), (⟨"WingTramsModel", "homes", "()I"⟩, 76), (⟨"WingTramsModel", "nights", "()V"⟩, 76), (⟨"WingTramsModel", "nests", "(I)Z"⟩, 76), (⟨"WingTramsModel", "huntsFor", "(II)I"⟩, 76), (⟨"WingTramsModel", "reckons", "(I)I"⟩, 76), (⟨"WingTramsModel", "flies", "(III)I"⟩, 76), (⟨"WingTramsModel", "soonest", "(I)I"⟩, 76), (⟨"WingTramsModel", "rides", "(I)V"⟩, 76), (⟨"WingTramsModel", "waitsAt", "(I[I)V"⟩, 76), (⟨"WingTramsModel", "takes", "(I[II[II)Z"⟩, 76), (⟨"WingTramsModel", "homeOf", "(I)I"⟩, 76), (⟨"WingTramsModel", "isRoof", "(I)Z"⟩, 76), (⟨"WingTramsModel", "isWhat", "(II)Z"⟩, 76)]
theorem lw_r6 : ∀ q ∈ lw_privs_6, lw_okq q := List.forall_mem_cons.mpr ⟨lw_p80, List.forall_mem_cons.mpr ⟨lw_p81, List.forall_mem_cons.mpr ⟨lw_p82, List.forall_mem_cons.mpr ⟨lw_p83, List.forall_mem_cons.mpr ⟨lw_p84, List.forall_mem_cons.mpr ⟨lw_p85, List.forall_mem_cons.mpr ⟨lw_p86, List.forall_mem_cons.mpr ⟨lw_p87, List.forall_mem_cons.mpr ⟨lw_p88, List.forall_mem_cons.mpr ⟨lw_p89, List.forall_mem_cons.mpr ⟨lw_p90, List.forall_mem_cons.mpr ⟨lw_p91, List.forall_mem_cons.mpr ⟨lw_p92, List.forall_mem_cons.mpr ⟨lw_p93, List.forall_mem_cons.mpr ⟨lw_p94, List.forall_mem_cons.mpr ⟨lw_p95, fun _ h => absurd h List.not_mem_nil⟩⟩⟩⟩⟩⟩⟩⟩⟩⟩⟩⟩⟩⟩⟩⟩
theorem lw_p96 : lw_okq (⟨"WingTramsModel", "isOwl", "(I)Z"⟩, 76) := ⟨⟨by decide +kernel, by decide +kernel⟩, List.mem_of_getElem? (i := 1375) (by decide +kernel), List.mem_of_getElem? (i := 1833) (by decide +kernel), List.mem_of_getElem? (i := 1834) (by decide +kernel)⟩
theorem lw_p97 : lw_okq (⟨"WingTramsModel", "together", "(I)I"⟩, 76) := ⟨⟨by decide +kernel, by decide +kernel⟩, List.mem_of_getElem? (i := 1375) (by decide +kernel), List.mem_of_getElem? (i := 1837) (by decide +kernel), List.mem_of_getElem? (i := 1838) (by decide +kernel)⟩
theorem lw_p98 : lw_okq (⟨"WingTramsModel", "whereIs", "(II)I"⟩, 76) := ⟨⟨by decide +kernel, by decide +kernel⟩, List.mem_of_getElem? (i := 1375) (by decide +kernel), List.mem_of_getElem? (i := 1841) (by decide +kernel), List.mem_of_getElem? (i := 1842) (by decide +kernel)⟩
theorem lw_p99 : lw_okq (⟨"WingTramsModel", "isRider", "(I)Z"⟩, 76) := ⟨⟨by decide +kernel, by decide +kernel⟩, List.mem_of_getElem? (i := 1375) (by decide +kernel), List.mem_of_getElem? (i := 1853) (by decide +kernel), List.mem_of_getElem? (i := 1854) (by decide +kernel)⟩
theorem lw_p100 : lw_okq (⟨"WingTramsModel", "refuses", "(I)I"⟩, 76) := ⟨⟨by decide +kernel, by decide +kernel⟩, List.mem_of_getElem? (i := 1375) (by decide +kernel), List.mem_of_getElem? (i := 1865) (by decide +kernel), List.mem_of_getElem? (i := 1866) (by decide +kernel)⟩
theorem lw_p101 : lw_okq (⟨"WingTramsModel", "becomes", "(II)I"⟩, 76) := ⟨⟨by decide +kernel, by decide +kernel⟩, List.mem_of_getElem? (i := 1375) (by decide +kernel), List.mem_of_getElem? (i := 1869) (by decide +kernel), List.mem_of_getElem? (i := 1870) (by decide +kernel)⟩
theorem lw_p102 : lw_okq (⟨"WingTramsModel", "owlsFor", "(I)I"⟩, 76) := ⟨⟨by decide +kernel, by decide +kernel⟩, List.mem_of_getElem? (i := 1375) (by decide +kernel), List.mem_of_getElem? (i := 1904) (by decide +kernel), List.mem_of_getElem? (i := 1905) (by decide +kernel)⟩
theorem lw_p103 : lw_okq (⟨"WingTramsModel", "isThere", "(I)Z"⟩, 76) := ⟨⟨by decide +kernel, by decide +kernel⟩, List.mem_of_getElem? (i := 1375) (by decide +kernel), List.mem_of_getElem? (i := 1916) (by decide +kernel), List.mem_of_getElem? (i := 1917) (by decide +kernel)⟩
theorem lw_p104 : lw_okq (⟨"WingTramsModel", "areHome", "(II)Z"⟩, 76) := ⟨⟨by decide +kernel, by decide +kernel⟩, List.mem_of_getElem? (i := 1375) (by decide +kernel), List.mem_of_getElem? (i := 1928) (by decide +kernel), List.mem_of_getElem? (i := 1929) (by decide +kernel)⟩
theorem lw_p105 : lw_okq (⟨"WingTramsModel", "hangs", "(II)Z"⟩, 76) := ⟨⟨by decide +kernel, by decide +kernel⟩, List.mem_of_getElem? (i := 1375) (by decide +kernel), List.mem_of_getElem? (i := 1947) (by decide +kernel), List.mem_of_getElem? (i := 1948) (by decide +kernel)⟩
theorem lw_p106 : lw_okq (⟨"WingTramsModel", "onFor", "(III)I"⟩, 76) := ⟨⟨by decide +kernel, by decide +kernel⟩, List.mem_of_getElem? (i := 1375) (by decide +kernel), List.mem_of_getElem? (i := 1951) (by decide +kernel), List.mem_of_getElem? (i := 1952) (by decide +kernel)⟩
theorem lw_p107 : lw_okq (⟨"WingTramsModel", "isRoom", "(IIII)Z"⟩, 76) := ⟨⟨by decide +kernel, by decide +kernel⟩, List.mem_of_getElem? (i := 1375) (by decide +kernel), List.mem_of_getElem? (i := 1955) (by decide +kernel), List.mem_of_getElem? (i := 1956) (by decide +kernel)⟩
theorem lw_p108 : lw_okq (⟨"WingTramsModel", "worthOf", "(I)I"⟩, 76) := ⟨⟨by decide +kernel, by decide +kernel⟩, List.mem_of_getElem? (i := 1375) (by decide +kernel), List.mem_of_getElem? (i := 1963) (by decide +kernel), List.mem_of_getElem? (i := 1964) (by decide +kernel)⟩
theorem lw_p109 : lw_okq (⟨"WingTramsModel", "bestOf", "(III)I"⟩, 76) := ⟨⟨by decide +kernel, by decide +kernel⟩, List.mem_of_getElem? (i := 1375) (by decide +kernel), List.mem_of_getElem? (i := 1983) (by decide +kernel), List.mem_of_getElem? (i := 1984) (by decide +kernel)⟩
theorem lw_p110 : lw_okq (⟨"WingTramsModel", "isSeen", "(I)Z"⟩, 76) := ⟨⟨by decide +kernel, by decide +kernel⟩, List.mem_of_getElem? (i := 1375) (by decide +kernel), List.mem_of_getElem? (i := 2007) (by decide +kernel), List.mem_of_getElem? (i := 2008) (by decide +kernel)⟩
theorem lw_p111 : lw_okq (⟨"WingTramsModel", "gains", "(IIZ)I"⟩, 76) := ⟨⟨by decide +kernel, by decide +kernel⟩, List.mem_of_getElem? (i := 1375) (by decide +kernel), List.mem_of_getElem? (i := 2022) (by decide +kernel), List.mem_of_getElem? (i := 2023) (by decide +kernel)⟩
def lw_privs_7 : List (MethodName × Nat) := [(⟨"WingTramsModel", "isOwl", "(I)Z"⟩, 76), (⟨"WingTramsModel", "together", "(I)I"⟩, 76), (⟨"WingTramsModel", "whereIs", "(II)I"⟩, 76), (⟨"WingTramsModel", "isRider", "(I)Z"⟩, 76), (⟨"WingTramsModel", "refuses", "(I)I"⟩, 76), (⟨"WingTramsModel", "becomes", "(II)I"⟩, 76), (⟨"WingTramsModel", "owlsFor", "(I)I"⟩, 76), (⟨"WingTramsModel", "isThere", "(I)Z"⟩, 76), (⟨"WingTramsModel", "areHome", "(II)Z"⟩, 76), (⟨"WingTramsModel", "hangs", "(II)Z"⟩, 76), (⟨"WingTramsModel", "onFor", "(III)I"⟩, 76), (⟨"WingTramsModel", "isRoom", "(IIII)Z"⟩, 76), (⟨"WingTramsModel", "worthOf", "(I)I"⟩, 76), (⟨"WingTramsModel", "bestOf", "(III)I"⟩, 76), (⟨"WingTramsModel", "isSeen", "(I)Z"⟩, 76), (⟨"WingTramsModel", "gains", "(IIZ)I"⟩, 76)]
theorem lw_r7 : ∀ q ∈ lw_privs_7, lw_okq q := List.forall_mem_cons.mpr ⟨lw_p96, List.forall_mem_cons.mpr ⟨lw_p97, List.forall_mem_cons.mpr ⟨lw_p98, List.forall_mem_cons.mpr ⟨lw_p99, List.forall_mem_cons.mpr ⟨lw_p100, List.forall_mem_cons.mpr ⟨lw_p101, List.forall_mem_cons.mpr ⟨lw_p102, List.forall_mem_cons.mpr ⟨lw_p103, List.forall_mem_cons.mpr ⟨lw_p104, List.forall_mem_cons.mpr ⟨lw_p105, List.forall_mem_cons.mpr ⟨lw_p106, List.forall_mem_cons.mpr ⟨lw_p107, List.forall_mem_cons.mpr ⟨lw_p108, List.forall_mem_cons.mpr ⟨lw_p109, List.forall_mem_cons.mpr ⟨lw_p110, List.forall_mem_cons.mpr ⟨lw_p111, fun _ h => absurd h List.not_mem_nil⟩⟩⟩⟩⟩⟩⟩⟩⟩⟩⟩⟩⟩⟩⟩⟩
theorem lw_p112 : lw_okq (⟨"WingTramsModel", "takers", "(I)I"⟩, 76) := ⟨⟨by decide +kernel, by decide +kernel⟩, List.mem_of_getElem? (i := 1375) (by decide +kernel), List.mem_of_getElem? (i := 2026) (by decide +kernel), List.mem_of_getElem? (i := 2027) (by decide +kernel)⟩
def lw_privs_8 : List (MethodName × Nat) := [(⟨"WingTramsModel", "takers", "(I)I"⟩, 76)]
theorem lw_r8 : ∀ q ∈ lw_privs_8, lw_okq q := List.forall_mem_cons.mpr ⟨lw_p112, fun _ h => absurd h List.not_mem_nil⟩
def lw_privs : List (MethodName × Nat) := lw_privs_1 ++ (lw_privs_2 ++ (lw_privs_3 ++ (lw_privs_4 ++ (lw_privs_5 ++ (lw_privs_6 ++ (lw_privs_7 ++ (lw_privs_8)))))))
def lw_tbl : List Cond := k2_sels lw_privs ++ tables_1
theorem lw_privs_ok : ∀ q ∈ lw_privs, lw_okq q := by
  show ∀ q ∈ lw_privs_1 ++ (lw_privs_2 ++ (lw_privs_3 ++ (lw_privs_4 ++ (lw_privs_5 ++ (lw_privs_6 ++ (lw_privs_7 ++ (lw_privs_8))))))), lw_okq q
  exact List.forall_mem_append.mpr ⟨lw_r1, List.forall_mem_append.mpr ⟨lw_r2, List.forall_mem_append.mpr ⟨lw_r3, List.forall_mem_append.mpr ⟨lw_r4, List.forall_mem_append.mpr ⟨lw_r5, List.forall_mem_append.mpr ⟨lw_r6, List.forall_mem_append.mpr ⟨lw_r7, lw_r8⟩⟩⟩⟩⟩⟩⟩
-- ===== end of PART A; then your names; then what follows =====
end
section
/-! BASE: whole numbers for the machine's ints and longs; the store; the world's cells as lists -/
def wr (x : Int) : Int := Int.bmod x 4294967296
def wrL (x : Int) : Int := Int.bmod x 18446744073709551616
def iR (x : Int) : Prop := -2147483648 ≤ x ∧ x < 2147483648
def lR (x : Int) : Prop := -9223372036854775808 ≤ x ∧ x < 9223372036854775808
theorem wr_R (x : Int) : iR (wr x) := by
  unfold wr iR
  have h1 := Int.le_bmod (x := x) (m := 4294967296) (by omega)
  have h2 := Int.bmod_lt (x := x) (m := 4294967296) (by omega)
  omega
theorem wrL_R (x : Int) : lR (wrL x) := by
  unfold wrL lR
  have h1 := Int.le_bmod (x := x) (m := 18446744073709551616) (by omega)
  have h2 := Int.bmod_lt (x := x) (m := 18446744073709551616) (by omega)
  omega
theorem wr_eq {x : Int} (h : iR x) : wr x = x := by
  unfold wr
  exact Int.bmod_eq_of_le (by have := h.1; omega) (by have := h.2; omega)
theorem wrL_eq {x : Int} (h : lR x) : wrL x = x := by
  unfold wrL
  exact Int.bmod_eq_of_le (by have := h.1; omega) (by have := h.2; omega)
theorem oi_wr (x : Int) : Int32.ofInt (wr x) = Int32.ofInt x := by
  apply Int32.toInt_inj.mp
  rw [Int32.toInt_ofInt, Int32.toInt_ofInt]
  unfold wr
  exact Int.bmod_bmod
theorem ol_wr (x : Int) : Int64.ofInt (wrL x) = Int64.ofInt x := by
  apply Int64.toInt_inj.mp
  rw [Int64.toInt_ofInt, Int64.toInt_ofInt]
  unfold wrL
  exact Int.bmod_bmod
theorem ti_oi {x : Int} (h : iR x) : (Int32.ofInt x).toInt = x := by
  rw [Int32.toInt_ofInt]
  exact wr_eq h
theorem tl_ol {x : Int} (h : lR x) : (Int64.ofInt x).toInt = x := by
  rw [Int64.toInt_ofInt]
  exact wrL_eq h
theorem ti_R (x : Int32) : iR x.toInt := by
  have h1 := Int32.le_toInt x
  have h2 := Int32.toInt_lt x
  exact ⟨by simpa using h1, by simpa using h2⟩
theorem oi_ti (x : Int32) : Int32.ofInt x.toInt = x := Int32.ofInt_toInt x
theorem ol_tl (x : Int64) : Int64.ofInt x.toInt = x := Int64.ofInt_toInt x
theorem oi_eq {x y : Int} (hx : iR x) (hy : iR y) : Int32.ofInt x = Int32.ofInt y ↔ x = y :=
  ⟨fun h => by have := congrArg Int32.toInt h; rwa [ti_oi hx, ti_oi hy] at this, fun h => by rw [h]⟩
theorem oi_lt {x y : Int} (hx : iR x) (hy : iR y) : Int32.ofInt x < Int32.ofInt y ↔ x < y := by
  rw [Int32.lt_iff_toInt_lt, ti_oi hx, ti_oi hy]
theorem oi_le {x y : Int} (hx : iR x) (hy : iR y) : Int32.ofInt x ≤ Int32.ofInt y ↔ x ≤ y := by
  rw [Int32.le_iff_toInt_le, ti_oi hx, ti_oi hy]
theorem oi_0 : Int32.ofInt 0 = 0 := rfl
theorem oi_add (x y : Int) : Int32.ofInt x + Int32.ofInt y = Int32.ofInt (wr (x + y)) := by
  rw [oi_wr]; exact (Int32.ofInt_add x y).symm
theorem oi_sub (x y : Int) : Int32.ofInt x - Int32.ofInt y = Int32.ofInt (wr (x - y)) := by
  rw [oi_wr]; exact (Int32.ofInt_sub x y).symm
theorem oi_mul (x y : Int) : Int32.ofInt x * Int32.ofInt y = Int32.ofInt (wr (x * y)) := by
  rw [oi_wr]; exact (Int32.ofInt_mul x y).symm
theorem oi_neg (x : Int) : - Int32.ofInt x = Int32.ofInt (wr (-x)) := by
  rw [oi_wr]; exact (Int32.ofInt_neg x).symm
theorem in_R : ∀ {x : Int} {n : Nat}, 0 ≤ x → x < n → n < 2 ^ 31 → iR x := by
  intro x n h0 h1 h2
  unfold iR
  omega
theorem oi_in {x : Int} {n : Nat} (h0 : 0 ≤ x) (h1 : x < n) (hn : n < 2 ^ 31) : vp_in (Int32.ofInt x) n := by
  rw [vp_in_iff, ti_oi (in_R h0 h1 hn)]
  exact ⟨h0, h1⟩
theorem oi_cl {x : Int} {n : Nat} (h0 : 0 ≤ x) (h1 : x < n) (hn : n < 2 ^ 31) : (Int32.ofInt x).toNatClampNeg = x.toNat := by
  show (Int32.ofInt x).toInt.toNat = _
  rw [ti_oi (in_R h0 h1 hn)]
/-- values, by whole numbers: an int, a long, a cell by its place -/
abbrev dX : Type := Int ⊕ Int ⊕ Nat
abbrev dS : Type := Nat → Int → Int
def up (σ : dS) (k : Nat) (i : Int) (v : Int) : dS := fun k' i' => if k' = k ∧ i' = i then v else σ k' i'
theorem up_same (σ : dS) (k : Nat) (i v : Int) : up σ k i v k i = v := by simp [up]
theorem up_ne (σ : dS) {k k' : Nat} {i i' v : Int} (h : ¬ (k' = k ∧ i' = i)) : up σ k i v k' i' = σ k' i' := by simp only [up, if_neg h]
end
section
/-! NAMES, by program (wip/whole/gen/g04.py): classes, fields, methods by number, the words of the tables by their places, the shapes of the objects -/
def RX0 : String := "WingTrams$Beams"
def TX0 : u_T := fun k => match k with
  | 0 => ("WingTrams$Beams", "city", "LWingTrams$City;", true)
  | 1 => ("WingTrams$Beams", "apart", "LWingTrams$Row;", true)
  | 2 => ("WingTrams$Beams", "near", "LWingTrams$Row;", true)
  | 3 => ("WingTrams$Beams", "most", "I", false)
  | _ => ("WingTrams$Beams", "set", "I", false)
def tyX0 : Nat → FieldType := fun k => match k with
  | 0 => .object "WingTrams$City"
  | 1 => .object "WingTrams$Row"
  | 2 => .object "WingTrams$Row"
  | 3 => .int
  | _ => .int
theorem nmX0 : ∀ a, a < 5 → ∀ b, b < 5 → a ≠ b → (TX0 a).2.1 ≠ (TX0 b).2.1 := by decide +kernel
theorem tyX0_ok : ∀ k, k < 5 → parseFieldDescriptor (TX0 k).2.2.1 = some (tyX0 k) := by decide +kernel
def RX1 : String := "WingTrams$City"
def TX1 : u_T := fun k => match k with
  | 0 => ("WingTrams$City", "roofs", "I", false)
  | 1 => ("WingTrams$City", "flights", "I", false)
  | 2 => ("WingTrams$City", "owls", "I", false)
  | 3 => ("WingTrams$City", "riders", "I", false)
  | 4 => ("WingTrams$City", "dawn", "I", false)
  | 5 => ("WingTrams$City", "grain", "LWingTrams$Row;", true)
  | 6 => ("WingTrams$City", "minutes", "LWingTrams$Row;", true)
  | 7 => ("WingTrams$City", "kind", "LWingTrams$Row;", true)
  | 8 => ("WingTrams$City", "start", "LWingTrams$Row;", true)
  | 9 => ("WingTrams$City", "length", "LWingTrams$Row;", true)
  | 10 => ("WingTrams$City", "way", "LWingTrams$Row;", true)
  | 11 => ("WingTrams$City", "from", "LWingTrams$Row;", true)
  | 12 => ("WingTrams$City", "home", "LWingTrams$Row;", true)
  | 13 => ("WingTrams$City", "since", "LWingTrams$Row;", true)
  | 14 => ("WingTrams$City", "fur", "LWingTrams$Row;", true)
  | _ => ("WingTrams$City", "rules", "LWingTrams$Rules;", true)
def tyX1 : Nat → FieldType := fun k => match k with
  | 0 => .int
  | 1 => .int
  | 2 => .int
  | 3 => .int
  | 4 => .int
  | 5 => .object "WingTrams$Row"
  | 6 => .object "WingTrams$Row"
  | 7 => .object "WingTrams$Row"
  | 8 => .object "WingTrams$Row"
  | 9 => .object "WingTrams$Row"
  | 10 => .object "WingTrams$Row"
  | 11 => .object "WingTrams$Row"
  | 12 => .object "WingTrams$Row"
  | 13 => .object "WingTrams$Row"
  | 14 => .object "WingTrams$Row"
  | _ => .object "WingTrams$Rules"
theorem nmX1 : ∀ a, a < 16 → ∀ b, b < 16 → a ≠ b → (TX1 a).2.1 ≠ (TX1 b).2.1 := by decide +kernel
theorem tyX1_ok : ∀ k, k < 16 → parseFieldDescriptor (TX1 k).2.2.1 = some (tyX1 k) := by decide +kernel
def RX2 : String := "WingTrams$Log"
def TX2 : u_T := fun k => match k with
  | 0 => ("WingTrams$Log", "count", "I", false)
  | 1 => ("WingTrams$Log", "room", "I", true)
  | 2 => ("WingTrams$Log", "first", "LWingTrams$Row;", true)
  | 3 => ("WingTrams$Log", "second", "LWingTrams$Row;", true)
  | _ => ("WingTrams$Log", "third", "LWingTrams$Row;", true)
def tyX2 : Nat → FieldType := fun k => match k with
  | 0 => .int
  | 1 => .int
  | 2 => .object "WingTrams$Row"
  | 3 => .object "WingTrams$Row"
  | _ => .object "WingTrams$Row"
theorem nmX2 : ∀ a, a < 5 → ∀ b, b < 5 → a ≠ b → (TX2 a).2.1 ≠ (TX2 b).2.1 := by decide +kernel
theorem tyX2_ok : ∀ k, k < 5 → parseFieldDescriptor (TX2 k).2.2.1 = some (tyX2 k) := by decide +kernel
def RX3 : String := "WingTrams$Night"
def TX3 : u_T := fun k => match k with
  | 0 => ("WingTrams$Night", "city", "LWingTrams$City;", true)
  | 1 => ("WingTrams$Night", "comes", "LWingTrams$Row;", true)
  | 2 => ("WingTrams$Night", "leaves", "LWingTrams$Row;", true)
  | 3 => ("WingTrams$Night", "mice", "LWingTrams$Row;", true)
  | 4 => ("WingTrams$Night", "caught", "LWingTrams$Row;", true)
  | 5 => ("WingTrams$Night", "reached", "LWingTrams$Row;", true)
  | 6 => ("WingTrams$Night", "order", "LWingTrams$Row;", true)
  | 7 => ("WingTrams$Night", "comings", "I", false)
  | 8 => ("WingTrams$Night", "due", "LWingTrams$Row;", true)
  | 9 => ("WingTrams$Night", "values", "LWingTrams$Row;", true)
  | _ => ("WingTrams$Night", "marks", "LWingTrams$Row;", true)
def tyX3 : Nat → FieldType := fun k => match k with
  | 0 => .object "WingTrams$City"
  | 1 => .object "WingTrams$Row"
  | 2 => .object "WingTrams$Row"
  | 3 => .object "WingTrams$Row"
  | 4 => .object "WingTrams$Row"
  | 5 => .object "WingTrams$Row"
  | 6 => .object "WingTrams$Row"
  | 7 => .int
  | 8 => .object "WingTrams$Row"
  | 9 => .object "WingTrams$Row"
  | _ => .object "WingTrams$Row"
theorem nmX3 : ∀ a, a < 11 → ∀ b, b < 11 → a ≠ b → (TX3 a).2.1 ≠ (TX3 b).2.1 := by decide +kernel
theorem tyX3_ok : ∀ k, k < 11 → parseFieldDescriptor (TX3 k).2.2.1 = some (tyX3 k) := by decide +kernel
def RX4 : String := "WingTrams$Reader"
def TX4 : u_T := fun k => match k with
  | 0 => ("WingTrams$Reader", "tokens", "LWingTrams$Tokens;", true)
  | 1 => ("WingTrams$Reader", "city", "LWingTrams$City;", true)
  | 2 => ("WingTrams$Reader", "at", "I", false)
  | 3 => ("WingTrams$Reader", "fault", "I", false)
  | 4 => ("WingTrams$Reader", "place", "I", false)
  | _ => ("WingTrams$Reader", "dawnTold", "Z", false)
def tyX4 : Nat → FieldType := fun k => match k with
  | 0 => .object "WingTrams$Tokens"
  | 1 => .object "WingTrams$City"
  | 2 => .int
  | 3 => .int
  | 4 => .int
  | _ => .boolean
theorem nmX4 : ∀ a, a < 6 → ∀ b, b < 6 → a ≠ b → (TX4 a).2.1 ≠ (TX4 b).2.1 := by decide +kernel
theorem tyX4_ok : ∀ k, k < 6 → parseFieldDescriptor (TX4 k).2.2.1 = some (tyX4 k) := by decide +kernel
def RX5 : String := "WingTrams$Rides"
def TX5 : u_T := fun k => match k with
  | 0 => ("WingTrams$Rides", "city", "LWingTrams$City;", true)
  | 1 => ("WingTrams$Rides", "night", "LWingTrams$Night;", true)
  | 2 => ("WingTrams$Rides", "arrival", "LWingTrams$Row;", true)
  | 3 => ("WingTrams$Rides", "riding", "LWingTrams$Row;", true)
  | 4 => ("WingTrams$Rides", "soonest", "LWingTrams$Row;", true)
  | _ => ("WingTrams$Rides", "load", "LWingTrams$Row;", true)
def tyX5 : Nat → FieldType := fun k => match k with
  | 0 => .object "WingTrams$City"
  | 1 => .object "WingTrams$Night"
  | 2 => .object "WingTrams$Row"
  | 3 => .object "WingTrams$Row"
  | 4 => .object "WingTrams$Row"
  | _ => .object "WingTrams$Row"
theorem nmX5 : ∀ a, a < 6 → ∀ b, b < 6 → a ≠ b → (TX5 a).2.1 ≠ (TX5 b).2.1 := by decide +kernel
theorem tyX5_ok : ∀ k, k < 6 → parseFieldDescriptor (TX5 k).2.2.1 = some (tyX5 k) := by decide +kernel
def RX6 : String := "WingTrams$Row"
def TX6 : u_T := fun k => match k with
  | _ => ("WingTrams$Row", "cells", "[I", true)
def tyX6 : Nat → FieldType := fun k => match k with
  | _ => .array .int
theorem nmX6 : ∀ a, a < 1 → ∀ b, b < 1 → a ≠ b → (TX6 a).2.1 ≠ (TX6 b).2.1 := by decide +kernel
theorem tyX6_ok : ∀ k, k < 1 → parseFieldDescriptor (TX6 k).2.2.1 = some (tyX6 k) := by decide +kernel
def RX7 : String := "WingTrams$Rules"
def TX7 : u_T := fun k => match k with
  | 0 => ("WingTrams$Rules", "count", "I", false)
  | 1 => ("WingTrams$Rules", "steps", "I", false)
  | 2 => ("WingTrams$Rules", "code", "LWingTrams$Row;", true)
  | 3 => ("WingTrams$Rules", "ends", "LWingTrams$Row;", true)
  | _ => ("WingTrams$Rules", "stack", "LWingTrams$Row;", true)
def tyX7 : Nat → FieldType := fun k => match k with
  | 0 => .int
  | 1 => .int
  | 2 => .object "WingTrams$Row"
  | 3 => .object "WingTrams$Row"
  | _ => .object "WingTrams$Row"
theorem nmX7 : ∀ a, a < 5 → ∀ b, b < 5 → a ≠ b → (TX7 a).2.1 ≠ (TX7 b).2.1 := by decide +kernel
theorem tyX7_ok : ∀ k, k < 5 → parseFieldDescriptor (TX7 k).2.2.1 = some (tyX7 k) := by decide +kernel
def RX8 : String := "WingTrams$Sky"
def TX8 : u_T := fun k => match k with
  | 0 => ("WingTrams$Sky", "rule", "I", false)
  | 1 => ("WingTrams$Sky", "moon", "I", false)
  | 2 => ("WingTrams$Sky", "wet", "Z", false)
  | 3 => ("WingTrams$Sky", "nests", "I", false)
  | 4 => ("WingTrams$Sky", "grain", "LWingTrams$Row;", true)
  | _ => ("WingTrams$Sky", "start", "LWingTrams$Row;", true)
def tyX8 : Nat → FieldType := fun k => match k with
  | 0 => .int
  | 1 => .int
  | 2 => .boolean
  | 3 => .int
  | 4 => .object "WingTrams$Row"
  | _ => .object "WingTrams$Row"
theorem nmX8 : ∀ a, a < 6 → ∀ b, b < 6 → a ≠ b → (TX8 a).2.1 ≠ (TX8 b).2.1 := by decide +kernel
theorem tyX8_ok : ∀ k, k < 6 → parseFieldDescriptor (TX8 k).2.2.1 = some (tyX8 k) := by decide +kernel
def RX9 : String := "WingTrams$State"
def TX9 : u_T := fun k => match k with
  | 0 => ("WingTrams$State", "sky", "LWingTrams$Sky;", true)
  | 1 => ("WingTrams$State", "acts", "LWingTrams$Log;", true)
  | _ => ("WingTrams$State", "seen", "LWingTrams$Log;", true)
def tyX9 : Nat → FieldType := fun k => match k with
  | 0 => .object "WingTrams$Sky"
  | 1 => .object "WingTrams$Log"
  | _ => .object "WingTrams$Log"
theorem nmX9 : ∀ a, a < 3 → ∀ b, b < 3 → a ≠ b → (TX9 a).2.1 ≠ (TX9 b).2.1 := by decide +kernel
theorem tyX9_ok : ∀ k, k < 3 → parseFieldDescriptor (TX9 k).2.2.1 = some (tyX9 k) := by decide +kernel
def RX10 : String := "WingTrams$Tokens"
def TX10 : u_T := fun k => match k with
  | 0 => ("WingTrams$Tokens", "codes", "LWingTrams$Row;", true)
  | 1 => ("WingTrams$Tokens", "places", "LWingTrams$Row;", true)
  | 2 => ("WingTrams$Tokens", "numbers", "LWingTrams$Row;", true)
  | _ => ("WingTrams$Tokens", "count", "I", false)
def tyX10 : Nat → FieldType := fun k => match k with
  | 0 => .object "WingTrams$Row"
  | 1 => .object "WingTrams$Row"
  | 2 => .object "WingTrams$Row"
  | _ => .int
theorem nmX10 : ∀ a, a < 4 → ∀ b, b < 4 → a ≠ b → (TX10 a).2.1 ≠ (TX10 b).2.1 := by decide +kernel
theorem tyX10_ok : ∀ k, k < 4 → parseFieldDescriptor (TX10 k).2.2.1 = some (tyX10 k) := by decide +kernel
def RX11 : String := "WingTrams"
def TX11 : u_T := fun k => match k with
  | 0 => ("WingTrams", "tape", "LWingTrams$Row;", true)
  | 1 => ("WingTrams", "tapeLength", "I", false)
  | 2 => ("WingTrams", "faultPlace", "I", false)
  | 3 => ("WingTrams", "refused", "LWingTrams$Row;", true)
  | 4 => ("WingTrams", "city", "LWingTrams$City;", true)
  | 5 => ("WingTrams", "draft", "LWingTrams$City;", true)
  | 6 => ("WingTrams", "tokens", "LWingTrams$Tokens;", true)
  | 7 => ("WingTrams", "reader", "LWingTrams$Reader;", true)
  | 8 => ("WingTrams", "now", "LWingTrams$State;", true)
  | 9 => ("WingTrams", "picture", "LWingTrams$State;", true)
  | 10 => ("WingTrams", "hasPicture", "Z", false)
  | 11 => ("WingTrams", "trial", "LWingTrams$Sky;", true)
  | 12 => ("WingTrams", "night", "LWingTrams$Night;", true)
  | 13 => ("WingTrams", "rides", "LWingTrams$Rides;", true)
  | 14 => ("WingTrams", "lights", "LWingTrams$Beams;", true)
  | 15 => ("WingTrams", "lured", "LWingTrams$Row;", true)
  | 16 => ("WingTrams", "luring", "LWingTrams$Row;", true)
  | 17 => ("WingTrams", "hasLured", "Z", false)
  | _ => ("WingTrams", "seenBy", "LWingTrams$Row;", true)
def tyX11 : Nat → FieldType := fun k => match k with
  | 0 => .object "WingTrams$Row"
  | 1 => .int
  | 2 => .int
  | 3 => .object "WingTrams$Row"
  | 4 => .object "WingTrams$City"
  | 5 => .object "WingTrams$City"
  | 6 => .object "WingTrams$Tokens"
  | 7 => .object "WingTrams$Reader"
  | 8 => .object "WingTrams$State"
  | 9 => .object "WingTrams$State"
  | 10 => .boolean
  | 11 => .object "WingTrams$Sky"
  | 12 => .object "WingTrams$Night"
  | 13 => .object "WingTrams$Rides"
  | 14 => .object "WingTrams$Beams"
  | 15 => .object "WingTrams$Row"
  | 16 => .object "WingTrams$Row"
  | 17 => .boolean
  | _ => .object "WingTrams$Row"
theorem nmX11 : ∀ a, a < 19 → ∀ b, b < 19 → a ≠ b → (TX11 a).2.1 ≠ (TX11 b).2.1 := by decide +kernel
theorem tyX11_ok : ∀ k, k < 19 → parseFieldDescriptor (TX11 k).2.2.1 = some (tyX11 k) := by decide +kernel
def RX12 : String := "WingTramsModel"
def TX12 : u_T := fun k => match k with
  | 0 => ("WingTramsModel", "thrown", "I", false)
  | 1 => ("WingTramsModel", "roofs", "I", false)
  | 2 => ("WingTramsModel", "flights", "I", false)
  | 3 => ("WingTramsModel", "owls", "I", false)
  | 4 => ("WingTramsModel", "riders", "I", false)
  | 5 => ("WingTramsModel", "rules", "I", false)
  | 6 => ("WingTramsModel", "dawn", "I", false)
  | 7 => ("WingTramsModel", "flight", "[I", true)
  | 8 => ("WingTramsModel", "kind", "[I", true)
  | 9 => ("WingTramsModel", "wayLong", "[I", true)
  | 10 => ("WingTramsModel", "way", "[I", true)
  | 11 => ("WingTramsModel", "rider", "[I", true)
  | 12 => ("WingTramsModel", "ruleAt", "[I", true)
  | 13 => ("WingTramsModel", "code", "[I", true)
  | 14 => ("WingTramsModel", "tape", "[I", true)
  | 15 => ("WingTramsModel", "taped", "I", false)
  | 16 => ("WingTramsModel", "faultKind", "I", false)
  | 17 => ("WingTramsModel", "faultPlace", "I", false)
  | 18 => ("WingTramsModel", "refused", "[I", true)
  | 19 => ("WingTramsModel", "long1", "I", false)
  | 20 => ("WingTramsModel", "next", "I", false)
  | 21 => ("WingTramsModel", "sort", "I", false)
  | 22 => ("WingTramsModel", "place", "I", false)
  | 23 => ("WingTramsModel", "long0", "I", false)
  | 24 => ("WingTramsModel", "value", "I", false)
  | 25 => ("WingTramsModel", "sign", "I", false)
  | 26 => ("WingTramsModel", "word", "J", false)
  | 27 => ("WingTramsModel", "newRoofs", "I", false)
  | 28 => ("WingTramsModel", "newFlights", "I", false)
  | 29 => ("WingTramsModel", "newOwls", "I", false)
  | 30 => ("WingTramsModel", "newRiders", "I", false)
  | 31 => ("WingTramsModel", "newRules", "I", false)
  | 32 => ("WingTramsModel", "newDawn", "I", false)
  | 33 => ("WingTramsModel", "top", "I", false)
  | 34 => ("WingTramsModel", "waiting", "I", false)
  | 35 => ("WingTramsModel", "depth", "I", false)
  | 36 => ("WingTramsModel", "newGrain", "[I", true)
  | 37 => ("WingTramsModel", "newFlight", "[I", true)
  | 38 => ("WingTramsModel", "newKind", "[I", true)
  | 39 => ("WingTramsModel", "newMinute", "[I", true)
  | 40 => ("WingTramsModel", "newLong", "[I", true)
  | 41 => ("WingTramsModel", "newWay", "[I", true)
  | 42 => ("WingTramsModel", "newRider", "[I", true)
  | 43 => ("WingTramsModel", "newRuleAt", "[I", true)
  | 44 => ("WingTramsModel", "readCode", "[I", true)
  | 45 => ("WingTramsModel", "waits", "[I", true)
  | 46 => ("WingTramsModel", "tested", "[Z", true)
  | 47 => ("WingTramsModel", "now", "[I", true)
  | 48 => ("WingTramsModel", "then", "[I", true)
  | 49 => ("WingTramsModel", "act", "[I", true)
  | 50 => ("WingTramsModel", "acts", "I", false)
  | 51 => ("WingTramsModel", "far", "[I", true)
  | 52 => ("WingTramsModel", "told", "[I", true)
  | 53 => ("WingTramsModel", "pile", "[I", true)
  | 54 => ("WingTramsModel", "comes", "[I", true)
  | 55 => ("WingTramsModel", "leaves", "[I", true)
  | 56 => ("WingTramsModel", "mice", "[I", true)
  | 57 => ("WingTramsModel", "caught", "[I", true)
  | 58 => ("WingTramsModel", "at", "[I", true)
  | 59 => ("WingTramsModel", "in", "[I", true)
  | 60 => ("WingTramsModel", "soon", "[I", true)
  | 61 => ("WingTramsModel", "soonThen", "[I", true)
  | 62 => ("WingTramsModel", "soonBy", "[I", true)
  | 63 => ("WingTramsModel", "row", "[I", true)
  | 64 => ("WingTramsModel", "tried", "[I", true)
  | 65 => ("WingTramsModel", "hasRow", "Z", false)
  | 66 => ("WingTramsModel", "hung", "[I", true)
  | 67 => ("WingTramsModel", "seenMany", "I", false)
  | 68 => ("WingTramsModel", "seen", "[I", true)
  | 69 => ("WingTramsModel", "often", "[I", true)
  | 70 => ("WingTramsModel", "hasImage", "Z", false)
  | 71 => ("WingTramsModel", "imageActs", "I", false)
  | 72 => ("WingTramsModel", "imageSeen", "I", false)
  | 73 => ("WingTramsModel", "imageNow", "[I", true)
  | 74 => ("WingTramsModel", "imageAct", "[I", true)
  | _ => ("WingTramsModel", "imageSees", "[I", true)
def tyX12 : Nat → FieldType := fun k => match k with
  | 0 => .int
  | 1 => .int
  | 2 => .int
  | 3 => .int
  | 4 => .int
  | 5 => .int
  | 6 => .int
  | 7 => .array .int
  | 8 => .array .int
  | 9 => .array .int
  | 10 => .array .int
  | 11 => .array .int
  | 12 => .array .int
  | 13 => .array .int
  | 14 => .array .int
  | 15 => .int
  | 16 => .int
  | 17 => .int
  | 18 => .array .int
  | 19 => .int
  | 20 => .int
  | 21 => .int
  | 22 => .int
  | 23 => .int
  | 24 => .int
  | 25 => .int
  | 26 => .long
  | 27 => .int
  | 28 => .int
  | 29 => .int
  | 30 => .int
  | 31 => .int
  | 32 => .int
  | 33 => .int
  | 34 => .int
  | 35 => .int
  | 36 => .array .int
  | 37 => .array .int
  | 38 => .array .int
  | 39 => .array .int
  | 40 => .array .int
  | 41 => .array .int
  | 42 => .array .int
  | 43 => .array .int
  | 44 => .array .int
  | 45 => .array .int
  | 46 => .array .boolean
  | 47 => .array .int
  | 48 => .array .int
  | 49 => .array .int
  | 50 => .int
  | 51 => .array .int
  | 52 => .array .int
  | 53 => .array .int
  | 54 => .array .int
  | 55 => .array .int
  | 56 => .array .int
  | 57 => .array .int
  | 58 => .array .int
  | 59 => .array .int
  | 60 => .array .int
  | 61 => .array .int
  | 62 => .array .int
  | 63 => .array .int
  | 64 => .array .int
  | 65 => .boolean
  | 66 => .array .int
  | 67 => .int
  | 68 => .array .int
  | 69 => .array .int
  | 70 => .boolean
  | 71 => .int
  | 72 => .int
  | 73 => .array .int
  | 74 => .array .int
  | _ => .array .int
theorem nmX12 : ∀ a, a < 76 → ∀ b, b < 76 → a ≠ b → (TX12 a).2.1 ≠ (TX12 b).2.1 := by decide +kernel
theorem tyX12_ok : ∀ k, k < 76 → parseFieldDescriptor (TX12 k).2.2.1 = some (tyX12 k) := by decide +kernel
abbrev vwCl : List vw_C := [(RX0, TX0, 5), (RX1, TX1, 16), (RX2, TX2, 5), (RX3, TX3, 11), (RX4, TX4, 6), (RX5, TX5, 6), (RX6, TX6, 1), (RX7, TX7, 5), (RX8, TX8, 6), (RX9, TX9, 3), (RX10, TX10, 4), (RX11, TX11, 19), (RX12, TX12, 76)]
def vwTy : List (Nat → FieldType) := [tyX0, tyX1, tyX2, tyX3, tyX4, tyX5, tyX6, tyX7, tyX8, tyX9, tyX10, tyX11, tyX12]
/-- the words that a method hands on: those that the tables alone decide -/
def TBg : List Cond := lw_tbl.filter goodWord
theorem tgm {w : Cond} (h : w ∈ tables_1) (g : goodWord w = true) : w ∈ TBg := List.mem_filter.mpr ⟨List.mem_append_right _ h, g⟩
theorem tg1 {w : Cond} (i : Nat) (h : tables_1_1[i]? = some w) (g : goodWord w = true) : w ∈ TBg := tgm (List.mem_append_left _ (List.mem_of_getElem? h)) g
theorem tg2 {w : Cond} (i : Nat) (h : tables_1_2[i]? = some w) (g : goodWord w = true) : w ∈ TBg := tgm (List.mem_append_right _ (List.mem_append_left _ (List.mem_of_getElem? h))) g
theorem tg3 {w : Cond} (i : Nat) (h : tables_1_3[i]? = some w) (g : goodWord w = true) : w ∈ TBg := tgm (List.mem_append_right _ (List.mem_append_right _ (List.mem_append_left _ (List.mem_of_getElem? h)))) g
theorem tg4 {w : Cond} (i : Nat) (h : tables_1_4[i]? = some w) (g : goodWord w = true) : w ∈ TBg := tgm (List.mem_append_right _ (List.mem_append_right _ (List.mem_append_right _ (List.mem_append_left _ (List.mem_of_getElem? h))))) g
theorem tg5 {w : Cond} (i : Nat) (h : tables_1_5[i]? = some w) (g : goodWord w = true) : w ∈ TBg := tgm (List.mem_append_right _ (List.mem_append_right _ (List.mem_append_right _ (List.mem_append_right _ (List.mem_append_left _ (List.mem_of_getElem? h)))))) g
theorem tg6 {w : Cond} (i : Nat) (h : tables_1_6[i]? = some w) (g : goodWord w = true) : w ∈ TBg := tgm (List.mem_append_right _ (List.mem_append_right _ (List.mem_append_right _ (List.mem_append_right _ (List.mem_append_right _ (List.mem_append_left _ (List.mem_of_getElem? h))))))) g
theorem tg7 {w : Cond} (i : Nat) (h : tables_1_7[i]? = some w) (g : goodWord w = true) : w ∈ TBg := tgm (List.mem_append_right _ (List.mem_append_right _ (List.mem_append_right _ (List.mem_append_right _ (List.mem_append_right _ (List.mem_append_right _ (List.mem_append_left _ (List.mem_of_getElem? h)))))))) g
theorem tg8 {w : Cond} (i : Nat) (h : tables_1_8[i]? = some w) (g : goodWord w = true) : w ∈ TBg := tgm (List.mem_append_right _ (List.mem_append_right _ (List.mem_append_right _ (List.mem_append_right _ (List.mem_append_right _ (List.mem_append_right _ (List.mem_append_right _ (List.mem_append_left _ (List.mem_of_getElem? h))))))))) g
theorem tg9 {w : Cond} (i : Nat) (h : tables_1_9[i]? = some w) (g : goodWord w = true) : w ∈ TBg := tgm (List.mem_append_right _ (List.mem_append_right _ (List.mem_append_right _ (List.mem_append_right _ (List.mem_append_right _ (List.mem_append_right _ (List.mem_append_right _ (List.mem_append_right _ (List.mem_of_getElem? h))))))))) g
theorem tgs {w : Cond} (i : Nat) (h : (k2_sels lw_privs)[i]? = some w) (g : goodWord w = true) : w ∈ TBg := List.mem_filter.mpr ⟨List.mem_append_left _ (List.mem_of_getElem? h), g⟩
def okC (q : vw_C) (t : Nat → FieldType) : Prop := (∀ w ∈ u_ws q.1 q.2.1 q.2.2, w ∈ TBg) ∧ (∀ k, k < q.2.2 → parseFieldDescriptor (q.2.1 k).2.2.1 = some (t k)) ∧ (∀ a, a < q.2.2 → ∀ b, b < q.2.2 → a ≠ b → (q.2.1 a).2.1 ≠ (q.2.1 b).2.1) ∧ (∀ k, k < q.2.2 → (q.2.1 k).1 = q.1) ∧ Cond.instantiable q.1 q.2.2 ∈ TBg ∧ Cond.initialized q.1 ∈ TBg
theorem okC0 : okC (RX0, TX0, 5) tyX0 := by
  refine ⟨?_, tyX0_ok, nmX0, by decide +kernel, tg2 165 (by decide +kernel) rfl, tg1 12 (by decide +kernel) rfl⟩
  show ∀ w ∈ [u_lay RX0 TX0 0, u_lay RX0 TX0 1, u_lay RX0 TX0 2, u_lay RX0 TX0 3, u_lay RX0 TX0 4], w ∈ TBg
  exact List.forall_mem_cons.mpr ⟨tg2 179 (by decide +kernel) rfl, List.forall_mem_cons.mpr ⟨tg2 181 (by decide +kernel) rfl, List.forall_mem_cons.mpr ⟨tg2 183 (by decide +kernel) rfl, List.forall_mem_cons.mpr ⟨tg2 185 (by decide +kernel) rfl, List.forall_mem_cons.mpr ⟨tg2 187 (by decide +kernel) rfl, fun _ h => absurd h List.not_mem_nil⟩⟩⟩⟩⟩
theorem okC1 : okC (RX1, TX1, 16) tyX1 := by
  refine ⟨?_, tyX1_ok, nmX1, by decide +kernel, tg1 46 (by decide +kernel) rfl, tg1 3 (by decide +kernel) rfl⟩
  show ∀ w ∈ [u_lay RX1 TX1 0, u_lay RX1 TX1 1, u_lay RX1 TX1 2, u_lay RX1 TX1 3, u_lay RX1 TX1 4, u_lay RX1 TX1 5, u_lay RX1 TX1 6, u_lay RX1 TX1 7, u_lay RX1 TX1 8, u_lay RX1 TX1 9, u_lay RX1 TX1 10, u_lay RX1 TX1 11, u_lay RX1 TX1 12, u_lay RX1 TX1 13, u_lay RX1 TX1 14, u_lay RX1 TX1 15], w ∈ TBg
  exact List.forall_mem_cons.mpr ⟨tg1 146 (by decide +kernel) rfl, List.forall_mem_cons.mpr ⟨tg1 148 (by decide +kernel) rfl, List.forall_mem_cons.mpr ⟨tg1 150 (by decide +kernel) rfl, List.forall_mem_cons.mpr ⟨tg1 152 (by decide +kernel) rfl, List.forall_mem_cons.mpr ⟨tg1 154 (by decide +kernel) rfl, List.forall_mem_cons.mpr ⟨tg1 156 (by decide +kernel) rfl, List.forall_mem_cons.mpr ⟨tg1 158 (by decide +kernel) rfl, List.forall_mem_cons.mpr ⟨tg1 160 (by decide +kernel) rfl, List.forall_mem_cons.mpr ⟨tg1 162 (by decide +kernel) rfl, List.forall_mem_cons.mpr ⟨tg1 164 (by decide +kernel) rfl, List.forall_mem_cons.mpr ⟨tg1 166 (by decide +kernel) rfl, List.forall_mem_cons.mpr ⟨tg1 168 (by decide +kernel) rfl, List.forall_mem_cons.mpr ⟨tg1 170 (by decide +kernel) rfl, List.forall_mem_cons.mpr ⟨tg1 172 (by decide +kernel) rfl, List.forall_mem_cons.mpr ⟨tg1 174 (by decide +kernel) rfl, List.forall_mem_cons.mpr ⟨tg1 176 (by decide +kernel) rfl, fun _ h => absurd h List.not_mem_nil⟩⟩⟩⟩⟩⟩⟩⟩⟩⟩⟩⟩⟩⟩⟩⟩
theorem okC2 : okC (RX2, TX2, 5) tyX2 := by
  refine ⟨?_, tyX2_ok, nmX2, by decide +kernel, tg2 40 (by decide +kernel) rfl, tg1 9 (by decide +kernel) rfl⟩
  show ∀ w ∈ [u_lay RX2 TX2 0, u_lay RX2 TX2 1, u_lay RX2 TX2 2, u_lay RX2 TX2 3, u_lay RX2 TX2 4], w ∈ TBg
  exact List.forall_mem_cons.mpr ⟨tg2 60 (by decide +kernel) rfl, List.forall_mem_cons.mpr ⟨tg2 62 (by decide +kernel) rfl, List.forall_mem_cons.mpr ⟨tg2 64 (by decide +kernel) rfl, List.forall_mem_cons.mpr ⟨tg2 66 (by decide +kernel) rfl, List.forall_mem_cons.mpr ⟨tg2 68 (by decide +kernel) rfl, fun _ h => absurd h List.not_mem_nil⟩⟩⟩⟩⟩
theorem okC3 : okC (RX3, TX3, 11) tyX3 := by
  refine ⟨?_, tyX3_ok, nmX3, by decide +kernel, tg2 87 (by decide +kernel) rfl, tg1 10 (by decide +kernel) rfl⟩
  show ∀ w ∈ [u_lay RX3 TX3 0, u_lay RX3 TX3 1, u_lay RX3 TX3 2, u_lay RX3 TX3 3, u_lay RX3 TX3 4, u_lay RX3 TX3 5, u_lay RX3 TX3 6, u_lay RX3 TX3 7, u_lay RX3 TX3 8, u_lay RX3 TX3 9, u_lay RX3 TX3 10], w ∈ TBg
  exact List.forall_mem_cons.mpr ⟨tg2 114 (by decide +kernel) rfl, List.forall_mem_cons.mpr ⟨tg2 116 (by decide +kernel) rfl, List.forall_mem_cons.mpr ⟨tg2 118 (by decide +kernel) rfl, List.forall_mem_cons.mpr ⟨tg2 120 (by decide +kernel) rfl, List.forall_mem_cons.mpr ⟨tg2 122 (by decide +kernel) rfl, List.forall_mem_cons.mpr ⟨tg2 124 (by decide +kernel) rfl, List.forall_mem_cons.mpr ⟨tg2 126 (by decide +kernel) rfl, List.forall_mem_cons.mpr ⟨tg2 128 (by decide +kernel) rfl, List.forall_mem_cons.mpr ⟨tg2 130 (by decide +kernel) rfl, List.forall_mem_cons.mpr ⟨tg2 132 (by decide +kernel) rfl, List.forall_mem_cons.mpr ⟨tg2 134 (by decide +kernel) rfl, fun _ h => absurd h List.not_mem_nil⟩⟩⟩⟩⟩⟩⟩⟩⟩⟩⟩
theorem okC4 : okC (RX4, TX4, 6) tyX4 := by
  refine ⟨?_, tyX4_ok, nmX4, by decide +kernel, tg1 204 (by decide +kernel) rfl, tg1 6 (by decide +kernel) rfl⟩
  show ∀ w ∈ [u_lay RX4 TX4 0, u_lay RX4 TX4 1, u_lay RX4 TX4 2, u_lay RX4 TX4 3, u_lay RX4 TX4 4, u_lay RX4 TX4 5], w ∈ TBg
  exact List.forall_mem_cons.mpr ⟨tg1 216 (by decide +kernel) rfl, List.forall_mem_cons.mpr ⟨tg1 218 (by decide +kernel) rfl, List.forall_mem_cons.mpr ⟨tg1 220 (by decide +kernel) rfl, List.forall_mem_cons.mpr ⟨tg1 222 (by decide +kernel) rfl, List.forall_mem_cons.mpr ⟨tg1 224 (by decide +kernel) rfl, List.forall_mem_cons.mpr ⟨tg1 226 (by decide +kernel) rfl, fun _ h => absurd h List.not_mem_nil⟩⟩⟩⟩⟩⟩
theorem okC5 : okC (RX5, TX5, 6) tyX5 := by
  refine ⟨?_, tyX5_ok, nmX5, by decide +kernel, tg2 138 (by decide +kernel) rfl, tg1 11 (by decide +kernel) rfl⟩
  show ∀ w ∈ [u_lay RX5 TX5 0, u_lay RX5 TX5 1, u_lay RX5 TX5 2, u_lay RX5 TX5 3, u_lay RX5 TX5 4, u_lay RX5 TX5 5], w ∈ TBg
  exact List.forall_mem_cons.mpr ⟨tg2 151 (by decide +kernel) rfl, List.forall_mem_cons.mpr ⟨tg2 153 (by decide +kernel) rfl, List.forall_mem_cons.mpr ⟨tg2 155 (by decide +kernel) rfl, List.forall_mem_cons.mpr ⟨tg2 157 (by decide +kernel) rfl, List.forall_mem_cons.mpr ⟨tg2 159 (by decide +kernel) rfl, List.forall_mem_cons.mpr ⟨tg2 161 (by decide +kernel) rfl, fun _ h => absurd h List.not_mem_nil⟩⟩⟩⟩⟩⟩
theorem okC6 : okC (RX6, TX6, 1) tyX6 := by
  refine ⟨?_, tyX6_ok, nmX6, by decide +kernel, tg1 35 (by decide +kernel) rfl, tg1 2 (by decide +kernel) rfl⟩
  show ∀ w ∈ [u_lay RX6 TX6 0], w ∈ TBg
  exact List.forall_mem_cons.mpr ⟨tg1 41 (by decide +kernel) rfl, fun _ h => absurd h List.not_mem_nil⟩
theorem okC7 : okC (RX7, TX7, 5) tyX7 := by
  refine ⟨?_, tyX7_ok, nmX7, by decide +kernel, tg1 54 (by decide +kernel) rfl, tg1 4 (by decide +kernel) rfl⟩
  show ∀ w ∈ [u_lay RX7 TX7 0, u_lay RX7 TX7 1, u_lay RX7 TX7 2, u_lay RX7 TX7 3, u_lay RX7 TX7 4], w ∈ TBg
  exact List.forall_mem_cons.mpr ⟨tg1 69 (by decide +kernel) rfl, List.forall_mem_cons.mpr ⟨tg1 71 (by decide +kernel) rfl, List.forall_mem_cons.mpr ⟨tg1 73 (by decide +kernel) rfl, List.forall_mem_cons.mpr ⟨tg1 75 (by decide +kernel) rfl, List.forall_mem_cons.mpr ⟨tg1 77 (by decide +kernel) rfl, fun _ h => absurd h List.not_mem_nil⟩⟩⟩⟩⟩
theorem okC8 : okC (RX8, TX8, 6) tyX8 := by
  refine ⟨?_, tyX8_ok, nmX8, by decide +kernel, tg1 236 (by decide +kernel) rfl, tg1 8 (by decide +kernel) rfl⟩
  show ∀ w ∈ [u_lay RX8 TX8 0, u_lay RX8 TX8 1, u_lay RX8 TX8 2, u_lay RX8 TX8 3, u_lay RX8 TX8 4, u_lay RX8 TX8 5], w ∈ TBg
  exact List.forall_mem_cons.mpr ⟨tg2 26 (by decide +kernel) rfl, List.forall_mem_cons.mpr ⟨tg2 28 (by decide +kernel) rfl, List.forall_mem_cons.mpr ⟨tg2 30 (by decide +kernel) rfl, List.forall_mem_cons.mpr ⟨tg2 32 (by decide +kernel) rfl, List.forall_mem_cons.mpr ⟨tg2 34 (by decide +kernel) rfl, List.forall_mem_cons.mpr ⟨tg2 36 (by decide +kernel) rfl, fun _ h => absurd h List.not_mem_nil⟩⟩⟩⟩⟩⟩
theorem okC9 : okC (RX9, TX9, 3) tyX9 := by
  refine ⟨?_, tyX9_ok, nmX9, by decide +kernel, tg1 230 (by decide +kernel) rfl, tg1 7 (by decide +kernel) rfl⟩
  show ∀ w ∈ [u_lay RX9 TX9 0, u_lay RX9 TX9 1, u_lay RX9 TX9 2], w ∈ TBg
  exact List.forall_mem_cons.mpr ⟨tg2 77 (by decide +kernel) rfl, List.forall_mem_cons.mpr ⟨tg2 79 (by decide +kernel) rfl, List.forall_mem_cons.mpr ⟨tg2 81 (by decide +kernel) rfl, fun _ h => absurd h List.not_mem_nil⟩⟩⟩
theorem okC10 : okC (RX10, TX10, 4) tyX10 := by
  refine ⟨?_, tyX10_ok, nmX10, by decide +kernel, tg1 180 (by decide +kernel) rfl, tg1 5 (by decide +kernel) rfl⟩
  show ∀ w ∈ [u_lay RX10 TX10 0, u_lay RX10 TX10 1, u_lay RX10 TX10 2, u_lay RX10 TX10 3], w ∈ TBg
  exact List.forall_mem_cons.mpr ⟨tg1 194 (by decide +kernel) rfl, List.forall_mem_cons.mpr ⟨tg1 196 (by decide +kernel) rfl, List.forall_mem_cons.mpr ⟨tg1 198 (by decide +kernel) rfl, List.forall_mem_cons.mpr ⟨tg1 200 (by decide +kernel) rfl, fun _ h => absurd h List.not_mem_nil⟩⟩⟩⟩
theorem okC11 : okC (RX11, TX11, 19) tyX11 := by
  refine ⟨?_, tyX11_ok, nmX11, by decide +kernel, tg1 27 (by decide +kernel) rfl, tg1 1 (by decide +kernel) rfl⟩
  show ∀ w ∈ [u_lay RX11 TX11 0, u_lay RX11 TX11 1, u_lay RX11 TX11 2, u_lay RX11 TX11 3, u_lay RX11 TX11 4, u_lay RX11 TX11 5, u_lay RX11 TX11 6, u_lay RX11 TX11 7, u_lay RX11 TX11 8, u_lay RX11 TX11 9, u_lay RX11 TX11 10, u_lay RX11 TX11 11, u_lay RX11 TX11 12, u_lay RX11 TX11 13, u_lay RX11 TX11 14, u_lay RX11 TX11 15, u_lay RX11 TX11 16, u_lay RX11 TX11 17, u_lay RX11 TX11 18], w ∈ TBg
  exact List.forall_mem_cons.mpr ⟨tg2 209 (by decide +kernel) rfl, List.forall_mem_cons.mpr ⟨tg2 211 (by decide +kernel) rfl, List.forall_mem_cons.mpr ⟨tg2 213 (by decide +kernel) rfl, List.forall_mem_cons.mpr ⟨tg2 215 (by decide +kernel) rfl, List.forall_mem_cons.mpr ⟨tg2 217 (by decide +kernel) rfl, List.forall_mem_cons.mpr ⟨tg2 219 (by decide +kernel) rfl, List.forall_mem_cons.mpr ⟨tg2 221 (by decide +kernel) rfl, List.forall_mem_cons.mpr ⟨tg2 223 (by decide +kernel) rfl, List.forall_mem_cons.mpr ⟨tg2 225 (by decide +kernel) rfl, List.forall_mem_cons.mpr ⟨tg2 227 (by decide +kernel) rfl, List.forall_mem_cons.mpr ⟨tg2 229 (by decide +kernel) rfl, List.forall_mem_cons.mpr ⟨tg2 231 (by decide +kernel) rfl, List.forall_mem_cons.mpr ⟨tg2 233 (by decide +kernel) rfl, List.forall_mem_cons.mpr ⟨tg2 235 (by decide +kernel) rfl, List.forall_mem_cons.mpr ⟨tg2 237 (by decide +kernel) rfl, List.forall_mem_cons.mpr ⟨tg2 239 (by decide +kernel) rfl, List.forall_mem_cons.mpr ⟨tg3 1 (by decide +kernel) rfl, List.forall_mem_cons.mpr ⟨tg3 3 (by decide +kernel) rfl, List.forall_mem_cons.mpr ⟨tg3 5 (by decide +kernel) rfl, fun _ h => absurd h List.not_mem_nil⟩⟩⟩⟩⟩⟩⟩⟩⟩⟩⟩⟩⟩⟩⟩⟩⟩⟩⟩
theorem okC12 : okC (RX12, TX12, 76) tyX12 := by
  refine ⟨?_, tyX12_ok, nmX12, by decide +kernel, tg6 175 (by decide +kernel) rfl, tg1 13 (by decide +kernel) rfl⟩
  show ∀ w ∈ [u_lay RX12 TX12 0, u_lay RX12 TX12 1, u_lay RX12 TX12 2, u_lay RX12 TX12 3, u_lay RX12 TX12 4, u_lay RX12 TX12 5, u_lay RX12 TX12 6, u_lay RX12 TX12 7, u_lay RX12 TX12 8, u_lay RX12 TX12 9, u_lay RX12 TX12 10, u_lay RX12 TX12 11, u_lay RX12 TX12 12, u_lay RX12 TX12 13, u_lay RX12 TX12 14, u_lay RX12 TX12 15, u_lay RX12 TX12 16, u_lay RX12 TX12 17, u_lay RX12 TX12 18, u_lay RX12 TX12 19, u_lay RX12 TX12 20, u_lay RX12 TX12 21, u_lay RX12 TX12 22, u_lay RX12 TX12 23, u_lay RX12 TX12 24, u_lay RX12 TX12 25, u_lay RX12 TX12 26, u_lay RX12 TX12 27, u_lay RX12 TX12 28, u_lay RX12 TX12 29, u_lay RX12 TX12 30, u_lay RX12 TX12 31, u_lay RX12 TX12 32, u_lay RX12 TX12 33, u_lay RX12 TX12 34, u_lay RX12 TX12 35, u_lay RX12 TX12 36, u_lay RX12 TX12 37, u_lay RX12 TX12 38, u_lay RX12 TX12 39, u_lay RX12 TX12 40, u_lay RX12 TX12 41, u_lay RX12 TX12 42, u_lay RX12 TX12 43, u_lay RX12 TX12 44, u_lay RX12 TX12 45, u_lay RX12 TX12 46, u_lay RX12 TX12 47, u_lay RX12 TX12 48, u_lay RX12 TX12 49, u_lay RX12 TX12 50, u_lay RX12 TX12 51, u_lay RX12 TX12 52, u_lay RX12 TX12 53, u_lay RX12 TX12 54, u_lay RX12 TX12 55, u_lay RX12 TX12 56, u_lay RX12 TX12 57, u_lay RX12 TX12 58, u_lay RX12 TX12 59, u_lay RX12 TX12 60, u_lay RX12 TX12 61, u_lay RX12 TX12 62, u_lay RX12 TX12 63, u_lay RX12 TX12 64, u_lay RX12 TX12 65, u_lay RX12 TX12 66, u_lay RX12 TX12 67, u_lay RX12 TX12 68, u_lay RX12 TX12 69, u_lay RX12 TX12 70, u_lay RX12 TX12 71, u_lay RX12 TX12 72, u_lay RX12 TX12 73, u_lay RX12 TX12 74, u_lay RX12 TX12 75], w ∈ TBg
  exact List.forall_mem_cons.mpr ⟨tg7 16 (by decide +kernel) rfl, List.forall_mem_cons.mpr ⟨tg7 18 (by decide +kernel) rfl, List.forall_mem_cons.mpr ⟨tg7 20 (by decide +kernel) rfl, List.forall_mem_cons.mpr ⟨tg7 22 (by decide +kernel) rfl, List.forall_mem_cons.mpr ⟨tg7 24 (by decide +kernel) rfl, List.forall_mem_cons.mpr ⟨tg7 26 (by decide +kernel) rfl, List.forall_mem_cons.mpr ⟨tg7 28 (by decide +kernel) rfl, List.forall_mem_cons.mpr ⟨tg7 30 (by decide +kernel) rfl, List.forall_mem_cons.mpr ⟨tg7 32 (by decide +kernel) rfl, List.forall_mem_cons.mpr ⟨tg7 34 (by decide +kernel) rfl, List.forall_mem_cons.mpr ⟨tg7 36 (by decide +kernel) rfl, List.forall_mem_cons.mpr ⟨tg7 38 (by decide +kernel) rfl, List.forall_mem_cons.mpr ⟨tg7 40 (by decide +kernel) rfl, List.forall_mem_cons.mpr ⟨tg7 42 (by decide +kernel) rfl, List.forall_mem_cons.mpr ⟨tg7 44 (by decide +kernel) rfl, List.forall_mem_cons.mpr ⟨tg7 46 (by decide +kernel) rfl, List.forall_mem_cons.mpr ⟨tg7 48 (by decide +kernel) rfl, List.forall_mem_cons.mpr ⟨tg7 50 (by decide +kernel) rfl, List.forall_mem_cons.mpr ⟨tg7 52 (by decide +kernel) rfl, List.forall_mem_cons.mpr ⟨tg7 54 (by decide +kernel) rfl, List.forall_mem_cons.mpr ⟨tg7 56 (by decide +kernel) rfl, List.forall_mem_cons.mpr ⟨tg7 58 (by decide +kernel) rfl, List.forall_mem_cons.mpr ⟨tg7 60 (by decide +kernel) rfl, List.forall_mem_cons.mpr ⟨tg7 62 (by decide +kernel) rfl, List.forall_mem_cons.mpr ⟨tg7 64 (by decide +kernel) rfl, List.forall_mem_cons.mpr ⟨tg7 66 (by decide +kernel) rfl, List.forall_mem_cons.mpr ⟨tg7 68 (by decide +kernel) rfl, List.forall_mem_cons.mpr ⟨tg7 70 (by decide +kernel) rfl, List.forall_mem_cons.mpr ⟨tg7 72 (by decide +kernel) rfl, List.forall_mem_cons.mpr ⟨tg7 74 (by decide +kernel) rfl, List.forall_mem_cons.mpr ⟨tg7 76 (by decide +kernel) rfl, List.forall_mem_cons.mpr ⟨tg7 78 (by decide +kernel) rfl, List.forall_mem_cons.mpr ⟨tg7 80 (by decide +kernel) rfl, List.forall_mem_cons.mpr ⟨tg7 82 (by decide +kernel) rfl, List.forall_mem_cons.mpr ⟨tg7 84 (by decide +kernel) rfl, List.forall_mem_cons.mpr ⟨tg7 86 (by decide +kernel) rfl, List.forall_mem_cons.mpr ⟨tg7 88 (by decide +kernel) rfl, List.forall_mem_cons.mpr ⟨tg7 90 (by decide +kernel) rfl, List.forall_mem_cons.mpr ⟨tg7 92 (by decide +kernel) rfl, List.forall_mem_cons.mpr ⟨tg7 94 (by decide +kernel) rfl, List.forall_mem_cons.mpr ⟨tg7 96 (by decide +kernel) rfl, List.forall_mem_cons.mpr ⟨tg7 98 (by decide +kernel) rfl, List.forall_mem_cons.mpr ⟨tg7 100 (by decide +kernel) rfl, List.forall_mem_cons.mpr ⟨tg7 102 (by decide +kernel) rfl, List.forall_mem_cons.mpr ⟨tg7 104 (by decide +kernel) rfl, List.forall_mem_cons.mpr ⟨tg7 106 (by decide +kernel) rfl, List.forall_mem_cons.mpr ⟨tg7 108 (by decide +kernel) rfl, List.forall_mem_cons.mpr ⟨tg7 110 (by decide +kernel) rfl, List.forall_mem_cons.mpr ⟨tg7 112 (by decide +kernel) rfl, List.forall_mem_cons.mpr ⟨tg7 114 (by decide +kernel) rfl, List.forall_mem_cons.mpr ⟨tg7 116 (by decide +kernel) rfl, List.forall_mem_cons.mpr ⟨tg7 118 (by decide +kernel) rfl, List.forall_mem_cons.mpr ⟨tg7 120 (by decide +kernel) rfl, List.forall_mem_cons.mpr ⟨tg7 122 (by decide +kernel) rfl, List.forall_mem_cons.mpr ⟨tg7 124 (by decide +kernel) rfl, List.forall_mem_cons.mpr ⟨tg7 126 (by decide +kernel) rfl, List.forall_mem_cons.mpr ⟨tg7 128 (by decide +kernel) rfl, List.forall_mem_cons.mpr ⟨tg7 130 (by decide +kernel) rfl, List.forall_mem_cons.mpr ⟨tg7 132 (by decide +kernel) rfl, List.forall_mem_cons.mpr ⟨tg7 134 (by decide +kernel) rfl, List.forall_mem_cons.mpr ⟨tg7 136 (by decide +kernel) rfl, List.forall_mem_cons.mpr ⟨tg7 138 (by decide +kernel) rfl, List.forall_mem_cons.mpr ⟨tg7 140 (by decide +kernel) rfl, List.forall_mem_cons.mpr ⟨tg7 142 (by decide +kernel) rfl, List.forall_mem_cons.mpr ⟨tg7 144 (by decide +kernel) rfl, List.forall_mem_cons.mpr ⟨tg7 146 (by decide +kernel) rfl, List.forall_mem_cons.mpr ⟨tg7 148 (by decide +kernel) rfl, List.forall_mem_cons.mpr ⟨tg7 150 (by decide +kernel) rfl, List.forall_mem_cons.mpr ⟨tg7 152 (by decide +kernel) rfl, List.forall_mem_cons.mpr ⟨tg7 154 (by decide +kernel) rfl, List.forall_mem_cons.mpr ⟨tg7 156 (by decide +kernel) rfl, List.forall_mem_cons.mpr ⟨tg7 158 (by decide +kernel) rfl, List.forall_mem_cons.mpr ⟨tg7 160 (by decide +kernel) rfl, List.forall_mem_cons.mpr ⟨tg7 162 (by decide +kernel) rfl, List.forall_mem_cons.mpr ⟨tg7 164 (by decide +kernel) rfl, List.forall_mem_cons.mpr ⟨tg7 166 (by decide +kernel) rfl, fun _ h => absurd h List.not_mem_nil⟩⟩⟩⟩⟩⟩⟩⟩⟩⟩⟩⟩⟩⟩⟩⟩⟩⟩⟩⟩⟩⟩⟩⟩⟩⟩⟩⟩⟩⟩⟩⟩⟩⟩⟩⟩⟩⟩⟩⟩⟩⟩⟩⟩⟩⟩⟩⟩⟩⟩⟩⟩⟩⟩⟩⟩⟩⟩⟩⟩⟩⟩⟩⟩⟩⟩⟩⟩⟩⟩⟩⟩⟩⟩⟩⟩
/-- of a method: name, bytes, locals, what it returns, kind (0 virtual, 1 static, 2 constructor), parameters, cells and slots that it may make, whether it makes cells of the world -/
abbrev dM : Type := MethodName × ByteArray × Nat × Option FieldType × Nat × Nat × (Nat × Nat) × Bool
def okM (q : dM) : Prop := Cond.code q.1 q.2.1 q.2.2.1 q.2.2.2.1 ∈ TBg ∧ Cond.initialized q.1.cls ∈ TBg ∧ (q.2.2.2.2.1 = 0 → Cond.instanceMethod q.1 ∈ TBg ∧ Cond.selects q.1.cls q.1 q.1 ∈ TBg) ∧ (q.2.2.2.2.1 = 1 → Cond.static q.1 ∈ TBg) ∧ (q.2.2.2.2.1 = 2 → Cond.instanceMethod q.1 ∈ TBg ∧ q.1.name = "<init>" ∧ q.2.2.2.1 = none) ∧ (q.1.cls ≠ "java/lang/invoke/MethodHandle" ∧ q.1.cls ≠ "java/lang/invoke/VarHandle") ∧ (parseMethodDescriptor q.1.desc).map (fun d => d.parameters.length) = some q.2.2.2.2.2.1 ∧ q.2.2.1 ≤ 40
def m_0 : dM := (⟨"java/lang/Integer", "bitCount", "(I)I"⟩, prog_21_method_49_code, 1, some .int, 1, 1, (0, 0), false)
def m_1 : dM := (⟨"java/lang/Math", "abs", "(I)I"⟩, prog_22_method_59_code, 1, some .int, 1, 1, (0, 0), false)
def m_2 : dM := (⟨"java/lang/Math", "max", "(II)I"⟩, prog_22_method_65_code, 2, some .int, 1, 2, (0, 0), false)
def m_3 : dM := (⟨"java/lang/Math", "min", "(II)I"⟩, prog_22_method_69_code, 2, some .int, 1, 2, (0, 0), false)
def m_4 : dM := (⟨"WingTrams$Row", "<init>", "(I)V"⟩, prog_8_method_1_code, 2, none, 2, 1, (1, 1000), true)
def m_5 : dM := (⟨"WingTrams$Row", "at", "(I)I"⟩, prog_8_method_2_code, 2, some .int, 0, 1, (0, 0), false)
def m_6 : dM := (⟨"WingTrams$Row", "put", "(II)V"⟩, prog_8_method_3_code, 3, none, 0, 2, (0, 0), false)
def m_7 : dM := (⟨"WingTrams$Row", "fill", "(I)V"⟩, prog_8_method_4_code, 3, none, 0, 1, (0, 0), false)
def m_8 : dM := (⟨"WingTrams$Row", "copy", "(LWingTrams$Row;)V"⟩, prog_8_method_5_code, 3, none, 0, 1, (0, 0), false)
def m_9 : dM := (⟨"WingTrams$Log", "<init>", "(I)V"⟩, prog_4_method_1_code, 2, none, 2, 1, (6, 3010), true)
def m_10 : dM := (⟨"WingTrams$Log", "add", "(III)V"⟩, prog_4_method_2_code, 4, none, 0, 3, (0, 0), false)
def m_11 : dM := (⟨"WingTrams$Log", "dropFirst", "()V"⟩, prog_4_method_3_code, 2, none, 0, 0, (0, 0), false)
def m_12 : dM := (⟨"WingTrams$Log", "copy", "(LWingTrams$Log;)V"⟩, prog_4_method_4_code, 2, none, 0, 1, (0, 0), false)
def m_13 : dM := (⟨"WingTrams$Rules", "<init>", "()V"⟩, prog_9_method_1_code, 1, none, 2, 0, (6, 6000), true)
def m_14 : dM := (⟨"WingTrams$Rules", "clear", "()V"⟩, prog_9_method_2_code, 1, none, 0, 0, (0, 0), false)
def m_15 : dM := (⟨"WingTrams$Rules", "copy", "(LWingTrams$Rules;)V"⟩, prog_9_method_3_code, 2, none, 0, 1, (0, 0), false)
def m_16 : dM := (⟨"WingTrams$Rules", "emit", "(I)V"⟩, prog_9_method_4_code, 2, none, 0, 1, (0, 0), false)
def m_17 : dM := (⟨"WingTrams$Rules", "close", "()V"⟩, prog_9_method_5_code, 1, none, 0, 0, (0, 0), false)
def m_18 : dM := (⟨"WingTrams$Rules", "valueOf", "(ILWingTrams$Row;)I"⟩, prog_9_method_6_code, 7, some .int, 0, 2, (0, 0), false)
def m_19 : dM := (⟨"WingTrams$Rules", "joined", "(III)I"⟩, prog_9_method_7_code, 3, some .int, 1, 3, (0, 0), false)
def m_20 : dM := (⟨"WingTrams$Sky", "<init>", "()V"⟩, prog_10_method_1_code, 1, none, 2, 0, (4, 4000), true)
def m_21 : dM := (⟨"WingTrams$Sky", "begin", "(LWingTrams$City;)V"⟩, prog_10_method_2_code, 2, none, 0, 1, (0, 0), false)
def m_22 : dM := (⟨"WingTrams$Sky", "copy", "(LWingTrams$Sky;)V"⟩, prog_10_method_3_code, 2, none, 0, 1, (0, 0), false)
def m_23 : dM := (⟨"WingTrams$Sky", "nesting", "(I)Z"⟩, prog_10_method_4_code, 2, some .boolean, 0, 1, (0, 0), false)
def m_24 : dM := (⟨"WingTrams$City", "<init>", "()V"⟩, prog_3_method_1_code, 1, none, 2, 0, (27, 27000), true)
def m_25 : dM := (⟨"WingTrams$City", "clear", "()V"⟩, prog_3_method_2_code, 1, none, 0, 0, (0, 0), false)
def m_26 : dM := (⟨"WingTrams$City", "copy", "(LWingTrams$City;)V"⟩, prog_3_method_3_code, 2, none, 0, 1, (0, 0), false)
def m_27 : dM := (⟨"WingTrams$City", "addFlight", "(III)V"⟩, prog_3_method_4_code, 4, none, 0, 3, (0, 0), false)
def m_28 : dM := (⟨"WingTrams$City", "minutesBetween", "(II)I"⟩, prog_3_method_5_code, 4, some .int, 0, 2, (0, 0), false)
def m_29 : dM := (⟨"WingTrams$City", "neighboursOf", "(I)I"⟩, prog_3_method_6_code, 4, some .int, 0, 1, (0, 0), false)
def m_30 : dM := (⟨"WingTrams$City", "ridersOf", "(I)I"⟩, prog_3_method_7_code, 4, some .int, 0, 1, (0, 0), false)
def m_31 : dM := (⟨"WingTrams$City", "ridersWith", "(I)I"⟩, prog_3_method_8_code, 4, some .int, 0, 1, (0, 0), false)
def m_32 : dM := (⟨"WingTrams$State", "<init>", "()V"⟩, prog_11_method_1_code, 1, none, 2, 0, (19, 19000), true)
def m_33 : dM := (⟨"WingTrams$State", "begin", "(LWingTrams$City;)V"⟩, prog_11_method_2_code, 2, none, 0, 1, (0, 0), false)
def m_34 : dM := (⟨"WingTrams$State", "copy", "(LWingTrams$State;)V"⟩, prog_11_method_3_code, 2, none, 0, 1, (0, 0), false)
def m_35 : dM := (⟨"WingTrams$State", "takeBack", "()I"⟩, prog_11_method_4_code, 3, some .int, 0, 0, (0, 0), false)
def m_36 : dM := (⟨"WingTrams$Tokens", "<init>", "()V"⟩, prog_12_method_1_code, 1, none, 2, 0, (6, 6000), true)
def m_37 : dM := (⟨"WingTrams$Tokens", "cut", "(LWingTrams$Row;I)V"⟩, prog_12_method_2_code, 6, none, 0, 2, (0, 0), false)
def m_38 : dM := (⟨"WingTrams$Tokens", "add", "(III)V"⟩, prog_12_method_3_code, 4, none, 0, 3, (0, 0), false)
def m_39 : dM := (⟨"WingTrams$Tokens", "isLetter", "(I)Z"⟩, prog_12_method_4_code, 1, some .boolean, 1, 1, (0, 0), false)
def m_40 : dM := (⟨"WingTrams$Tokens", "isDigit", "(I)Z"⟩, prog_12_method_5_code, 1, some .boolean, 1, 1, (0, 0), false)
def m_41 : dM := (⟨"WingTrams$Tokens", "endOfWord", "(LWingTrams$Row;II)I"⟩, prog_12_method_6_code, 4, some .int, 1, 3, (0, 0), false)
def m_42 : dM := (⟨"WingTrams$Tokens", "endOfNumber", "(LWingTrams$Row;II)I"⟩, prog_12_method_7_code, 4, some .int, 1, 3, (0, 0), false)
def m_43 : dM := (⟨"WingTrams$Tokens", "numberAt", "(LWingTrams$Row;II)I"⟩, prog_12_method_8_code, 5, some .int, 1, 3, (0, 0), false)
def m_44 : dM := (⟨"WingTrams$Tokens", "wordCode", "(LWingTrams$Row;II)I"⟩, prog_12_method_9_code, 8, some .int, 1, 3, (0, 0), false)
def m_45 : dM := (⟨"WingTrams$Reader", "<init>", "(LWingTrams$Tokens;LWingTrams$City;)V"⟩, prog_6_method_1_code, 3, none, 2, 2, (0, 0), true)
def m_46 : dM := (⟨"WingTrams$Reader", "readCity", "()I"⟩, prog_6_method_2_code, 2, some .int, 0, 0, (0, 0), false)
def m_47 : dM := (⟨"WingTrams$Reader", "code", "()I"⟩, prog_6_method_3_code, 1, some .int, 0, 0, (0, 0), false)
def m_48 : dM := (⟨"WingTrams$Reader", "fail", "(I)Z"⟩, prog_6_method_4_code, 2, some .boolean, 0, 1, (0, 0), false)
def m_49 : dM := (⟨"WingTrams$Reader", "takeSign", "(I)Z"⟩, prog_6_method_5_code, 2, some .boolean, 0, 1, (0, 0), false)
def m_50 : dM := (⟨"WingTrams$Reader", "readLine", "()Z"⟩, prog_6_method_6_code, 2, some .boolean, 0, 0, (0, 0), false)
def m_51 : dM := (⟨"WingTrams$Reader", "readRoof", "()Z"⟩, prog_6_method_7_code, 2, some .boolean, 0, 0, (0, 0), false)
def m_52 : dM := (⟨"WingTrams$Reader", "readFlight", "()Z"⟩, prog_6_method_8_code, 4, some .boolean, 0, 0, (0, 0), false)
def m_53 : dM := (⟨"WingTrams$Reader", "readOwl", "(I)Z"⟩, prog_6_method_9_code, 3, some .boolean, 0, 1, (0, 0), false)
def m_54 : dM := (⟨"WingTrams$Reader", "readWay", "(I)Z"⟩, prog_6_method_10_code, 5, some .boolean, 0, 1, (0, 0), false)
def m_55 : dM := (⟨"WingTrams$Reader", "readRider", "()Z"⟩, prog_6_method_11_code, 5, some .boolean, 0, 0, (0, 0), false)
def m_56 : dM := (⟨"WingTrams$Reader", "readDawn", "()Z"⟩, prog_6_method_12_code, 1, some .boolean, 0, 0, (0, 0), false)
def m_57 : dM := (⟨"WingTrams$Reader", "takeNumber", "(II)I"⟩, prog_6_method_13_code, 4, some .int, 0, 2, (0, 0), false)
def m_58 : dM := (⟨"WingTrams$Reader", "roofHere", "()I"⟩, prog_6_method_14_code, 2, some .int, 0, 0, (0, 0), false)
def m_59 : dM := (⟨"WingTrams$Reader", "readHunts", "()Z"⟩, prog_6_method_15_code, 1, some .boolean, 0, 0, (0, 0), false)
def m_60 : dM := (⟨"WingTrams$Reader", "readExpr", "(I)Z"⟩, prog_6_method_16_code, 3, some .boolean, 0, 1, (0, 0), false)
def m_61 : dM := (⟨"WingTrams$Reader", "readAnd", "(I)Z"⟩, prog_6_method_17_code, 3, some .boolean, 0, 1, (0, 0), false)
def m_62 : dM := (⟨"WingTrams$Reader", "readNot", "(I)Z"⟩, prog_6_method_18_code, 4, some .boolean, 0, 1, (0, 0), false)
def m_63 : dM := (⟨"WingTrams$Reader", "readTest", "(I)Z"⟩, prog_6_method_19_code, 3, some .boolean, 0, 1, (0, 0), false)
def m_64 : dM := (⟨"WingTrams$Reader", "readSum", "(I)Z"⟩, prog_6_method_20_code, 4, some .boolean, 0, 1, (0, 0), false)
def m_65 : dM := (⟨"WingTrams$Reader", "readProduct", "(I)Z"⟩, prog_6_method_21_code, 4, some .boolean, 0, 1, (0, 0), false)
def m_66 : dM := (⟨"WingTrams$Reader", "readPart", "(I)Z"⟩, prog_6_method_22_code, 4, some .boolean, 0, 1, (0, 0), false)
def m_67 : dM := (⟨"WingTrams$Night", "<init>", "(LWingTrams$City;)V"⟩, prog_5_method_1_code, 2, none, 2, 1, (18, 18000), true)
def m_68 : dM := (⟨"WingTrams$Night", "pass", "(LWingTrams$Sky;)V"⟩, prog_5_method_2_code, 4, none, 0, 1, (0, 0), false)
def m_69 : dM := (⟨"WingTrams$Night", "nextOwl", "()I"⟩, prog_5_method_3_code, 4, some .int, 0, 0, (0, 0), false)
def m_70 : dM := (⟨"WingTrams$Night", "come", "(ILWingTrams$Sky;)V"⟩, prog_5_method_4_code, 9, none, 0, 2, (0, 0), false)
def m_71 : dM := (⟨"WingTrams$Night", "minutesHunted", "(IIILWingTrams$Sky;)I"⟩, prog_5_method_5_code, 6, some .int, 0, 4, (0, 0), false)
def m_72 : dM := (⟨"WingTrams$Night", "minutesFlown", "(IILWingTrams$Sky;)I"⟩, prog_5_method_6_code, 6, some .int, 0, 3, (0, 0), false)
def m_73 : dM := (⟨"WingTrams$Night", "lastMinuteOn", "(I)I"⟩, prog_5_method_7_code, 3, some .int, 0, 1, (0, 0), false)
def m_74 : dM := (⟨"WingTrams$Night", "roofOf", "(II)I"⟩, prog_5_method_8_code, 5, some .int, 0, 2, (0, 0), false)
def m_75 : dM := (⟨"WingTrams$Night", "minutesTogether", "(I)I"⟩, prog_5_method_9_code, 6, some .int, 0, 1, (0, 0), false)
def m_76 : dM := (⟨"WingTrams$Night", "markBoth", "(II)V"⟩, prog_5_method_10_code, 6, none, 0, 2, (0, 0), false)
def m_77 : dM := (⟨"WingTrams$Rides", "<init>", "(LWingTrams$City;LWingTrams$Night;)V"⟩, prog_7_method_1_code, 3, none, 2, 2, (8, 8000), true)
def m_78 : dM := (⟨"WingTrams$Rides", "arrive", "(I)V"⟩, prog_7_method_2_code, 6, none, 0, 1, (0, 0), false)
def m_79 : dM := (⟨"WingTrams$Rides", "minuteHome", "(I)I"⟩, prog_7_method_3_code, 3, some .int, 0, 1, (0, 0), false)
def m_80 : dM := (⟨"WingTrams$Rides", "countHome", "()I"⟩, prog_7_method_4_code, 3, some .int, 0, 0, (0, 0), false)
def m_81 : dM := (⟨"WingTrams$Rides", "allHomeBy", "(II)Z"⟩, prog_7_method_5_code, 5, some .boolean, 0, 2, (0, 0), false)
def m_82 : dM := (⟨"WingTrams$Rides", "roofsBy", "(II)I"⟩, prog_7_method_6_code, 6, some .int, 0, 2, (0, 0), false)
def m_83 : dM := (⟨"WingTrams$Rides", "lastOwl", "(I)I"⟩, prog_7_method_7_code, 5, some .int, 0, 1, (0, 0), false)
def m_84 : dM := (⟨"WingTrams$Rides", "bringsTo", "(III)Z"⟩, prog_7_method_8_code, 8, some .boolean, 0, 3, (0, 0), false)
def m_85 : dM := (⟨"WingTrams$Rides", "fewest", "(IZ)I"⟩, prog_7_method_9_code, 6, some .int, 0, 2, (0, 0), false)
def m_86 : dM := (⟨"WingTrams$Rides", "rideAlong", "(III)V"⟩, prog_7_method_10_code, 8, none, 0, 3, (0, 0), false)
def m_87 : dM := (⟨"WingTrams$Rides", "countStrapped", "(I)I"⟩, prog_7_method_11_code, 4, some .int, 0, 1, (0, 0), false)
def m_88 : dM := (⟨"WingTrams$Rides", "takesStrap", "(II)Z"⟩, prog_7_method_12_code, 8, some .boolean, 0, 2, (0, 0), false)
def m_89 : dM := (⟨"WingTrams$Rides", "cellToGetOn", "(II)I"⟩, prog_7_method_13_code, 4, some .int, 0, 2, (0, 0), false)
def m_90 : dM := (⟨"WingTrams$Rides", "hasStrap", "(III)Z"⟩, prog_7_method_14_code, 5, some .boolean, 0, 3, (0, 0), false)
def m_91 : dM := (⟨"WingTrams$Beams", "<init>", "(LWingTrams$City;)V"⟩, prog_2_method_1_code, 2, none, 2, 1, (4, 4000), true)
def m_92 : dM := (⟨"WingTrams$Beams", "choose", "(II)V"⟩, prog_2_method_2_code, 5, none, 0, 2, (0, 0), false)
def m_93 : dM := (⟨"WingTrams$Beams", "measure", "()V"⟩, prog_2_method_3_code, 5, none, 0, 0, (0, 0), false)
def m_94 : dM := (⟨"WingTrams$Beams", "shorten", "(I)V"⟩, prog_2_method_4_code, 5, none, 0, 1, (0, 0), false)
def m_95 : dM := (⟨"WingTrams$Beams", "ridersNear", "(II)I"⟩, prog_2_method_5_code, 5, some .int, 0, 2, (0, 0), false)
def m_96 : dM := (⟨"WingTrams$Beams", "ridersOfSet", "(I)I"⟩, prog_2_method_6_code, 4, some .int, 0, 1, (0, 0), false)
def m_97 : dM := (⟨"WingTrams", "<init>", "()V"⟩, prog_1_method_1_code, 1, none, 2, 0, (152, 152000), true)
def m_98 : dM := (⟨"WingTrams", "feed", "(IIIII)I"⟩, prog_1_method_2_code, 6, some .int, 0, 5, (0, 0), false)
def m_99 : dM := (⟨"WingTrams", "putBytes", "(I)V"⟩, prog_1_method_3_code, 3, none, 0, 1, (0, 0), false)
def m_100 : dM := (⟨"WingTrams", "city", "(I)I"⟩, prog_1_method_4_code, 3, some .int, 0, 1, (1, 6), false)
def m_101 : dM := (⟨"WingTrams", "fault", "()I"⟩, prog_1_method_5_code, 1, some .int, 0, 0, (0, 0), false)
def m_102 : dM := (⟨"WingTrams", "count", "(I)I"⟩, prog_1_method_6_code, 2, some .int, 0, 1, (1, 6), false)
def m_103 : dM := (⟨"WingTrams", "roof", "(II)I"⟩, prog_1_method_7_code, 3, some .int, 0, 2, (2, 12), false)
def m_104 : dM := (⟨"WingTrams", "flight", "(II)I"⟩, prog_1_method_8_code, 3, some .int, 0, 2, (2, 12), false)
def m_105 : dM := (⟨"WingTrams", "owl", "(II)I"⟩, prog_1_method_9_code, 3, some .int, 0, 2, (2, 12), false)
def m_106 : dM := (⟨"WingTrams", "stop", "(III)I"⟩, prog_1_method_10_code, 4, some .int, 0, 3, (2, 12), false)
def m_107 : dM := (⟨"WingTrams", "rider", "(II)I"⟩, prog_1_method_11_code, 3, some .int, 0, 2, (2, 12), false)
def m_108 : dM := (⟨"WingTrams", "where", "(II)I"⟩, prog_1_method_12_code, 3, some .int, 0, 2, (1, 6), false)
def m_109 : dM := (⟨"WingTrams", "needRoof", "(I)V"⟩, prog_1_method_13_code, 2, none, 0, 1, (1, 6), false)
def m_110 : dM := (⟨"WingTrams", "needOwl", "(I)V"⟩, prog_1_method_14_code, 2, none, 0, 1, (1, 6), false)
def m_111 : dM := (⟨"WingTrams", "needRider", "(I)V"⟩, prog_1_method_15_code, 2, none, 0, 1, (1, 6), false)
def m_112 : dM := (⟨"WingTrams", "refuse", "(I)I"⟩, prog_1_method_16_code, 2, some .int, 0, 1, (0, 0), false)
def m_113 : dM := (⟨"WingTrams", "obey", "(I)Z"⟩, prog_1_method_17_code, 2, some .boolean, 0, 1, (0, 0), false)
def m_114 : dM := (⟨"WingTrams", "moon", "(I)I"⟩, prog_1_method_18_code, 3, some .int, 0, 1, (0, 0), false)
def m_115 : dM := (⟨"WingTrams", "wet", "(Z)Z"⟩, prog_1_method_19_code, 3, some .boolean, 0, 1, (0, 0), false)
def m_116 : dM := (⟨"WingTrams", "nest", "(IZ)Z"⟩, prog_1_method_20_code, 3, some .boolean, 0, 2, (1, 6), false)
def m_117 : dM := (⟨"WingTrams", "grain", "(II)I"⟩, prog_1_method_21_code, 4, some .int, 0, 2, (1, 6), false)
def m_118 : dM := (⟨"WingTrams", "start", "(II)I"⟩, prog_1_method_22_code, 4, some .int, 0, 2, (1, 6), false)
def m_119 : dM := (⟨"WingTrams", "undo", "()I"⟩, prog_1_method_23_code, 1, some .int, 0, 0, (0, 0), false)
def m_120 : dM := (⟨"WingTrams", "home", "(I)I"⟩, prog_1_method_24_code, 2, some .int, 0, 1, (1, 6), false)
def m_121 : dM := (⟨"WingTrams", "changes", "(I)I"⟩, prog_1_method_25_code, 3, some .int, 0, 1, (1, 6), false)
def m_122 : dM := (⟨"WingTrams", "cheapest", "(I)I"⟩, prog_1_method_26_code, 2, some .int, 0, 1, (1, 6), false)
def m_123 : dM := (⟨"WingTrams", "last", "(I)I"⟩, prog_1_method_27_code, 2, some .int, 0, 1, (1, 6), false)
def m_124 : dM := (⟨"WingTrams", "never", "()I"⟩, prog_1_method_28_code, 3, some .int, 0, 0, (0, 0), false)
def m_125 : dM := (⟨"WingTrams", "reach", "(II)I"⟩, prog_1_method_29_code, 3, some .int, 0, 2, (1, 6), false)
def m_126 : dM := (⟨"WingTrams", "homes", "(LWingTrams$Sky;)I"⟩, prog_1_method_30_code, 2, some .int, 0, 1, (0, 0), false)
def m_127 : dM := (⟨"WingTrams", "lure", "(II)I"⟩, prog_1_method_31_code, 4, some .int, 0, 2, (1, 6), false)
def m_128 : dM := (⟨"WingTrams", "more", "(I)I"⟩, prog_1_method_32_code, 2, some .int, 0, 1, (2, 12), false)
def m_129 : dM := (⟨"WingTrams", "fewestGrains", "(II)I"⟩, prog_1_method_33_code, 5, some .int, 0, 2, (0, 0), false)
def m_130 : dM := (⟨"WingTrams", "nextRow", "()Z"⟩, prog_1_method_34_code, 3, some .boolean, 0, 0, (0, 0), false)
def m_131 : dM := (⟨"WingTrams", "luresHome", "(II)Z"⟩, prog_1_method_35_code, 5, some .boolean, 0, 2, (0, 0), false)
def m_132 : dM := (⟨"WingTrams", "beams", "(III)I"⟩, prog_1_method_36_code, 4, some .int, 0, 3, (1, 6), false)
def m_133 : dM := (⟨"WingTrams", "straps", "(I)I"⟩, prog_1_method_37_code, 2, some .int, 0, 1, (1, 6), false)
def m_134 : dM := (⟨"WingTrams", "worth", "(I)I"⟩, prog_1_method_38_code, 2, some .int, 0, 1, (1, 6), false)
def m_135 : dM := (⟨"WingTrams", "vital", "()I"⟩, prog_1_method_39_code, 3, some .int, 0, 0, (0, 0), false)
def m_136 : dM := (⟨"WingTrams", "worthOf", "(I)I"⟩, prog_1_method_40_code, 2, some .int, 0, 1, (0, 0), false)
def m_137 : dM := (⟨"WingTrams", "see", "(III)I"⟩, prog_1_method_41_code, 4, some .int, 0, 3, (1, 6), false)
def m_138 : dM := (⟨"WingTrams", "forget", "()V"⟩, prog_1_method_42_code, 1, none, 0, 0, (0, 0), false)
def m_139 : dM := (⟨"WingTrams", "fits", "()I"⟩, prog_1_method_43_code, 1, some .int, 0, 0, (0, 0), false)
def m_140 : dM := (⟨"WingTrams", "watch", "(I)I"⟩, prog_1_method_44_code, 7, some .int, 0, 1, (0, 0), false)
def m_141 : dM := (⟨"WingTrams", "fitting", "()I"⟩, prog_1_method_45_code, 3, some .int, 0, 0, (0, 0), false)
def m_142 : dM := (⟨"WingTrams", "passBy", "(I)V"⟩, prog_1_method_46_code, 2, none, 0, 1, (0, 0), false)
def m_143 : dM := (⟨"WingTrams", "allSeenIsSo", "()Z"⟩, prog_1_method_47_code, 2, some .boolean, 0, 0, (0, 0), false)
def m_144 : dM := (⟨"WingTrams", "countSeen", "(I)V"⟩, prog_1_method_48_code, 5, none, 0, 1, (0, 0), false)
def m_145 : dM := (⟨"WingTrams", "bats", "(I)I"⟩, prog_1_method_49_code, 6, some .int, 0, 1, (1, 6), false)
def m_146 : dM := (⟨"WingTrams", "rests", "(II)Z"⟩, prog_1_method_50_code, 4, some .boolean, 0, 2, (0, 0), false)
def m_147 : dM := (⟨"WingTrams", "owlsGain", "(II)I"⟩, prog_1_method_51_code, 3, some .int, 0, 2, (0, 0), false)
def m_148 : dM := (⟨"WingTrams", "batsGain", "(II)I"⟩, prog_1_method_52_code, 3, some .int, 0, 2, (0, 0), false)
def m_149 : dM := (⟨"WingTrams", "years", "(III)I"⟩, prog_1_method_53_code, 10, some .int, 0, 3, (1, 6), false)
def m_150 : dM := (⟨"WingTrams", "late", "(I)I"⟩, prog_1_method_54_code, 4, some .int, 0, 1, (1, 6), false)
def m_151 : dM := (⟨"WingTrams", "best", "()I"⟩, prog_1_method_55_code, 5, some .int, 0, 0, (0, 0), false)
def m_152 : dM := (⟨"WingTrams", "bright", "()I"⟩, prog_1_method_56_code, 5, some .int, 0, 0, (0, 0), false)
def m_153 : dM := (⟨"WingTrams", "hunter", "()I"⟩, prog_1_method_57_code, 4, some .int, 0, 0, (0, 0), false)
def m_154 : dM := (⟨"WingTrams", "image", "()V"⟩, prog_1_method_58_code, 1, none, 0, 0, (0, 0), false)
def m_155 : dM := (⟨"WingTrams", "restore", "()Z"⟩, prog_1_method_59_code, 1, some .boolean, 0, 0, (0, 0), false)
def m_156 : dM := (⟨"WingTramsModel", "<init>", "()V"⟩, prog_14_method_1_code, 1, none, 2, 0, (43, 9566), true)
def m_157 : dM := (⟨"WingTramsModel", "thrown", "()I"⟩, prog_14_method_2_code, 1, some .int, 0, 0, (0, 0), false)
def m_158 : dM := (⟨"WingTramsModel", "right", "(ZI)Z"⟩, prog_14_method_3_code, 3, some .boolean, 0, 2, (0, 0), false)
def m_159 : dM := (⟨"WingTramsModel", "within", "(III)Z"⟩, prog_14_method_4_code, 3, some .boolean, 1, 3, (0, 0), false)
def m_160 : dM := (⟨"WingTramsModel", "off", "(II)I"⟩, prog_14_method_5_code, 2, some .int, 1, 2, (0, 0), false)
def m_161 : dM := (⟨"WingTramsModel", "copies", "([I[I)V"⟩, prog_14_method_6_code, 4, none, 0, 2, (0, 0), false)
def m_162 : dM := (⟨"WingTramsModel", "bits", "(I)I"⟩, prog_14_method_7_code, 3, some .int, 1, 1, (0, 0), false)
def m_163 : dM := (⟨"WingTramsModel", "feed", "(IIIII)I"⟩, prog_14_method_8_code, 6, some .int, 0, 5, (0, 0), false)
def m_164 : dM := (⟨"WingTramsModel", "lays", "(I)V"⟩, prog_14_method_9_code, 3, none, 0, 1, (0, 0), false)
def m_165 : dM := (⟨"WingTramsModel", "byteAt", "(I)I"⟩, prog_14_method_10_code, 2, some .int, 0, 1, (0, 0), false)
def m_166 : dM := (⟨"WingTramsModel", "isLetter", "(I)Z"⟩, prog_14_method_11_code, 1, some .boolean, 1, 1, (0, 0), false)
def m_167 : dM := (⟨"WingTramsModel", "isDigit", "(I)Z"⟩, prog_14_method_12_code, 1, some .boolean, 1, 1, (0, 0), false)
def m_168 : dM := (⟨"WingTramsModel", "goes", "()V"⟩, prog_14_method_13_code, 2, none, 0, 0, (0, 0), false)
def m_169 : dM := (⟨"WingTramsModel", "spelled", "(IIIIII)J"⟩, prog_14_method_14_code, 8, some .long, 1, 6, (0, 0), false)
def m_170 : dM := (⟨"WingTramsModel", "letters", "(I)J"⟩, prog_14_method_15_code, 1, some .long, 1, 1, (0, 0), false)
def m_171 : dM := (⟨"WingTramsModel", "knownWord", "()I"⟩, prog_14_method_16_code, 2, some .int, 0, 0, (0, 0), false)
def m_172 : dM := (⟨"WingTramsModel", "wrong", "(I)V"⟩, prog_14_method_17_code, 2, none, 0, 1, (0, 0), false)
def m_173 : dM := (⟨"WingTramsModel", "isGood", "()Z"⟩, prog_14_method_18_code, 1, some .boolean, 0, 0, (0, 0), false)
def m_174 : dM := (⟨"WingTramsModel", "isSign", "(I)Z"⟩, prog_14_method_19_code, 2, some .boolean, 0, 1, (0, 0), false)
def m_175 : dM := (⟨"WingTramsModel", "need", "(Z)V"⟩, prog_14_method_20_code, 2, none, 0, 1, (0, 0), false)
def m_176 : dM := (⟨"WingTramsModel", "number", "(II)I"⟩, prog_14_method_21_code, 4, some .int, 0, 2, (0, 0), false)
def m_177 : dM := (⟨"WingTramsModel", "roofHere", "()I"⟩, prog_14_method_22_code, 1, some .int, 0, 0, (0, 0), false)
def m_178 : dM := (⟨"WingTramsModel", "roofNext", "()I"⟩, prog_14_method_23_code, 2, some .int, 0, 0, (0, 0), false)
def m_179 : dM := (⟨"WingTramsModel", "puts", "(I)V"⟩, prog_14_method_24_code, 2, none, 0, 1, (0, 0), false)
def m_180 : dM := (⟨"WingTramsModel", "isOpen", "(I)Z"⟩, prog_14_method_25_code, 1, some .boolean, 1, 1, (0, 0), false)
def m_181 : dM := (⟨"WingTramsModel", "strength", "(I)I"⟩, prog_14_method_26_code, 1, some .int, 1, 1, (0, 0), false)
def m_182 : dM := (⟨"WingTramsModel", "drops", "(I)V"⟩, prog_14_method_27_code, 2, none, 0, 1, (0, 0), false)
def m_183 : dM := (⟨"WingTramsModel", "waitsFor", "(I)V"⟩, prog_14_method_28_code, 2, none, 0, 1, (0, 0), false)
def m_184 : dM := (⟨"WingTramsModel", "part", "()V"⟩, prog_14_method_29_code, 2, none, 0, 0, (0, 0), false)
def m_185 : dM := (⟨"WingTramsModel", "deeper", "()V"⟩, prog_14_method_30_code, 1, none, 0, 0, (0, 0), false)
def m_186 : dM := (⟨"WingTramsModel", "operand", "(Z)V"⟩, prog_14_method_31_code, 5, none, 0, 1, (0, 0), false)
def m_187 : dM := (⟨"WingTramsModel", "isOpened", "()Z"⟩, prog_14_method_32_code, 2, some .boolean, 0, 0, (0, 0), false)
def m_188 : dM := (⟨"WingTramsModel", "closes", "()V"⟩, prog_14_method_33_code, 1, none, 0, 0, (0, 0), false)
def m_189 : dM := (⟨"WingTramsModel", "expression", "()V"⟩, prog_14_method_34_code, 3, none, 0, 0, (0, 0), false)
def m_190 : dM := (⟨"WingTramsModel", "readsFlight", "()V"⟩, prog_14_method_35_code, 4, none, 0, 0, (0, 0), false)
def m_191 : dM := (⟨"WingTramsModel", "readsOwl", "(I)V"⟩, prog_14_method_36_code, 5, none, 0, 1, (0, 0), false)
def m_192 : dM := (⟨"WingTramsModel", "readsRider", "()V"⟩, prog_14_method_37_code, 2, none, 0, 0, (0, 0), false)
def m_193 : dM := (⟨"WingTramsModel", "line", "()V"⟩, prog_14_method_38_code, 2, none, 0, 0, (0, 0), false)
def m_194 : dM := (⟨"WingTramsModel", "city", "(I)I"⟩, prog_14_method_39_code, 3, some .int, 0, 1, (0, 0), false)
def m_195 : dM := (⟨"WingTramsModel", "fault", "()I"⟩, prog_14_method_40_code, 1, some .int, 0, 0, (0, 0), false)
def m_196 : dM := (⟨"WingTramsModel", "refuses", "(I)I"⟩, prog_14_method_41_code, 2, some .int, 0, 1, (0, 0), false)
def m_197 : dM := (⟨"WingTramsModel", "becomes", "(II)I"⟩, prog_14_method_42_code, 4, some .int, 0, 2, (0, 0), false)
def m_198 : dM := (⟨"WingTramsModel", "undo", "()I"⟩, prog_14_method_43_code, 1, some .int, 0, 0, (0, 0), false)
def m_199 : dM := (⟨"WingTramsModel", "measures", "()V"⟩, prog_14_method_44_code, 4, none, 0, 0, (0, 0), false)
def m_200 : dM := (⟨"WingTramsModel", "works", "(III)I"⟩, prog_14_method_45_code, 3, some .int, 1, 3, (0, 0), false)
def m_201 : dM := (⟨"WingTramsModel", "reckons", "(I)I"⟩, prog_14_method_46_code, 5, some .int, 0, 1, (0, 0), false)
def m_202 : dM := (⟨"WingTramsModel", "nests", "(I)Z"⟩, prog_14_method_47_code, 2, some .boolean, 0, 1, (0, 0), false)
def m_203 : dM := (⟨"WingTramsModel", "huntsFor", "(II)I"⟩, prog_14_method_48_code, 4, some .int, 0, 2, (0, 0), false)
def m_204 : dM := (⟨"WingTramsModel", "flies", "(III)I"⟩, prog_14_method_49_code, 5, some .int, 0, 3, (0, 0), false)
def m_205 : dM := (⟨"WingTramsModel", "nights", "()V"⟩, prog_14_method_50_code, 6, none, 0, 0, (0, 0), false)
def m_206 : dM := (⟨"WingTramsModel", "whereIs", "(II)I"⟩, prog_14_method_51_code, 5, some .int, 0, 2, (0, 0), false)
def m_207 : dM := (⟨"WingTramsModel", "waitsAt", "(I[I)V"⟩, prog_14_method_52_code, 4, none, 0, 2, (0, 0), false)
def m_208 : dM := (⟨"WingTramsModel", "takes", "(I[II[II)Z"⟩, prog_14_method_53_code, 10, some .boolean, 0, 5, (0, 0), false)
def m_209 : dM := (⟨"WingTramsModel", "rides", "(I)V"⟩, prog_14_method_54_code, 4, none, 0, 1, (0, 0), false)
def m_210 : dM := (⟨"WingTramsModel", "homeOf", "(I)I"⟩, prog_14_method_55_code, 2, some .int, 0, 1, (0, 0), false)
def m_211 : dM := (⟨"WingTramsModel", "soonest", "(I)I"⟩, prog_14_method_56_code, 3, some .int, 0, 1, (0, 0), false)
def m_212 : dM := (⟨"WingTramsModel", "isThere", "(I)Z"⟩, prog_14_method_57_code, 2, some .boolean, 0, 1, (0, 0), false)
def m_213 : dM := (⟨"WingTramsModel", "homes", "()I"⟩, prog_14_method_58_code, 3, some .int, 0, 0, (0, 0), false)
def m_214 : dM := (⟨"WingTramsModel", "count", "(I)I"⟩, prog_14_method_59_code, 2, some .int, 0, 1, (0, 0), false)
def m_215 : dM := (⟨"WingTramsModel", "isRoof", "(I)Z"⟩, prog_14_method_60_code, 2, some .boolean, 0, 1, (0, 0), false)
def m_216 : dM := (⟨"WingTramsModel", "isOwl", "(I)Z"⟩, prog_14_method_61_code, 2, some .boolean, 0, 1, (0, 0), false)
def m_217 : dM := (⟨"WingTramsModel", "isRider", "(I)Z"⟩, prog_14_method_62_code, 2, some .boolean, 0, 1, (0, 0), false)
def m_218 : dM := (⟨"WingTramsModel", "isWhat", "(II)Z"⟩, prog_14_method_63_code, 3, some .boolean, 0, 2, (0, 0), false)
def m_219 : dM := (⟨"WingTramsModel", "roof", "(II)I"⟩, prog_14_method_64_code, 5, some .int, 0, 2, (0, 0), false)
def m_220 : dM := (⟨"WingTramsModel", "flight", "(II)I"⟩, prog_14_method_65_code, 3, some .int, 0, 2, (0, 0), false)
def m_221 : dM := (⟨"WingTramsModel", "together", "(I)I"⟩, prog_14_method_66_code, 7, some .int, 0, 1, (0, 0), false)
def m_222 : dM := (⟨"WingTramsModel", "owl", "(II)I"⟩, prog_14_method_67_code, 3, some .int, 0, 2, (0, 0), false)
def m_223 : dM := (⟨"WingTramsModel", "stop", "(III)I"⟩, prog_14_method_68_code, 4, some .int, 0, 3, (0, 0), false)
def m_224 : dM := (⟨"WingTramsModel", "rider", "(II)I"⟩, prog_14_method_69_code, 3, some .int, 0, 2, (0, 0), false)
def m_225 : dM := (⟨"WingTramsModel", "where", "(II)I"⟩, prog_14_method_70_code, 3, some .int, 0, 2, (0, 0), false)
def m_226 : dM := (⟨"WingTramsModel", "obey", "(I)Z"⟩, prog_14_method_71_code, 2, some .boolean, 0, 1, (0, 0), false)
def m_227 : dM := (⟨"WingTramsModel", "moon", "(I)I"⟩, prog_14_method_72_code, 2, some .int, 0, 1, (0, 0), false)
def m_228 : dM := (⟨"WingTramsModel", "wet", "(Z)Z"⟩, prog_14_method_73_code, 2, some .boolean, 0, 1, (0, 0), false)
def m_229 : dM := (⟨"WingTramsModel", "nest", "(IZ)Z"⟩, prog_14_method_74_code, 3, some .boolean, 0, 2, (0, 0), false)
def m_230 : dM := (⟨"WingTramsModel", "grain", "(II)I"⟩, prog_14_method_75_code, 3, some .int, 0, 2, (0, 0), false)
def m_231 : dM := (⟨"WingTramsModel", "start", "(II)I"⟩, prog_14_method_76_code, 3, some .int, 0, 2, (0, 0), false)
def m_232 : dM := (⟨"WingTramsModel", "shown", "(I)I"⟩, prog_14_method_77_code, 1, some .int, 1, 1, (0, 0), false)
def m_233 : dM := (⟨"WingTramsModel", "home", "(I)I"⟩, prog_14_method_78_code, 2, some .int, 0, 1, (0, 0), false)
def m_234 : dM := (⟨"WingTramsModel", "owlsFor", "(I)I"⟩, prog_14_method_79_code, 4, some .int, 0, 1, (0, 0), false)
def m_235 : dM := (⟨"WingTramsModel", "changes", "(I)I"⟩, prog_14_method_80_code, 3, some .int, 0, 1, (0, 0), false)
def m_236 : dM := (⟨"WingTramsModel", "cheapest", "(I)I"⟩, prog_14_method_81_code, 4, some .int, 0, 1, (0, 0), false)
def m_237 : dM := (⟨"WingTramsModel", "last", "(I)I"⟩, prog_14_method_82_code, 7, some .int, 0, 1, (0, 0), false)
def m_238 : dM := (⟨"WingTramsModel", "never", "()I"⟩, prog_14_method_83_code, 3, some .int, 0, 0, (0, 0), false)
def m_239 : dM := (⟨"WingTramsModel", "areHome", "(II)Z"⟩, prog_14_method_84_code, 4, some .boolean, 0, 2, (0, 0), false)
def m_240 : dM := (⟨"WingTramsModel", "lure", "(II)I"⟩, prog_14_method_85_code, 11, some .int, 0, 2, (0, 0), false)
def m_241 : dM := (⟨"WingTramsModel", "more", "(I)I"⟩, prog_14_method_86_code, 2, some .int, 0, 1, (0, 0), false)
def m_242 : dM := (⟨"WingTramsModel", "beams", "(III)I"⟩, prog_14_method_87_code, 11, some .int, 0, 3, (0, 0), false)
def m_243 : dM := (⟨"WingTramsModel", "onFor", "(III)I"⟩, prog_14_method_88_code, 5, some .int, 0, 3, (0, 0), false)
def m_244 : dM := (⟨"WingTramsModel", "isRoom", "(IIII)Z"⟩, prog_14_method_89_code, 6, some .boolean, 0, 4, (0, 0), false)
def m_245 : dM := (⟨"WingTramsModel", "hangs", "(II)Z"⟩, prog_14_method_90_code, 8, some .boolean, 0, 2, (0, 0), false)
def m_246 : dM := (⟨"WingTramsModel", "straps", "(I)I"⟩, prog_14_method_91_code, 5, some .int, 0, 1, (0, 0), false)
def m_247 : dM := (⟨"WingTramsModel", "worthOf", "(I)I"⟩, prog_14_method_92_code, 4, some .int, 0, 1, (0, 0), false)
def m_248 : dM := (⟨"WingTramsModel", "worth", "(I)I"⟩, prog_14_method_93_code, 2, some .int, 0, 1, (0, 0), false)
def m_249 : dM := (⟨"WingTramsModel", "vital", "()I"⟩, prog_14_method_94_code, 3, some .int, 0, 0, (0, 0), false)
def m_250 : dM := (⟨"WingTramsModel", "reach", "(II)I"⟩, prog_14_method_95_code, 5, some .int, 0, 2, (0, 0), false)
def m_251 : dM := (⟨"WingTramsModel", "late", "(I)I"⟩, prog_14_method_96_code, 6, some .int, 0, 1, (0, 0), false)
def m_252 : dM := (⟨"WingTramsModel", "bestOf", "(III)I"⟩, prog_14_method_97_code, 9, some .int, 0, 3, (0, 0), false)
def m_253 : dM := (⟨"WingTramsModel", "best", "()I"⟩, prog_14_method_98_code, 1, some .int, 0, 0, (0, 0), false)
def m_254 : dM := (⟨"WingTramsModel", "bright", "()I"⟩, prog_14_method_99_code, 1, some .int, 0, 0, (0, 0), false)
def m_255 : dM := (⟨"WingTramsModel", "hunter", "()I"⟩, prog_14_method_100_code, 3, some .int, 0, 0, (0, 0), false)
def m_256 : dM := (⟨"WingTramsModel", "see", "(III)I"⟩, prog_14_method_101_code, 4, some .int, 0, 3, (0, 0), false)
def m_257 : dM := (⟨"WingTramsModel", "forget", "()V"⟩, prog_14_method_102_code, 1, none, 0, 0, (0, 0), false)
def m_258 : dM := (⟨"WingTramsModel", "isSeen", "(I)Z"⟩, prog_14_method_103_code, 3, some .boolean, 0, 1, (0, 0), false)
def m_259 : dM := (⟨"WingTramsModel", "fits", "()I"⟩, prog_14_method_104_code, 4, some .int, 0, 0, (0, 0), false)
def m_260 : dM := (⟨"WingTramsModel", "watch", "(I)I"⟩, prog_14_method_105_code, 8, some .int, 0, 1, (0, 0), false)
def m_261 : dM := (⟨"WingTramsModel", "takers", "(I)I"⟩, prog_14_method_106_code, 4, some .int, 0, 1, (0, 0), false)
def m_262 : dM := (⟨"WingTramsModel", "gains", "(IIZ)I"⟩, prog_14_method_107_code, 5, some .int, 0, 3, (0, 0), false)
def m_263 : dM := (⟨"WingTramsModel", "bats", "(I)I"⟩, prog_14_method_108_code, 8, some .int, 0, 1, (0, 0), false)
def m_264 : dM := (⟨"WingTramsModel", "years", "(III)I"⟩, prog_14_method_109_code, 10, some .int, 0, 3, (0, 0), false)
def m_265 : dM := (⟨"WingTramsModel", "image", "()V"⟩, prog_14_method_110_code, 1, none, 0, 0, (0, 0), false)
def m_266 : dM := (⟨"WingTramsModel", "restore", "()Z"⟩, prog_14_method_111_code, 1, some .boolean, 0, 0, (0, 0), false)
theorem okM_0 : okM m_0 := ⟨tg3 195 (by decide +kernel) rfl, tg1 25 (by decide +kernel) rfl, fun h => absurd h (by decide), fun _ => tg3 194 (by decide +kernel) rfl, fun h => absurd h (by decide), by decide +kernel, by decide +kernel, by decide⟩
theorem okM_1 : okM m_1 := ⟨tg3 201 (by decide +kernel) rfl, tg1 22 (by decide +kernel) rfl, fun h => absurd h (by decide), fun _ => tg3 200 (by decide +kernel) rfl, fun h => absurd h (by decide), by decide +kernel, by decide +kernel, by decide⟩
theorem okM_2 : okM m_2 := ⟨tg3 105 (by decide +kernel) rfl, tg1 22 (by decide +kernel) rfl, fun h => absurd h (by decide), fun _ => tg3 104 (by decide +kernel) rfl, fun h => absurd h (by decide), by decide +kernel, by decide +kernel, by decide⟩
theorem okM_3 : okM m_3 := ⟨tg3 102 (by decide +kernel) rfl, tg1 22 (by decide +kernel) rfl, fun h => absurd h (by decide), fun _ => tg3 101 (by decide +kernel) rfl, fun h => absurd h (by decide), by decide +kernel, by decide +kernel, by decide⟩
theorem okM_4 : okM m_4 := ⟨tg1 38 (by decide +kernel) rfl, tg1 2 (by decide +kernel) rfl, fun h => absurd h (by decide), fun h => absurd h (by decide), fun _ => ⟨tg1 37 (by decide +kernel) rfl, rfl, rfl⟩, by decide +kernel, by decide +kernel, by decide⟩
theorem okM_5 : okM m_5 := ⟨tg3 35 (by decide +kernel) rfl, tg1 2 (by decide +kernel) rfl, fun _ => ⟨tg3 33 (by decide +kernel) rfl, tg3 34 (by decide +kernel) rfl⟩, fun h => absurd h (by decide), fun h => absurd h (by decide), by decide +kernel, by decide +kernel, by decide⟩
theorem okM_6 : okM m_6 := ⟨tg3 19 (by decide +kernel) rfl, tg1 2 (by decide +kernel) rfl, fun _ => ⟨tg3 17 (by decide +kernel) rfl, tg3 18 (by decide +kernel) rfl⟩, fun h => absurd h (by decide), fun h => absurd h (by decide), by decide +kernel, by decide +kernel, by decide⟩
theorem okM_7 : okM m_7 := ⟨tg3 127 (by decide +kernel) rfl, tg1 2 (by decide +kernel) rfl, fun _ => ⟨tg3 125 (by decide +kernel) rfl, tg3 126 (by decide +kernel) rfl⟩, fun h => absurd h (by decide), fun h => absurd h (by decide), by decide +kernel, by decide +kernel, by decide⟩
theorem okM_8 : okM m_8 := ⟨tg3 145 (by decide +kernel) rfl, tg1 2 (by decide +kernel) rfl, fun _ => ⟨tg3 143 (by decide +kernel) rfl, tg3 144 (by decide +kernel) rfl⟩, fun h => absurd h (by decide), fun h => absurd h (by decide), by decide +kernel, by decide +kernel, by decide⟩
theorem okM_9 : okM m_9 := ⟨tg2 43 (by decide +kernel) rfl, tg1 9 (by decide +kernel) rfl, fun h => absurd h (by decide), fun h => absurd h (by decide), fun _ => ⟨tg2 42 (by decide +kernel) rfl, rfl, rfl⟩, by decide +kernel, by decide +kernel, by decide⟩
theorem okM_10 : okM m_10 := ⟨tg3 39 (by decide +kernel) rfl, tg1 9 (by decide +kernel) rfl, fun _ => ⟨tg3 37 (by decide +kernel) rfl, tg3 38 (by decide +kernel) rfl⟩, fun h => absurd h (by decide), fun h => absurd h (by decide), by decide +kernel, by decide +kernel, by decide⟩
theorem okM_11 : okM m_11 := ⟨tg3 43 (by decide +kernel) rfl, tg1 9 (by decide +kernel) rfl, fun _ => ⟨tg3 42 (by decide +kernel) rfl, tgs 2 (by decide +kernel) rfl⟩, fun h => absurd h (by decide), fun h => absurd h (by decide), by decide +kernel, by decide +kernel, by decide⟩
theorem okM_12 : okM m_12 := ⟨tg3 226 (by decide +kernel) rfl, tg1 9 (by decide +kernel) rfl, fun _ => ⟨tg3 224 (by decide +kernel) rfl, tg3 225 (by decide +kernel) rfl⟩, fun h => absurd h (by decide), fun h => absurd h (by decide), by decide +kernel, by decide +kernel, by decide⟩
theorem okM_13 : okM m_13 := ⟨tg1 57 (by decide +kernel) rfl, tg1 4 (by decide +kernel) rfl, fun h => absurd h (by decide), fun h => absurd h (by decide), fun _ => ⟨tg1 56 (by decide +kernel) rfl, rfl, rfl⟩, by decide +kernel, by decide +kernel, by decide⟩
theorem okM_14 : okM m_14 := ⟨tg4 212 (by decide +kernel) rfl, tg1 4 (by decide +kernel) rfl, fun _ => ⟨tg4 210 (by decide +kernel) rfl, tg4 211 (by decide +kernel) rfl⟩, fun h => absurd h (by decide), fun h => absurd h (by decide), by decide +kernel, by decide +kernel, by decide⟩
theorem okM_15 : okM m_15 := ⟨tg5 77 (by decide +kernel) rfl, tg1 4 (by decide +kernel) rfl, fun _ => ⟨tg5 75 (by decide +kernel) rfl, tg5 76 (by decide +kernel) rfl⟩, fun h => absurd h (by decide), fun h => absurd h (by decide), by decide +kernel, by decide +kernel, by decide⟩
theorem okM_16 : okM m_16 := ⟨tg5 64 (by decide +kernel) rfl, tg1 4 (by decide +kernel) rfl, fun _ => ⟨tg5 62 (by decide +kernel) rfl, tg5 63 (by decide +kernel) rfl⟩, fun h => absurd h (by decide), fun h => absurd h (by decide), by decide +kernel, by decide +kernel, by decide⟩
theorem okM_17 : okM m_17 := ⟨tg5 68 (by decide +kernel) rfl, tg1 4 (by decide +kernel) rfl, fun _ => ⟨tg5 66 (by decide +kernel) rfl, tg5 67 (by decide +kernel) rfl⟩, fun h => absurd h (by decide), fun h => absurd h (by decide), by decide +kernel, by decide +kernel, by decide⟩
theorem okM_18 : okM m_18 := ⟨tg3 94 (by decide +kernel) rfl, tg1 4 (by decide +kernel) rfl, fun _ => ⟨tg3 92 (by decide +kernel) rfl, tg3 93 (by decide +kernel) rfl⟩, fun h => absurd h (by decide), fun h => absurd h (by decide), by decide +kernel, by decide +kernel, by decide⟩
theorem okM_19 : okM m_19 := ⟨tg3 99 (by decide +kernel) rfl, tg1 4 (by decide +kernel) rfl, fun h => absurd h (by decide), fun _ => tg3 98 (by decide +kernel) rfl, fun h => absurd h (by decide), by decide +kernel, by decide +kernel, by decide⟩
theorem okM_20 : okM m_20 := ⟨tg1 239 (by decide +kernel) rfl, tg1 8 (by decide +kernel) rfl, fun h => absurd h (by decide), fun h => absurd h (by decide), fun _ => ⟨tg1 238 (by decide +kernel) rfl, rfl, rfl⟩, by decide +kernel, by decide +kernel, by decide⟩
theorem okM_21 : okM m_21 := ⟨tg5 86 (by decide +kernel) rfl, tg1 8 (by decide +kernel) rfl, fun _ => ⟨tg5 84 (by decide +kernel) rfl, tg5 85 (by decide +kernel) rfl⟩, fun h => absurd h (by decide), fun h => absurd h (by decide), by decide +kernel, by decide +kernel, by decide⟩
theorem okM_22 : okM m_22 := ⟨tg3 141 (by decide +kernel) rfl, tg1 8 (by decide +kernel) rfl, fun _ => ⟨tg3 139 (by decide +kernel) rfl, tg3 140 (by decide +kernel) rfl⟩, fun h => absurd h (by decide), fun h => absurd h (by decide), by decide +kernel, by decide +kernel, by decide⟩
theorem okM_23 : okM m_23 := ⟨tg3 77 (by decide +kernel) rfl, tg1 8 (by decide +kernel) rfl, fun _ => ⟨tg3 75 (by decide +kernel) rfl, tg3 76 (by decide +kernel) rfl⟩, fun h => absurd h (by decide), fun h => absurd h (by decide), by decide +kernel, by decide +kernel, by decide⟩
theorem okM_24 : okM m_24 := ⟨tg1 49 (by decide +kernel) rfl, tg1 3 (by decide +kernel) rfl, fun h => absurd h (by decide), fun h => absurd h (by decide), fun _ => ⟨tg1 48 (by decide +kernel) rfl, rfl, rfl⟩, by decide +kernel, by decide +kernel, by decide⟩
theorem okM_25 : okM m_25 := ⟨tg4 207 (by decide +kernel) rfl, tg1 3 (by decide +kernel) rfl, fun _ => ⟨tg4 205 (by decide +kernel) rfl, tg4 206 (by decide +kernel) rfl⟩, fun h => absurd h (by decide), fun h => absurd h (by decide), by decide +kernel, by decide +kernel, by decide⟩
theorem okM_26 : okM m_26 := ⟨tg5 72 (by decide +kernel) rfl, tg1 3 (by decide +kernel) rfl, fun _ => ⟨tg5 70 (by decide +kernel) rfl, tg5 71 (by decide +kernel) rfl⟩, fun h => absurd h (by decide), fun h => absurd h (by decide), by decide +kernel, by decide +kernel, by decide⟩
theorem okM_27 : okM m_27 := ⟨tg5 7 (by decide +kernel) rfl, tg1 3 (by decide +kernel) rfl, fun _ => ⟨tg5 5 (by decide +kernel) rfl, tg5 6 (by decide +kernel) rfl⟩, fun h => absurd h (by decide), fun h => absurd h (by decide), by decide +kernel, by decide +kernel, by decide⟩
theorem okM_28 : okM m_28 := ⟨tg3 113 (by decide +kernel) rfl, tg1 3 (by decide +kernel) rfl, fun _ => ⟨tg3 111 (by decide +kernel) rfl, tg3 112 (by decide +kernel) rfl⟩, fun h => absurd h (by decide), fun h => absurd h (by decide), by decide +kernel, by decide +kernel, by decide⟩
theorem okM_29 : okM m_29 := ⟨tg5 130 (by decide +kernel) rfl, tg1 3 (by decide +kernel) rfl, fun _ => ⟨tg5 128 (by decide +kernel) rfl, tg5 129 (by decide +kernel) rfl⟩, fun h => absurd h (by decide), fun h => absurd h (by decide), by decide +kernel, by decide +kernel, by decide⟩
theorem okM_30 : okM m_30 := ⟨tg5 126 (by decide +kernel) rfl, tg1 3 (by decide +kernel) rfl, fun _ => ⟨tg5 124 (by decide +kernel) rfl, tg5 125 (by decide +kernel) rfl⟩, fun h => absurd h (by decide), fun h => absurd h (by decide), by decide +kernel, by decide +kernel, by decide⟩
theorem okM_31 : okM m_31 := ⟨tg6 141 (by decide +kernel) rfl, tg1 3 (by decide +kernel) rfl, fun _ => ⟨tg6 139 (by decide +kernel) rfl, tg6 140 (by decide +kernel) rfl⟩, fun h => absurd h (by decide), fun h => absurd h (by decide), by decide +kernel, by decide +kernel, by decide⟩
theorem okM_32 : okM m_32 := ⟨tg1 233 (by decide +kernel) rfl, tg1 7 (by decide +kernel) rfl, fun h => absurd h (by decide), fun h => absurd h (by decide), fun _ => ⟨tg1 232 (by decide +kernel) rfl, rfl, rfl⟩, by decide +kernel, by decide +kernel, by decide⟩
theorem okM_33 : okM m_33 := ⟨tg5 82 (by decide +kernel) rfl, tg1 7 (by decide +kernel) rfl, fun _ => ⟨tg5 80 (by decide +kernel) rfl, tg5 81 (by decide +kernel) rfl⟩, fun h => absurd h (by decide), fun h => absurd h (by decide), by decide +kernel, by decide +kernel, by decide⟩
theorem okM_34 : okM m_34 := ⟨tg3 221 (by decide +kernel) rfl, tg1 7 (by decide +kernel) rfl, fun _ => ⟨tg3 219 (by decide +kernel) rfl, tg3 220 (by decide +kernel) rfl⟩, fun h => absurd h (by decide), fun h => absurd h (by decide), by decide +kernel, by decide +kernel, by decide⟩
theorem okM_35 : okM m_35 := ⟨tg3 61 (by decide +kernel) rfl, tg1 7 (by decide +kernel) rfl, fun _ => ⟨tg3 59 (by decide +kernel) rfl, tg3 60 (by decide +kernel) rfl⟩, fun h => absurd h (by decide), fun h => absurd h (by decide), by decide +kernel, by decide +kernel, by decide⟩
theorem okM_36 : okM m_36 := ⟨tg1 183 (by decide +kernel) rfl, tg1 5 (by decide +kernel) rfl, fun h => absurd h (by decide), fun h => absurd h (by decide), fun _ => ⟨tg1 182 (by decide +kernel) rfl, rfl, rfl⟩, by decide +kernel, by decide +kernel, by decide⟩
theorem okM_37 : okM m_37 := ⟨tg4 70 (by decide +kernel) rfl, tg1 5 (by decide +kernel) rfl, fun _ => ⟨tg4 68 (by decide +kernel) rfl, tg4 69 (by decide +kernel) rfl⟩, fun h => absurd h (by decide), fun h => absurd h (by decide), by decide +kernel, by decide +kernel, by decide⟩
theorem okM_38 : okM m_38 := ⟨tg4 133 (by decide +kernel) rfl, tg1 5 (by decide +kernel) rfl, fun _ => ⟨tg4 132 (by decide +kernel) rfl, tgs 16 (by decide +kernel) rfl⟩, fun h => absurd h (by decide), fun h => absurd h (by decide), by decide +kernel, by decide +kernel, by decide⟩
theorem okM_39 : okM m_39 := ⟨tg4 74 (by decide +kernel) rfl, tg1 5 (by decide +kernel) rfl, fun h => absurd h (by decide), fun _ => tg4 73 (by decide +kernel) rfl, fun h => absurd h (by decide), by decide +kernel, by decide +kernel, by decide⟩
theorem okM_40 : okM m_40 := ⟨tg4 137 (by decide +kernel) rfl, tg1 5 (by decide +kernel) rfl, fun h => absurd h (by decide), fun _ => tg4 136 (by decide +kernel) rfl, fun h => absurd h (by decide), by decide +kernel, by decide +kernel, by decide⟩
theorem okM_41 : okM m_41 := ⟨tg4 77 (by decide +kernel) rfl, tg1 5 (by decide +kernel) rfl, fun h => absurd h (by decide), fun _ => tg4 76 (by decide +kernel) rfl, fun h => absurd h (by decide), by decide +kernel, by decide +kernel, by decide⟩
theorem okM_42 : okM m_42 := ⟨tg4 140 (by decide +kernel) rfl, tg1 5 (by decide +kernel) rfl, fun h => absurd h (by decide), fun _ => tg4 139 (by decide +kernel) rfl, fun h => absurd h (by decide), by decide +kernel, by decide +kernel, by decide⟩
theorem okM_43 : okM m_43 := ⟨tg4 143 (by decide +kernel) rfl, tg1 5 (by decide +kernel) rfl, fun h => absurd h (by decide), fun _ => tg4 142 (by decide +kernel) rfl, fun h => absurd h (by decide), by decide +kernel, by decide +kernel, by decide⟩
theorem okM_44 : okM m_44 := ⟨tg4 80 (by decide +kernel) rfl, tg1 5 (by decide +kernel) rfl, fun h => absurd h (by decide), fun _ => tg4 79 (by decide +kernel) rfl, fun h => absurd h (by decide), by decide +kernel, by decide +kernel, by decide⟩
theorem okM_45 : okM m_45 := ⟨tg1 207 (by decide +kernel) rfl, tg1 6 (by decide +kernel) rfl, fun h => absurd h (by decide), fun h => absurd h (by decide), fun _ => ⟨tg1 206 (by decide +kernel) rfl, rfl, rfl⟩, by decide +kernel, by decide +kernel, by decide⟩
theorem okM_46 : okM m_46 := ⟨tg4 203 (by decide +kernel) rfl, tg1 6 (by decide +kernel) rfl, fun _ => ⟨tg4 201 (by decide +kernel) rfl, tg4 202 (by decide +kernel) rfl⟩, fun h => absurd h (by decide), fun h => absurd h (by decide), by decide +kernel, by decide +kernel, by decide⟩
theorem okM_47 : okM m_47 := ⟨tg4 216 (by decide +kernel) rfl, tg1 6 (by decide +kernel) rfl, fun _ => ⟨tg4 215 (by decide +kernel) rfl, tgs 17 (by decide +kernel) rfl⟩, fun h => absurd h (by decide), fun h => absurd h (by decide), by decide +kernel, by decide +kernel, by decide⟩
theorem okM_48 : okM m_48 := ⟨tg4 229 (by decide +kernel) rfl, tg1 6 (by decide +kernel) rfl, fun _ => ⟨tg4 228 (by decide +kernel) rfl, tgs 20 (by decide +kernel) rfl⟩, fun h => absurd h (by decide), fun h => absurd h (by decide), by decide +kernel, by decide +kernel, by decide⟩
theorem okM_49 : okM m_49 := ⟨tg5 60 (by decide +kernel) rfl, tg1 6 (by decide +kernel) rfl, fun _ => ⟨tg5 59 (by decide +kernel) rfl, tgs 36 (by decide +kernel) rfl⟩, fun h => absurd h (by decide), fun h => absurd h (by decide), by decide +kernel, by decide +kernel, by decide⟩
theorem okM_50 : okM m_50 := ⟨tg4 221 (by decide +kernel) rfl, tg1 6 (by decide +kernel) rfl, fun _ => ⟨tg4 220 (by decide +kernel) rfl, tgs 18 (by decide +kernel) rfl⟩, fun h => absurd h (by decide), fun h => absurd h (by decide), by decide +kernel, by decide +kernel, by decide⟩
theorem okM_51 : okM m_51 := ⟨tg4 225 (by decide +kernel) rfl, tg1 6 (by decide +kernel) rfl, fun _ => ⟨tg4 224 (by decide +kernel) rfl, tgs 19 (by decide +kernel) rfl⟩, fun h => absurd h (by decide), fun h => absurd h (by decide), by decide +kernel, by decide +kernel, by decide⟩
theorem okM_52 : okM m_52 := ⟨tg4 238 (by decide +kernel) rfl, tg1 6 (by decide +kernel) rfl, fun _ => ⟨tg4 237 (by decide +kernel) rfl, tgs 22 (by decide +kernel) rfl⟩, fun h => absurd h (by decide), fun h => absurd h (by decide), by decide +kernel, by decide +kernel, by decide⟩
theorem okM_53 : okM m_53 := ⟨tg5 12 (by decide +kernel) rfl, tg1 6 (by decide +kernel) rfl, fun _ => ⟨tg5 11 (by decide +kernel) rfl, tgs 24 (by decide +kernel) rfl⟩, fun h => absurd h (by decide), fun h => absurd h (by decide), by decide +kernel, by decide +kernel, by decide⟩
theorem okM_54 : okM m_54 := ⟨tg5 16 (by decide +kernel) rfl, tg1 6 (by decide +kernel) rfl, fun _ => ⟨tg5 15 (by decide +kernel) rfl, tgs 25 (by decide +kernel) rfl⟩, fun h => absurd h (by decide), fun h => absurd h (by decide), by decide +kernel, by decide +kernel, by decide⟩
theorem okM_55 : okM m_55 := ⟨tg5 20 (by decide +kernel) rfl, tg1 6 (by decide +kernel) rfl, fun _ => ⟨tg5 19 (by decide +kernel) rfl, tgs 26 (by decide +kernel) rfl⟩, fun h => absurd h (by decide), fun h => absurd h (by decide), by decide +kernel, by decide +kernel, by decide⟩
theorem okM_56 : okM m_56 := ⟨tg5 24 (by decide +kernel) rfl, tg1 6 (by decide +kernel) rfl, fun _ => ⟨tg5 23 (by decide +kernel) rfl, tgs 27 (by decide +kernel) rfl⟩, fun h => absurd h (by decide), fun h => absurd h (by decide), by decide +kernel, by decide +kernel, by decide⟩
theorem okM_57 : okM m_57 := ⟨tg4 233 (by decide +kernel) rfl, tg1 6 (by decide +kernel) rfl, fun _ => ⟨tg4 232 (by decide +kernel) rfl, tgs 21 (by decide +kernel) rfl⟩, fun h => absurd h (by decide), fun h => absurd h (by decide), by decide +kernel, by decide +kernel, by decide⟩
theorem okM_58 : okM m_58 := ⟨tg5 2 (by decide +kernel) rfl, tg1 6 (by decide +kernel) rfl, fun _ => ⟨tg5 1 (by decide +kernel) rfl, tgs 23 (by decide +kernel) rfl⟩, fun h => absurd h (by decide), fun h => absurd h (by decide), by decide +kernel, by decide +kernel, by decide⟩
theorem okM_59 : okM m_59 := ⟨tg5 28 (by decide +kernel) rfl, tg1 6 (by decide +kernel) rfl, fun _ => ⟨tg5 27 (by decide +kernel) rfl, tgs 28 (by decide +kernel) rfl⟩, fun h => absurd h (by decide), fun h => absurd h (by decide), by decide +kernel, by decide +kernel, by decide⟩
theorem okM_60 : okM m_60 := ⟨tg5 32 (by decide +kernel) rfl, tg1 6 (by decide +kernel) rfl, fun _ => ⟨tg5 31 (by decide +kernel) rfl, tgs 29 (by decide +kernel) rfl⟩, fun h => absurd h (by decide), fun h => absurd h (by decide), by decide +kernel, by decide +kernel, by decide⟩
theorem okM_61 : okM m_61 := ⟨tg5 36 (by decide +kernel) rfl, tg1 6 (by decide +kernel) rfl, fun _ => ⟨tg5 35 (by decide +kernel) rfl, tgs 30 (by decide +kernel) rfl⟩, fun h => absurd h (by decide), fun h => absurd h (by decide), by decide +kernel, by decide +kernel, by decide⟩
theorem okM_62 : okM m_62 := ⟨tg5 40 (by decide +kernel) rfl, tg1 6 (by decide +kernel) rfl, fun _ => ⟨tg5 39 (by decide +kernel) rfl, tgs 31 (by decide +kernel) rfl⟩, fun h => absurd h (by decide), fun h => absurd h (by decide), by decide +kernel, by decide +kernel, by decide⟩
theorem okM_63 : okM m_63 := ⟨tg5 44 (by decide +kernel) rfl, tg1 6 (by decide +kernel) rfl, fun _ => ⟨tg5 43 (by decide +kernel) rfl, tgs 32 (by decide +kernel) rfl⟩, fun h => absurd h (by decide), fun h => absurd h (by decide), by decide +kernel, by decide +kernel, by decide⟩
theorem okM_64 : okM m_64 := ⟨tg5 48 (by decide +kernel) rfl, tg1 6 (by decide +kernel) rfl, fun _ => ⟨tg5 47 (by decide +kernel) rfl, tgs 33 (by decide +kernel) rfl⟩, fun h => absurd h (by decide), fun h => absurd h (by decide), by decide +kernel, by decide +kernel, by decide⟩
theorem okM_65 : okM m_65 := ⟨tg5 52 (by decide +kernel) rfl, tg1 6 (by decide +kernel) rfl, fun _ => ⟨tg5 51 (by decide +kernel) rfl, tgs 34 (by decide +kernel) rfl⟩, fun h => absurd h (by decide), fun h => absurd h (by decide), by decide +kernel, by decide +kernel, by decide⟩
theorem okM_66 : okM m_66 := ⟨tg5 56 (by decide +kernel) rfl, tg1 6 (by decide +kernel) rfl, fun _ => ⟨tg5 55 (by decide +kernel) rfl, tgs 35 (by decide +kernel) rfl⟩, fun h => absurd h (by decide), fun h => absurd h (by decide), by decide +kernel, by decide +kernel, by decide⟩
theorem okM_67 : okM m_67 := ⟨tg2 90 (by decide +kernel) rfl, tg1 10 (by decide +kernel) rfl, fun h => absurd h (by decide), fun h => absurd h (by decide), fun _ => ⟨tg2 89 (by decide +kernel) rfl, rfl, rfl⟩, by decide +kernel, by decide +kernel, by decide⟩
theorem okM_68 : okM m_68 := ⟨tg3 71 (by decide +kernel) rfl, tg1 10 (by decide +kernel) rfl, fun _ => ⟨tg3 69 (by decide +kernel) rfl, tg3 70 (by decide +kernel) rfl⟩, fun h => absurd h (by decide), fun h => absurd h (by decide), by decide +kernel, by decide +kernel, by decide⟩
theorem okM_69 : okM m_69 := ⟨tg3 82 (by decide +kernel) rfl, tg1 10 (by decide +kernel) rfl, fun _ => ⟨tg3 81 (by decide +kernel) rfl, tgs 3 (by decide +kernel) rfl⟩, fun h => absurd h (by decide), fun h => absurd h (by decide), by decide +kernel, by decide +kernel, by decide⟩
theorem okM_70 : okM m_70 := ⟨tg3 86 (by decide +kernel) rfl, tg1 10 (by decide +kernel) rfl, fun _ => ⟨tg3 85 (by decide +kernel) rfl, tgs 4 (by decide +kernel) rfl⟩, fun h => absurd h (by decide), fun h => absurd h (by decide), by decide +kernel, by decide +kernel, by decide⟩
theorem okM_71 : okM m_71 := ⟨tg3 90 (by decide +kernel) rfl, tg1 10 (by decide +kernel) rfl, fun _ => ⟨tg3 89 (by decide +kernel) rfl, tgs 5 (by decide +kernel) rfl⟩, fun h => absurd h (by decide), fun h => absurd h (by decide), by decide +kernel, by decide +kernel, by decide⟩
theorem okM_72 : okM m_72 := ⟨tg3 109 (by decide +kernel) rfl, tg1 10 (by decide +kernel) rfl, fun _ => ⟨tg3 108 (by decide +kernel) rfl, tgs 6 (by decide +kernel) rfl⟩, fun h => absurd h (by decide), fun h => absurd h (by decide), by decide +kernel, by decide +kernel, by decide⟩
theorem okM_73 : okM m_73 := ⟨tg3 182 (by decide +kernel) rfl, tg1 10 (by decide +kernel) rfl, fun _ => ⟨tg3 181 (by decide +kernel) rfl, tgs 13 (by decide +kernel) rfl⟩, fun h => absurd h (by decide), fun h => absurd h (by decide), by decide +kernel, by decide +kernel, by decide⟩
theorem okM_74 : okM m_74 := ⟨tg3 178 (by decide +kernel) rfl, tg1 10 (by decide +kernel) rfl, fun _ => ⟨tg3 176 (by decide +kernel) rfl, tg3 177 (by decide +kernel) rfl⟩, fun h => absurd h (by decide), fun h => absurd h (by decide), by decide +kernel, by decide +kernel, by decide⟩
theorem okM_75 : okM m_75 := ⟨tg5 157 (by decide +kernel) rfl, tg1 10 (by decide +kernel) rfl, fun _ => ⟨tg5 155 (by decide +kernel) rfl, tg5 156 (by decide +kernel) rfl⟩, fun h => absurd h (by decide), fun h => absurd h (by decide), by decide +kernel, by decide +kernel, by decide⟩
theorem okM_76 : okM m_76 := ⟨tg5 162 (by decide +kernel) rfl, tg1 10 (by decide +kernel) rfl, fun _ => ⟨tg5 161 (by decide +kernel) rfl, tgs 39 (by decide +kernel) rfl⟩, fun h => absurd h (by decide), fun h => absurd h (by decide), by decide +kernel, by decide +kernel, by decide⟩
theorem okM_77 : okM m_77 := ⟨tg2 141 (by decide +kernel) rfl, tg1 11 (by decide +kernel) rfl, fun h => absurd h (by decide), fun h => absurd h (by decide), fun _ => ⟨tg2 140 (by decide +kernel) rfl, rfl, rfl⟩, by decide +kernel, by decide +kernel, by decide⟩
theorem okM_78 : okM m_78 := ⟨tg3 122 (by decide +kernel) rfl, tg1 11 (by decide +kernel) rfl, fun _ => ⟨tg3 121 (by decide +kernel) rfl, tgs 7 (by decide +kernel) rfl⟩, fun h => absurd h (by decide), fun h => absurd h (by decide), by decide +kernel, by decide +kernel, by decide⟩
theorem okM_79 : okM m_79 := ⟨tg3 118 (by decide +kernel) rfl, tg1 11 (by decide +kernel) rfl, fun _ => ⟨tg3 116 (by decide +kernel) rfl, tg3 117 (by decide +kernel) rfl⟩, fun h => absurd h (by decide), fun h => absurd h (by decide), by decide +kernel, by decide +kernel, by decide⟩
theorem okM_80 : okM m_80 := ⟨tg3 153 (by decide +kernel) rfl, tg1 11 (by decide +kernel) rfl, fun _ => ⟨tg3 151 (by decide +kernel) rfl, tg3 152 (by decide +kernel) rfl⟩, fun h => absurd h (by decide), fun h => absurd h (by decide), by decide +kernel, by decide +kernel, by decide⟩
theorem okM_81 : okM m_81 := ⟨tg6 37 (by decide +kernel) rfl, tg1 11 (by decide +kernel) rfl, fun _ => ⟨tg6 35 (by decide +kernel) rfl, tg6 36 (by decide +kernel) rfl⟩, fun h => absurd h (by decide), fun h => absurd h (by decide), by decide +kernel, by decide +kernel, by decide⟩
theorem okM_82 : okM m_82 := ⟨tg6 166 (by decide +kernel) rfl, tg1 11 (by decide +kernel) rfl, fun _ => ⟨tg6 164 (by decide +kernel) rfl, tg6 165 (by decide +kernel) rfl⟩, fun h => absurd h (by decide), fun h => absurd h (by decide), by decide +kernel, by decide +kernel, by decide⟩
theorem okM_83 : okM m_83 := ⟨tg6 12 (by decide +kernel) rfl, tg1 11 (by decide +kernel) rfl, fun _ => ⟨tg6 10 (by decide +kernel) rfl, tg6 11 (by decide +kernel) rfl⟩, fun h => absurd h (by decide), fun h => absurd h (by decide), by decide +kernel, by decide +kernel, by decide⟩
theorem okM_84 : okM m_84 := ⟨tg6 16 (by decide +kernel) rfl, tg1 11 (by decide +kernel) rfl, fun _ => ⟨tg6 15 (by decide +kernel) rfl, tgs 42 (by decide +kernel) rfl⟩, fun h => absurd h (by decide), fun h => absurd h (by decide), by decide +kernel, by decide +kernel, by decide⟩
theorem okM_85 : okM m_85 := ⟨tg5 230 (by decide +kernel) rfl, tg1 11 (by decide +kernel) rfl, fun _ => ⟨tg5 228 (by decide +kernel) rfl, tg5 229 (by decide +kernel) rfl⟩, fun h => absurd h (by decide), fun h => absurd h (by decide), by decide +kernel, by decide +kernel, by decide⟩
theorem okM_86 : okM m_86 := ⟨tg5 234 (by decide +kernel) rfl, tg1 11 (by decide +kernel) rfl, fun _ => ⟨tg5 233 (by decide +kernel) rfl, tgs 41 (by decide +kernel) rfl⟩, fun h => absurd h (by decide), fun h => absurd h (by decide), by decide +kernel, by decide +kernel, by decide⟩
theorem okM_87 : okM m_87 := ⟨tg6 95 (by decide +kernel) rfl, tg1 11 (by decide +kernel) rfl, fun _ => ⟨tg6 93 (by decide +kernel) rfl, tg6 94 (by decide +kernel) rfl⟩, fun h => absurd h (by decide), fun h => absurd h (by decide), by decide +kernel, by decide +kernel, by decide⟩
theorem okM_88 : okM m_88 := ⟨tg6 99 (by decide +kernel) rfl, tg1 11 (by decide +kernel) rfl, fun _ => ⟨tg6 98 (by decide +kernel) rfl, tgs 50 (by decide +kernel) rfl⟩, fun h => absurd h (by decide), fun h => absurd h (by decide), by decide +kernel, by decide +kernel, by decide⟩
theorem okM_89 : okM m_89 := ⟨tg6 103 (by decide +kernel) rfl, tg1 11 (by decide +kernel) rfl, fun _ => ⟨tg6 102 (by decide +kernel) rfl, tgs 51 (by decide +kernel) rfl⟩, fun h => absurd h (by decide), fun h => absurd h (by decide), by decide +kernel, by decide +kernel, by decide⟩
theorem okM_90 : okM m_90 := ⟨tg6 107 (by decide +kernel) rfl, tg1 11 (by decide +kernel) rfl, fun _ => ⟨tg6 106 (by decide +kernel) rfl, tgs 52 (by decide +kernel) rfl⟩, fun h => absurd h (by decide), fun h => absurd h (by decide), by decide +kernel, by decide +kernel, by decide⟩
theorem okM_91 : okM m_91 := ⟨tg2 168 (by decide +kernel) rfl, tg1 12 (by decide +kernel) rfl, fun h => absurd h (by decide), fun h => absurd h (by decide), fun _ => ⟨tg2 167 (by decide +kernel) rfl, rfl, rfl⟩, by decide +kernel, by decide +kernel, by decide⟩
theorem okM_92 : okM m_92 := ⟨tg6 63 (by decide +kernel) rfl, tg1 12 (by decide +kernel) rfl, fun _ => ⟨tg6 61 (by decide +kernel) rfl, tg6 62 (by decide +kernel) rfl⟩, fun h => absurd h (by decide), fun h => absurd h (by decide), by decide +kernel, by decide +kernel, by decide⟩
theorem okM_93 : okM m_93 := ⟨tg6 67 (by decide +kernel) rfl, tg1 12 (by decide +kernel) rfl, fun _ => ⟨tg6 66 (by decide +kernel) rfl, tgs 46 (by decide +kernel) rfl⟩, fun h => absurd h (by decide), fun h => absurd h (by decide), by decide +kernel, by decide +kernel, by decide⟩
theorem okM_94 : okM m_94 := ⟨tg6 73 (by decide +kernel) rfl, tg1 12 (by decide +kernel) rfl, fun _ => ⟨tg6 72 (by decide +kernel) rfl, tgs 47 (by decide +kernel) rfl⟩, fun h => absurd h (by decide), fun h => absurd h (by decide), by decide +kernel, by decide +kernel, by decide⟩
theorem okM_95 : okM m_95 := ⟨tg6 78 (by decide +kernel) rfl, tg1 12 (by decide +kernel) rfl, fun _ => ⟨tg6 77 (by decide +kernel) rfl, tgs 48 (by decide +kernel) rfl⟩, fun h => absurd h (by decide), fun h => absurd h (by decide), by decide +kernel, by decide +kernel, by decide⟩
theorem okM_96 : okM m_96 := ⟨tg6 83 (by decide +kernel) rfl, tg1 12 (by decide +kernel) rfl, fun _ => ⟨tg6 82 (by decide +kernel) rfl, tgs 49 (by decide +kernel) rfl⟩, fun h => absurd h (by decide), fun h => absurd h (by decide), by decide +kernel, by decide +kernel, by decide⟩
theorem okM_97 : okM m_97 := ⟨tg1 30 (by decide +kernel) rfl, tg1 1 (by decide +kernel) rfl, fun h => absurd h (by decide), fun h => absurd h (by decide), fun _ => ⟨tg1 29 (by decide +kernel) rfl, rfl, rfl⟩, by decide +kernel, by decide +kernel, by decide⟩
theorem okM_98 : okM m_98 := ⟨tg3 11 (by decide +kernel) rfl, tg1 1 (by decide +kernel) rfl, fun _ => ⟨tg3 9 (by decide +kernel) rfl, tg3 10 (by decide +kernel) rfl⟩, fun h => absurd h (by decide), fun h => absurd h (by decide), by decide +kernel, by decide +kernel, by decide⟩
theorem okM_99 : okM m_99 := ⟨tg3 15 (by decide +kernel) rfl, tg1 1 (by decide +kernel) rfl, fun _ => ⟨tg3 14 (by decide +kernel) rfl, tgs 0 (by decide +kernel) rfl⟩, fun h => absurd h (by decide), fun h => absurd h (by decide), by decide +kernel, by decide +kernel, by decide⟩
theorem okM_100 : okM m_100 := ⟨tg3 239 (by decide +kernel) rfl, tg1 1 (by decide +kernel) rfl, fun _ => ⟨tg3 237 (by decide +kernel) rfl, tg3 238 (by decide +kernel) rfl⟩, fun h => absurd h (by decide), fun h => absurd h (by decide), by decide +kernel, by decide +kernel, by decide⟩
theorem okM_101 : okM m_101 := ⟨tg3 23 (by decide +kernel) rfl, tg1 1 (by decide +kernel) rfl, fun _ => ⟨tg3 21 (by decide +kernel) rfl, tg3 22 (by decide +kernel) rfl⟩, fun h => absurd h (by decide), fun h => absurd h (by decide), by decide +kernel, by decide +kernel, by decide⟩
theorem okM_102 : okM m_102 := ⟨tg5 94 (by decide +kernel) rfl, tg1 1 (by decide +kernel) rfl, fun _ => ⟨tg5 92 (by decide +kernel) rfl, tg5 93 (by decide +kernel) rfl⟩, fun h => absurd h (by decide), fun h => absurd h (by decide), by decide +kernel, by decide +kernel, by decide⟩
theorem okM_103 : okM m_103 := ⟨tg5 117 (by decide +kernel) rfl, tg1 1 (by decide +kernel) rfl, fun _ => ⟨tg5 115 (by decide +kernel) rfl, tg5 116 (by decide +kernel) rfl⟩, fun h => absurd h (by decide), fun h => absurd h (by decide), by decide +kernel, by decide +kernel, by decide⟩
theorem okM_104 : okM m_104 := ⟨tg5 139 (by decide +kernel) rfl, tg1 1 (by decide +kernel) rfl, fun _ => ⟨tg5 137 (by decide +kernel) rfl, tg5 138 (by decide +kernel) rfl⟩, fun h => absurd h (by decide), fun h => absurd h (by decide), by decide +kernel, by decide +kernel, by decide⟩
theorem okM_105 : okM m_105 := ⟨tg5 147 (by decide +kernel) rfl, tg1 1 (by decide +kernel) rfl, fun _ => ⟨tg5 145 (by decide +kernel) rfl, tg5 146 (by decide +kernel) rfl⟩, fun h => absurd h (by decide), fun h => absurd h (by decide), by decide +kernel, by decide +kernel, by decide⟩
theorem okM_106 : okM m_106 := ⟨tg5 170 (by decide +kernel) rfl, tg1 1 (by decide +kernel) rfl, fun _ => ⟨tg5 168 (by decide +kernel) rfl, tg5 169 (by decide +kernel) rfl⟩, fun h => absurd h (by decide), fun h => absurd h (by decide), by decide +kernel, by decide +kernel, by decide⟩
theorem okM_107 : okM m_107 := ⟨tg5 178 (by decide +kernel) rfl, tg1 1 (by decide +kernel) rfl, fun _ => ⟨tg5 176 (by decide +kernel) rfl, tg5 177 (by decide +kernel) rfl⟩, fun h => absurd h (by decide), fun h => absurd h (by decide), by decide +kernel, by decide +kernel, by decide⟩
theorem okM_108 : okM m_108 := ⟨tg5 191 (by decide +kernel) rfl, tg1 1 (by decide +kernel) rfl, fun _ => ⟨tg5 189 (by decide +kernel) rfl, tg5 190 (by decide +kernel) rfl⟩, fun h => absurd h (by decide), fun h => absurd h (by decide), by decide +kernel, by decide +kernel, by decide⟩
theorem okM_109 : okM m_109 := ⟨tg5 121 (by decide +kernel) rfl, tg1 1 (by decide +kernel) rfl, fun _ => ⟨tg5 120 (by decide +kernel) rfl, tgs 37 (by decide +kernel) rfl⟩, fun h => absurd h (by decide), fun h => absurd h (by decide), by decide +kernel, by decide +kernel, by decide⟩
theorem okM_110 : okM m_110 := ⟨tg5 151 (by decide +kernel) rfl, tg1 1 (by decide +kernel) rfl, fun _ => ⟨tg5 150 (by decide +kernel) rfl, tgs 38 (by decide +kernel) rfl⟩, fun h => absurd h (by decide), fun h => absurd h (by decide), by decide +kernel, by decide +kernel, by decide⟩
theorem okM_111 : okM m_111 := ⟨tg5 182 (by decide +kernel) rfl, tg1 1 (by decide +kernel) rfl, fun _ => ⟨tg5 181 (by decide +kernel) rfl, tgs 40 (by decide +kernel) rfl⟩, fun h => absurd h (by decide), fun h => absurd h (by decide), by decide +kernel, by decide +kernel, by decide⟩
theorem okM_112 : okM m_112 := ⟨tg3 31 (by decide +kernel) rfl, tg1 1 (by decide +kernel) rfl, fun _ => ⟨tg3 30 (by decide +kernel) rfl, tgs 1 (by decide +kernel) rfl⟩, fun h => absurd h (by decide), fun h => absurd h (by decide), by decide +kernel, by decide +kernel, by decide⟩
theorem okM_113 : okM m_113 := ⟨tg3 27 (by decide +kernel) rfl, tg1 1 (by decide +kernel) rfl, fun _ => ⟨tg3 25 (by decide +kernel) rfl, tg3 26 (by decide +kernel) rfl⟩, fun h => absurd h (by decide), fun h => absurd h (by decide), by decide +kernel, by decide +kernel, by decide⟩
theorem okM_114 : okM m_114 := ⟨tg3 49 (by decide +kernel) rfl, tg1 1 (by decide +kernel) rfl, fun _ => ⟨tg3 47 (by decide +kernel) rfl, tg3 48 (by decide +kernel) rfl⟩, fun h => absurd h (by decide), fun h => absurd h (by decide), by decide +kernel, by decide +kernel, by decide⟩
theorem okM_115 : okM m_115 := ⟨tg3 53 (by decide +kernel) rfl, tg1 1 (by decide +kernel) rfl, fun _ => ⟨tg3 51 (by decide +kernel) rfl, tg3 52 (by decide +kernel) rfl⟩, fun h => absurd h (by decide), fun h => absurd h (by decide), by decide +kernel, by decide +kernel, by decide⟩
theorem okM_116 : okM m_116 := ⟨tg5 198 (by decide +kernel) rfl, tg1 1 (by decide +kernel) rfl, fun _ => ⟨tg5 196 (by decide +kernel) rfl, tg5 197 (by decide +kernel) rfl⟩, fun h => absurd h (by decide), fun h => absurd h (by decide), by decide +kernel, by decide +kernel, by decide⟩
theorem okM_117 : okM m_117 := ⟨tg5 205 (by decide +kernel) rfl, tg1 1 (by decide +kernel) rfl, fun _ => ⟨tg5 203 (by decide +kernel) rfl, tg5 204 (by decide +kernel) rfl⟩, fun h => absurd h (by decide), fun h => absurd h (by decide), by decide +kernel, by decide +kernel, by decide⟩
theorem okM_118 : okM m_118 := ⟨tg5 212 (by decide +kernel) rfl, tg1 1 (by decide +kernel) rfl, fun _ => ⟨tg5 210 (by decide +kernel) rfl, tg5 211 (by decide +kernel) rfl⟩, fun h => absurd h (by decide), fun h => absurd h (by decide), by decide +kernel, by decide +kernel, by decide⟩
theorem okM_119 : okM m_119 := ⟨tg3 57 (by decide +kernel) rfl, tg1 1 (by decide +kernel) rfl, fun _ => ⟨tg3 55 (by decide +kernel) rfl, tg3 56 (by decide +kernel) rfl⟩, fun h => absurd h (by decide), fun h => absurd h (by decide), by decide +kernel, by decide +kernel, by decide⟩
theorem okM_120 : okM m_120 := ⟨tg5 219 (by decide +kernel) rfl, tg1 1 (by decide +kernel) rfl, fun _ => ⟨tg5 217 (by decide +kernel) rfl, tg5 218 (by decide +kernel) rfl⟩, fun h => absurd h (by decide), fun h => absurd h (by decide), by decide +kernel, by decide +kernel, by decide⟩
theorem okM_121 : okM m_121 := ⟨tg5 226 (by decide +kernel) rfl, tg1 1 (by decide +kernel) rfl, fun _ => ⟨tg5 224 (by decide +kernel) rfl, tg5 225 (by decide +kernel) rfl⟩, fun h => absurd h (by decide), fun h => absurd h (by decide), by decide +kernel, by decide +kernel, by decide⟩
theorem okM_122 : okM m_122 := ⟨tg6 1 (by decide +kernel) rfl, tg1 1 (by decide +kernel) rfl, fun _ => ⟨tg5 239 (by decide +kernel) rfl, tg6 0 (by decide +kernel) rfl⟩, fun h => absurd h (by decide), fun h => absurd h (by decide), by decide +kernel, by decide +kernel, by decide⟩
theorem okM_123 : okM m_123 := ⟨tg6 8 (by decide +kernel) rfl, tg1 1 (by decide +kernel) rfl, fun _ => ⟨tg6 6 (by decide +kernel) rfl, tg6 7 (by decide +kernel) rfl⟩, fun h => absurd h (by decide), fun h => absurd h (by decide), by decide +kernel, by decide +kernel, by decide⟩
theorem okM_124 : okM m_124 := ⟨tg3 67 (by decide +kernel) rfl, tg1 1 (by decide +kernel) rfl, fun _ => ⟨tg3 65 (by decide +kernel) rfl, tg3 66 (by decide +kernel) rfl⟩, fun h => absurd h (by decide), fun h => absurd h (by decide), by decide +kernel, by decide +kernel, by decide⟩
theorem okM_125 : okM m_125 := ⟨tg6 162 (by decide +kernel) rfl, tg1 1 (by decide +kernel) rfl, fun _ => ⟨tg6 160 (by decide +kernel) rfl, tg6 161 (by decide +kernel) rfl⟩, fun h => absurd h (by decide), fun h => absurd h (by decide), by decide +kernel, by decide +kernel, by decide⟩
theorem okM_126 : okM m_126 := ⟨tg3 149 (by decide +kernel) rfl, tg1 1 (by decide +kernel) rfl, fun _ => ⟨tg3 148 (by decide +kernel) rfl, tgs 9 (by decide +kernel) rfl⟩, fun h => absurd h (by decide), fun h => absurd h (by decide), by decide +kernel, by decide +kernel, by decide⟩
theorem okM_127 : okM m_127 := ⟨tg6 23 (by decide +kernel) rfl, tg1 1 (by decide +kernel) rfl, fun _ => ⟨tg6 21 (by decide +kernel) rfl, tg6 22 (by decide +kernel) rfl⟩, fun h => absurd h (by decide), fun h => absurd h (by decide), by decide +kernel, by decide +kernel, by decide⟩
theorem okM_128 : okM m_128 := ⟨tg6 49 (by decide +kernel) rfl, tg1 1 (by decide +kernel) rfl, fun _ => ⟨tg6 47 (by decide +kernel) rfl, tg6 48 (by decide +kernel) rfl⟩, fun h => absurd h (by decide), fun h => absurd h (by decide), by decide +kernel, by decide +kernel, by decide⟩
theorem okM_129 : okM m_129 := ⟨tg6 29 (by decide +kernel) rfl, tg1 1 (by decide +kernel) rfl, fun _ => ⟨tg6 28 (by decide +kernel) rfl, tgs 43 (by decide +kernel) rfl⟩, fun h => absurd h (by decide), fun h => absurd h (by decide), by decide +kernel, by decide +kernel, by decide⟩
theorem okM_130 : okM m_130 := ⟨tg6 41 (by decide +kernel) rfl, tg1 1 (by decide +kernel) rfl, fun _ => ⟨tg6 40 (by decide +kernel) rfl, tgs 45 (by decide +kernel) rfl⟩, fun h => absurd h (by decide), fun h => absurd h (by decide), by decide +kernel, by decide +kernel, by decide⟩
theorem okM_131 : okM m_131 := ⟨tg6 33 (by decide +kernel) rfl, tg1 1 (by decide +kernel) rfl, fun _ => ⟨tg6 32 (by decide +kernel) rfl, tgs 44 (by decide +kernel) rfl⟩, fun h => absurd h (by decide), fun h => absurd h (by decide), by decide +kernel, by decide +kernel, by decide⟩
theorem okM_132 : okM m_132 := ⟨tg6 57 (by decide +kernel) rfl, tg1 1 (by decide +kernel) rfl, fun _ => ⟨tg6 55 (by decide +kernel) rfl, tg6 56 (by decide +kernel) rfl⟩, fun h => absurd h (by decide), fun h => absurd h (by decide), by decide +kernel, by decide +kernel, by decide⟩
theorem okM_133 : okM m_133 := ⟨tg6 90 (by decide +kernel) rfl, tg1 1 (by decide +kernel) rfl, fun _ => ⟨tg6 88 (by decide +kernel) rfl, tg6 89 (by decide +kernel) rfl⟩, fun h => absurd h (by decide), fun h => absurd h (by decide), by decide +kernel, by decide +kernel, by decide⟩
theorem okM_134 : okM m_134 := ⟨tg6 114 (by decide +kernel) rfl, tg1 1 (by decide +kernel) rfl, fun _ => ⟨tg6 112 (by decide +kernel) rfl, tg6 113 (by decide +kernel) rfl⟩, fun h => absurd h (by decide), fun h => absurd h (by decide), by decide +kernel, by decide +kernel, by decide⟩
theorem okM_135 : okM m_135 := ⟨tg3 133 (by decide +kernel) rfl, tg1 1 (by decide +kernel) rfl, fun _ => ⟨tg3 131 (by decide +kernel) rfl, tg3 132 (by decide +kernel) rfl⟩, fun h => absurd h (by decide), fun h => absurd h (by decide), by decide +kernel, by decide +kernel, by decide⟩
theorem okM_136 : okM m_136 := ⟨tg3 137 (by decide +kernel) rfl, tg1 1 (by decide +kernel) rfl, fun _ => ⟨tg3 136 (by decide +kernel) rfl, tgs 8 (by decide +kernel) rfl⟩, fun h => absurd h (by decide), fun h => absurd h (by decide), by decide +kernel, by decide +kernel, by decide⟩
theorem okM_137 : okM m_137 := ⟨tg6 121 (by decide +kernel) rfl, tg1 1 (by decide +kernel) rfl, fun _ => ⟨tg6 119 (by decide +kernel) rfl, tg6 120 (by decide +kernel) rfl⟩, fun h => absurd h (by decide), fun h => absurd h (by decide), by decide +kernel, by decide +kernel, by decide⟩
theorem okM_138 : okM m_138 := ⟨tg3 158 (by decide +kernel) rfl, tg1 1 (by decide +kernel) rfl, fun _ => ⟨tg3 156 (by decide +kernel) rfl, tg3 157 (by decide +kernel) rfl⟩, fun h => absurd h (by decide), fun h => absurd h (by decide), by decide +kernel, by decide +kernel, by decide⟩
theorem okM_139 : okM m_139 := ⟨tg3 162 (by decide +kernel) rfl, tg1 1 (by decide +kernel) rfl, fun _ => ⟨tg3 160 (by decide +kernel) rfl, tg3 161 (by decide +kernel) rfl⟩, fun h => absurd h (by decide), fun h => absurd h (by decide), by decide +kernel, by decide +kernel, by decide⟩
theorem okM_140 : okM m_140 := ⟨tg3 186 (by decide +kernel) rfl, tg1 1 (by decide +kernel) rfl, fun _ => ⟨tg3 184 (by decide +kernel) rfl, tg3 185 (by decide +kernel) rfl⟩, fun h => absurd h (by decide), fun h => absurd h (by decide), by decide +kernel, by decide +kernel, by decide⟩
theorem okM_141 : okM m_141 := ⟨tg3 166 (by decide +kernel) rfl, tg1 1 (by decide +kernel) rfl, fun _ => ⟨tg3 165 (by decide +kernel) rfl, tgs 10 (by decide +kernel) rfl⟩, fun h => absurd h (by decide), fun h => absurd h (by decide), by decide +kernel, by decide +kernel, by decide⟩
theorem okM_142 : okM m_142 := ⟨tg3 170 (by decide +kernel) rfl, tg1 1 (by decide +kernel) rfl, fun _ => ⟨tg3 169 (by decide +kernel) rfl, tgs 11 (by decide +kernel) rfl⟩, fun h => absurd h (by decide), fun h => absurd h (by decide), by decide +kernel, by decide +kernel, by decide⟩
theorem okM_143 : okM m_143 := ⟨tg3 174 (by decide +kernel) rfl, tg1 1 (by decide +kernel) rfl, fun _ => ⟨tg3 173 (by decide +kernel) rfl, tgs 12 (by decide +kernel) rfl⟩, fun h => absurd h (by decide), fun h => absurd h (by decide), by decide +kernel, by decide +kernel, by decide⟩
theorem okM_144 : okM m_144 := ⟨tg3 192 (by decide +kernel) rfl, tg1 1 (by decide +kernel) rfl, fun _ => ⟨tg3 191 (by decide +kernel) rfl, tgs 14 (by decide +kernel) rfl⟩, fun h => absurd h (by decide), fun h => absurd h (by decide), by decide +kernel, by decide +kernel, by decide⟩
theorem okM_145 : okM m_145 := ⟨tg6 128 (by decide +kernel) rfl, tg1 1 (by decide +kernel) rfl, fun _ => ⟨tg6 126 (by decide +kernel) rfl, tg6 127 (by decide +kernel) rfl⟩, fun h => absurd h (by decide), fun h => absurd h (by decide), by decide +kernel, by decide +kernel, by decide⟩
theorem okM_146 : okM m_146 := ⟨tg6 133 (by decide +kernel) rfl, tg1 1 (by decide +kernel) rfl, fun _ => ⟨tg6 132 (by decide +kernel) rfl, tgs 53 (by decide +kernel) rfl⟩, fun h => absurd h (by decide), fun h => absurd h (by decide), by decide +kernel, by decide +kernel, by decide⟩
theorem okM_147 : okM m_147 := ⟨tg6 137 (by decide +kernel) rfl, tg1 1 (by decide +kernel) rfl, fun _ => ⟨tg6 136 (by decide +kernel) rfl, tgs 54 (by decide +kernel) rfl⟩, fun h => absurd h (by decide), fun h => absurd h (by decide), by decide +kernel, by decide +kernel, by decide⟩
theorem okM_148 : okM m_148 := ⟨tg6 145 (by decide +kernel) rfl, tg1 1 (by decide +kernel) rfl, fun _ => ⟨tg6 144 (by decide +kernel) rfl, tgs 55 (by decide +kernel) rfl⟩, fun h => absurd h (by decide), fun h => absurd h (by decide), by decide +kernel, by decide +kernel, by decide⟩
theorem okM_149 : okM m_149 := ⟨tg6 152 (by decide +kernel) rfl, tg1 1 (by decide +kernel) rfl, fun _ => ⟨tg6 150 (by decide +kernel) rfl, tg6 151 (by decide +kernel) rfl⟩, fun h => absurd h (by decide), fun h => absurd h (by decide), by decide +kernel, by decide +kernel, by decide⟩
theorem okM_150 : okM m_150 := ⟨tg6 173 (by decide +kernel) rfl, tg1 1 (by decide +kernel) rfl, fun _ => ⟨tg6 171 (by decide +kernel) rfl, tg6 172 (by decide +kernel) rfl⟩, fun h => absurd h (by decide), fun h => absurd h (by decide), by decide +kernel, by decide +kernel, by decide⟩
theorem okM_151 : okM m_151 := ⟨tg3 205 (by decide +kernel) rfl, tg1 1 (by decide +kernel) rfl, fun _ => ⟨tg3 203 (by decide +kernel) rfl, tg3 204 (by decide +kernel) rfl⟩, fun h => absurd h (by decide), fun h => absurd h (by decide), by decide +kernel, by decide +kernel, by decide⟩
theorem okM_152 : okM m_152 := ⟨tg3 209 (by decide +kernel) rfl, tg1 1 (by decide +kernel) rfl, fun _ => ⟨tg3 207 (by decide +kernel) rfl, tg3 208 (by decide +kernel) rfl⟩, fun h => absurd h (by decide), fun h => absurd h (by decide), by decide +kernel, by decide +kernel, by decide⟩
theorem okM_153 : okM m_153 := ⟨tg3 213 (by decide +kernel) rfl, tg1 1 (by decide +kernel) rfl, fun _ => ⟨tg3 211 (by decide +kernel) rfl, tg3 212 (by decide +kernel) rfl⟩, fun h => absurd h (by decide), fun h => absurd h (by decide), by decide +kernel, by decide +kernel, by decide⟩
theorem okM_154 : okM m_154 := ⟨tg3 217 (by decide +kernel) rfl, tg1 1 (by decide +kernel) rfl, fun _ => ⟨tg3 215 (by decide +kernel) rfl, tg3 216 (by decide +kernel) rfl⟩, fun h => absurd h (by decide), fun h => absurd h (by decide), by decide +kernel, by decide +kernel, by decide⟩
theorem okM_155 : okM m_155 := ⟨tg3 231 (by decide +kernel) rfl, tg1 1 (by decide +kernel) rfl, fun _ => ⟨tg3 229 (by decide +kernel) rfl, tg3 230 (by decide +kernel) rfl⟩, fun h => absurd h (by decide), fun h => absurd h (by decide), by decide +kernel, by decide +kernel, by decide⟩
theorem okM_156 : okM m_156 := ⟨tg6 178 (by decide +kernel) rfl, tg1 13 (by decide +kernel) rfl, fun h => absurd h (by decide), fun h => absurd h (by decide), fun _ => ⟨tg6 177 (by decide +kernel) rfl, rfl, rfl⟩, by decide +kernel, by decide +kernel, by decide⟩
theorem okM_157 : okM m_157 := ⟨tg7 173 (by decide +kernel) rfl, tg1 13 (by decide +kernel) rfl, fun _ => ⟨tg7 171 (by decide +kernel) rfl, tg7 172 (by decide +kernel) rfl⟩, fun h => absurd h (by decide), fun h => absurd h (by decide), by decide +kernel, by decide +kernel, by decide⟩
theorem okM_158 : okM m_158 := ⟨tg7 189 (by decide +kernel) rfl, tg1 13 (by decide +kernel) rfl, fun _ => ⟨tg7 188 (by decide +kernel) rfl, tgs 57 (by decide +kernel) rfl⟩, fun h => absurd h (by decide), fun h => absurd h (by decide), by decide +kernel, by decide +kernel, by decide⟩
theorem okM_159 : okM m_159 := ⟨tg8 84 (by decide +kernel) rfl, tg1 13 (by decide +kernel) rfl, fun h => absurd h (by decide), fun _ => tg8 83 (by decide +kernel) rfl, fun h => absurd h (by decide), by decide +kernel, by decide +kernel, by decide⟩
theorem okM_160 : okM m_160 := ⟨tg9 96 (by decide +kernel) rfl, tg1 13 (by decide +kernel) rfl, fun h => absurd h (by decide), fun _ => tg9 95 (by decide +kernel) rfl, fun h => absurd h (by decide), by decide +kernel, by decide +kernel, by decide⟩
theorem okM_161 : okM m_161 := ⟨tg8 64 (by decide +kernel) rfl, tg1 13 (by decide +kernel) rfl, fun _ => ⟨tg8 63 (by decide +kernel) rfl, tgs 81 (by decide +kernel) rfl⟩, fun h => absurd h (by decide), fun h => absurd h (by decide), by decide +kernel, by decide +kernel, by decide⟩
theorem okM_162 : okM m_162 := ⟨tg9 21 (by decide +kernel) rfl, tg1 13 (by decide +kernel) rfl, fun h => absurd h (by decide), fun _ => tg9 20 (by decide +kernel) rfl, fun h => absurd h (by decide), by decide +kernel, by decide +kernel, by decide⟩
theorem okM_163 : okM m_163 := ⟨tg7 177 (by decide +kernel) rfl, tg1 13 (by decide +kernel) rfl, fun _ => ⟨tg7 175 (by decide +kernel) rfl, tg7 176 (by decide +kernel) rfl⟩, fun h => absurd h (by decide), fun h => absurd h (by decide), by decide +kernel, by decide +kernel, by decide⟩
theorem okM_164 : okM m_164 := ⟨tg7 181 (by decide +kernel) rfl, tg1 13 (by decide +kernel) rfl, fun _ => ⟨tg7 180 (by decide +kernel) rfl, tgs 56 (by decide +kernel) rfl⟩, fun h => absurd h (by decide), fun h => absurd h (by decide), by decide +kernel, by decide +kernel, by decide⟩
theorem okM_165 : okM m_165 := ⟨tg7 197 (by decide +kernel) rfl, tg1 13 (by decide +kernel) rfl, fun _ => ⟨tg7 196 (by decide +kernel) rfl, tgs 59 (by decide +kernel) rfl⟩, fun h => absurd h (by decide), fun h => absurd h (by decide), by decide +kernel, by decide +kernel, by decide⟩
theorem okM_166 : okM m_166 := ⟨tg7 200 (by decide +kernel) rfl, tg1 13 (by decide +kernel) rfl, fun h => absurd h (by decide), fun _ => tg7 199 (by decide +kernel) rfl, fun h => absurd h (by decide), by decide +kernel, by decide +kernel, by decide⟩
theorem okM_167 : okM m_167 := ⟨tg7 203 (by decide +kernel) rfl, tg1 13 (by decide +kernel) rfl, fun h => absurd h (by decide), fun _ => tg7 202 (by decide +kernel) rfl, fun h => absurd h (by decide), by decide +kernel, by decide +kernel, by decide⟩
theorem okM_168 : okM m_168 := ⟨tg7 193 (by decide +kernel) rfl, tg1 13 (by decide +kernel) rfl, fun _ => ⟨tg7 192 (by decide +kernel) rfl, tgs 58 (by decide +kernel) rfl⟩, fun h => absurd h (by decide), fun h => absurd h (by decide), by decide +kernel, by decide +kernel, by decide⟩
theorem okM_169 : okM m_169 := ⟨tg7 221 (by decide +kernel) rfl, tg1 13 (by decide +kernel) rfl, fun h => absurd h (by decide), fun _ => tg7 220 (by decide +kernel) rfl, fun h => absurd h (by decide), by decide +kernel, by decide +kernel, by decide⟩
theorem okM_170 : okM m_170 := ⟨tg7 218 (by decide +kernel) rfl, tg1 13 (by decide +kernel) rfl, fun h => absurd h (by decide), fun _ => tg7 217 (by decide +kernel) rfl, fun h => absurd h (by decide), by decide +kernel, by decide +kernel, by decide⟩
theorem okM_171 : okM m_171 := ⟨tg7 215 (by decide +kernel) rfl, tg1 13 (by decide +kernel) rfl, fun _ => ⟨tg7 214 (by decide +kernel) rfl, tgs 62 (by decide +kernel) rfl⟩, fun h => absurd h (by decide), fun h => absurd h (by decide), by decide +kernel, by decide +kernel, by decide⟩
theorem okM_172 : okM m_172 := ⟨tg7 226 (by decide +kernel) rfl, tg1 13 (by decide +kernel) rfl, fun _ => ⟨tg7 225 (by decide +kernel) rfl, tgs 63 (by decide +kernel) rfl⟩, fun h => absurd h (by decide), fun h => absurd h (by decide), by decide +kernel, by decide +kernel, by decide⟩
theorem okM_173 : okM m_173 := ⟨tg7 207 (by decide +kernel) rfl, tg1 13 (by decide +kernel) rfl, fun _ => ⟨tg7 206 (by decide +kernel) rfl, tgs 60 (by decide +kernel) rfl⟩, fun h => absurd h (by decide), fun h => absurd h (by decide), by decide +kernel, by decide +kernel, by decide⟩
theorem okM_174 : okM m_174 := ⟨tg8 22 (by decide +kernel) rfl, tg1 13 (by decide +kernel) rfl, fun _ => ⟨tg8 21 (by decide +kernel) rfl, tgs 72 (by decide +kernel) rfl⟩, fun h => absurd h (by decide), fun h => absurd h (by decide), by decide +kernel, by decide +kernel, by decide⟩
theorem okM_175 : okM m_175 := ⟨tg8 60 (by decide +kernel) rfl, tg1 13 (by decide +kernel) rfl, fun _ => ⟨tg8 59 (by decide +kernel) rfl, tgs 80 (by decide +kernel) rfl⟩, fun h => absurd h (by decide), fun h => absurd h (by decide), by decide +kernel, by decide +kernel, by decide⟩
theorem okM_176 : okM m_176 := ⟨tg7 230 (by decide +kernel) rfl, tg1 13 (by decide +kernel) rfl, fun _ => ⟨tg7 229 (by decide +kernel) rfl, tgs 64 (by decide +kernel) rfl⟩, fun h => absurd h (by decide), fun h => absurd h (by decide), by decide +kernel, by decide +kernel, by decide⟩
theorem okM_177 : okM m_177 := ⟨tg8 2 (by decide +kernel) rfl, tg1 13 (by decide +kernel) rfl, fun _ => ⟨tg8 1 (by decide +kernel) rfl, tgs 67 (by decide +kernel) rfl⟩, fun h => absurd h (by decide), fun h => absurd h (by decide), by decide +kernel, by decide +kernel, by decide⟩
theorem okM_178 : okM m_178 := ⟨tg7 238 (by decide +kernel) rfl, tg1 13 (by decide +kernel) rfl, fun _ => ⟨tg7 237 (by decide +kernel) rfl, tgs 66 (by decide +kernel) rfl⟩, fun h => absurd h (by decide), fun h => absurd h (by decide), by decide +kernel, by decide +kernel, by decide⟩
theorem okM_179 : okM m_179 := ⟨tg8 38 (by decide +kernel) rfl, tg1 13 (by decide +kernel) rfl, fun _ => ⟨tg8 37 (by decide +kernel) rfl, tgs 76 (by decide +kernel) rfl⟩, fun h => absurd h (by decide), fun h => absurd h (by decide), by decide +kernel, by decide +kernel, by decide⟩
theorem okM_180 : okM m_180 := ⟨tg8 45 (by decide +kernel) rfl, tg1 13 (by decide +kernel) rfl, fun h => absurd h (by decide), fun _ => tg8 44 (by decide +kernel) rfl, fun h => absurd h (by decide), by decide +kernel, by decide +kernel, by decide⟩
theorem okM_181 : okM m_181 := ⟨tg8 48 (by decide +kernel) rfl, tg1 13 (by decide +kernel) rfl, fun h => absurd h (by decide), fun _ => tg8 47 (by decide +kernel) rfl, fun h => absurd h (by decide), by decide +kernel, by decide +kernel, by decide⟩
theorem okM_182 : okM m_182 := ⟨tg8 42 (by decide +kernel) rfl, tg1 13 (by decide +kernel) rfl, fun _ => ⟨tg8 41 (by decide +kernel) rfl, tgs 77 (by decide +kernel) rfl⟩, fun h => absurd h (by decide), fun h => absurd h (by decide), by decide +kernel, by decide +kernel, by decide⟩
theorem okM_183 : okM m_183 := ⟨tg8 30 (by decide +kernel) rfl, tg1 13 (by decide +kernel) rfl, fun _ => ⟨tg8 29 (by decide +kernel) rfl, tgs 74 (by decide +kernel) rfl⟩, fun h => absurd h (by decide), fun h => absurd h (by decide), by decide +kernel, by decide +kernel, by decide⟩
theorem okM_184 : okM m_184 := ⟨tg8 34 (by decide +kernel) rfl, tg1 13 (by decide +kernel) rfl, fun _ => ⟨tg8 33 (by decide +kernel) rfl, tgs 75 (by decide +kernel) rfl⟩, fun h => absurd h (by decide), fun h => absurd h (by decide), by decide +kernel, by decide +kernel, by decide⟩
theorem okM_185 : okM m_185 := ⟨tg8 18 (by decide +kernel) rfl, tg1 13 (by decide +kernel) rfl, fun _ => ⟨tg8 17 (by decide +kernel) rfl, tgs 71 (by decide +kernel) rfl⟩, fun h => absurd h (by decide), fun h => absurd h (by decide), by decide +kernel, by decide +kernel, by decide⟩
theorem okM_186 : okM m_186 := ⟨tg8 26 (by decide +kernel) rfl, tg1 13 (by decide +kernel) rfl, fun _ => ⟨tg8 25 (by decide +kernel) rfl, tgs 73 (by decide +kernel) rfl⟩, fun h => absurd h (by decide), fun h => absurd h (by decide), by decide +kernel, by decide +kernel, by decide⟩
theorem okM_187 : okM m_187 := ⟨tg8 52 (by decide +kernel) rfl, tg1 13 (by decide +kernel) rfl, fun _ => ⟨tg8 51 (by decide +kernel) rfl, tgs 78 (by decide +kernel) rfl⟩, fun h => absurd h (by decide), fun h => absurd h (by decide), by decide +kernel, by decide +kernel, by decide⟩
theorem okM_188 : okM m_188 := ⟨tg8 56 (by decide +kernel) rfl, tg1 13 (by decide +kernel) rfl, fun _ => ⟨tg8 55 (by decide +kernel) rfl, tgs 79 (by decide +kernel) rfl⟩, fun h => absurd h (by decide), fun h => absurd h (by decide), by decide +kernel, by decide +kernel, by decide⟩
theorem okM_189 : okM m_189 := ⟨tg8 14 (by decide +kernel) rfl, tg1 13 (by decide +kernel) rfl, fun _ => ⟨tg8 13 (by decide +kernel) rfl, tgs 70 (by decide +kernel) rfl⟩, fun h => absurd h (by decide), fun h => absurd h (by decide), by decide +kernel, by decide +kernel, by decide⟩
theorem okM_190 : okM m_190 := ⟨tg7 234 (by decide +kernel) rfl, tg1 13 (by decide +kernel) rfl, fun _ => ⟨tg7 233 (by decide +kernel) rfl, tgs 65 (by decide +kernel) rfl⟩, fun h => absurd h (by decide), fun h => absurd h (by decide), by decide +kernel, by decide +kernel, by decide⟩
theorem okM_191 : okM m_191 := ⟨tg8 6 (by decide +kernel) rfl, tg1 13 (by decide +kernel) rfl, fun _ => ⟨tg8 5 (by decide +kernel) rfl, tgs 68 (by decide +kernel) rfl⟩, fun h => absurd h (by decide), fun h => absurd h (by decide), by decide +kernel, by decide +kernel, by decide⟩
theorem okM_192 : okM m_192 := ⟨tg8 10 (by decide +kernel) rfl, tg1 13 (by decide +kernel) rfl, fun _ => ⟨tg8 9 (by decide +kernel) rfl, tgs 69 (by decide +kernel) rfl⟩, fun h => absurd h (by decide), fun h => absurd h (by decide), by decide +kernel, by decide +kernel, by decide⟩
theorem okM_193 : okM m_193 := ⟨tg7 211 (by decide +kernel) rfl, tg1 13 (by decide +kernel) rfl, fun _ => ⟨tg7 210 (by decide +kernel) rfl, tgs 61 (by decide +kernel) rfl⟩, fun h => absurd h (by decide), fun h => absurd h (by decide), by decide +kernel, by decide +kernel, by decide⟩
theorem okM_194 : okM m_194 := ⟨tg7 185 (by decide +kernel) rfl, tg1 13 (by decide +kernel) rfl, fun _ => ⟨tg7 183 (by decide +kernel) rfl, tg7 184 (by decide +kernel) rfl⟩, fun h => absurd h (by decide), fun h => absurd h (by decide), by decide +kernel, by decide +kernel, by decide⟩
theorem okM_195 : okM m_195 := ⟨tg8 73 (by decide +kernel) rfl, tg1 13 (by decide +kernel) rfl, fun _ => ⟨tg8 71 (by decide +kernel) rfl, tg8 72 (by decide +kernel) rfl⟩, fun h => absurd h (by decide), fun h => absurd h (by decide), by decide +kernel, by decide +kernel, by decide⟩
theorem okM_196 : okM m_196 := ⟨tg8 187 (by decide +kernel) rfl, tg1 13 (by decide +kernel) rfl, fun _ => ⟨tg8 186 (by decide +kernel) rfl, tgs 100 (by decide +kernel) rfl⟩, fun h => absurd h (by decide), fun h => absurd h (by decide), by decide +kernel, by decide +kernel, by decide⟩
theorem okM_197 : okM m_197 := ⟨tg8 191 (by decide +kernel) rfl, tg1 13 (by decide +kernel) rfl, fun _ => ⟨tg8 190 (by decide +kernel) rfl, tgs 101 (by decide +kernel) rfl⟩, fun h => absurd h (by decide), fun h => absurd h (by decide), by decide +kernel, by decide +kernel, by decide⟩
theorem okM_198 : okM m_198 := ⟨tg8 77 (by decide +kernel) rfl, tg1 13 (by decide +kernel) rfl, fun _ => ⟨tg8 75 (by decide +kernel) rfl, tg8 76 (by decide +kernel) rfl⟩, fun h => absurd h (by decide), fun h => absurd h (by decide), by decide +kernel, by decide +kernel, by decide⟩
theorem okM_199 : okM m_199 := ⟨tg8 68 (by decide +kernel) rfl, tg1 13 (by decide +kernel) rfl, fun _ => ⟨tg8 67 (by decide +kernel) rfl, tgs 82 (by decide +kernel) rfl⟩, fun h => absurd h (by decide), fun h => absurd h (by decide), by decide +kernel, by decide +kernel, by decide⟩
theorem okM_200 : okM m_200 := ⟨tg8 107 (by decide +kernel) rfl, tg1 13 (by decide +kernel) rfl, fun h => absurd h (by decide), fun _ => tg8 106 (by decide +kernel) rfl, fun h => absurd h (by decide), by decide +kernel, by decide +kernel, by decide⟩
theorem okM_201 : okM m_201 := ⟨tg8 104 (by decide +kernel) rfl, tg1 13 (by decide +kernel) rfl, fun _ => ⟨tg8 103 (by decide +kernel) rfl, tgs 87 (by decide +kernel) rfl⟩, fun h => absurd h (by decide), fun h => absurd h (by decide), by decide +kernel, by decide +kernel, by decide⟩
theorem okM_202 : okM m_202 := ⟨tg8 96 (by decide +kernel) rfl, tg1 13 (by decide +kernel) rfl, fun _ => ⟨tg8 95 (by decide +kernel) rfl, tgs 85 (by decide +kernel) rfl⟩, fun h => absurd h (by decide), fun h => absurd h (by decide), by decide +kernel, by decide +kernel, by decide⟩
theorem okM_203 : okM m_203 := ⟨tg8 100 (by decide +kernel) rfl, tg1 13 (by decide +kernel) rfl, fun _ => ⟨tg8 99 (by decide +kernel) rfl, tgs 86 (by decide +kernel) rfl⟩, fun h => absurd h (by decide), fun h => absurd h (by decide), by decide +kernel, by decide +kernel, by decide⟩
theorem okM_204 : okM m_204 := ⟨tg8 111 (by decide +kernel) rfl, tg1 13 (by decide +kernel) rfl, fun _ => ⟨tg8 110 (by decide +kernel) rfl, tgs 88 (by decide +kernel) rfl⟩, fun h => absurd h (by decide), fun h => absurd h (by decide), by decide +kernel, by decide +kernel, by decide⟩
theorem okM_205 : okM m_205 := ⟨tg8 92 (by decide +kernel) rfl, tg1 13 (by decide +kernel) rfl, fun _ => ⟨tg8 91 (by decide +kernel) rfl, tgs 84 (by decide +kernel) rfl⟩, fun h => absurd h (by decide), fun h => absurd h (by decide), by decide +kernel, by decide +kernel, by decide⟩
theorem okM_206 : okM m_206 := ⟨tg8 163 (by decide +kernel) rfl, tg1 13 (by decide +kernel) rfl, fun _ => ⟨tg8 162 (by decide +kernel) rfl, tgs 98 (by decide +kernel) rfl⟩, fun h => absurd h (by decide), fun h => absurd h (by decide), by decide +kernel, by decide +kernel, by decide⟩
theorem okM_207 : okM m_207 := ⟨tg8 123 (by decide +kernel) rfl, tg1 13 (by decide +kernel) rfl, fun _ => ⟨tg8 122 (by decide +kernel) rfl, tgs 91 (by decide +kernel) rfl⟩, fun h => absurd h (by decide), fun h => absurd h (by decide), by decide +kernel, by decide +kernel, by decide⟩
theorem okM_208 : okM m_208 := ⟨tg8 127 (by decide +kernel) rfl, tg1 13 (by decide +kernel) rfl, fun _ => ⟨tg8 126 (by decide +kernel) rfl, tgs 92 (by decide +kernel) rfl⟩, fun h => absurd h (by decide), fun h => absurd h (by decide), by decide +kernel, by decide +kernel, by decide⟩
theorem okM_209 : okM m_209 := ⟨tg8 119 (by decide +kernel) rfl, tg1 13 (by decide +kernel) rfl, fun _ => ⟨tg8 118 (by decide +kernel) rfl, tgs 90 (by decide +kernel) rfl⟩, fun h => absurd h (by decide), fun h => absurd h (by decide), by decide +kernel, by decide +kernel, by decide⟩
theorem okM_210 : okM m_210 := ⟨tg8 131 (by decide +kernel) rfl, tg1 13 (by decide +kernel) rfl, fun _ => ⟨tg8 130 (by decide +kernel) rfl, tgs 93 (by decide +kernel) rfl⟩, fun h => absurd h (by decide), fun h => absurd h (by decide), by decide +kernel, by decide +kernel, by decide⟩
theorem okM_211 : okM m_211 := ⟨tg8 115 (by decide +kernel) rfl, tg1 13 (by decide +kernel) rfl, fun _ => ⟨tg8 114 (by decide +kernel) rfl, tgs 89 (by decide +kernel) rfl⟩, fun h => absurd h (by decide), fun h => absurd h (by decide), by decide +kernel, by decide +kernel, by decide⟩
theorem okM_212 : okM m_212 := ⟨tg8 238 (by decide +kernel) rfl, tg1 13 (by decide +kernel) rfl, fun _ => ⟨tg8 237 (by decide +kernel) rfl, tgs 103 (by decide +kernel) rfl⟩, fun h => absurd h (by decide), fun h => absurd h (by decide), by decide +kernel, by decide +kernel, by decide⟩
theorem okM_213 : okM m_213 := ⟨tg8 88 (by decide +kernel) rfl, tg1 13 (by decide +kernel) rfl, fun _ => ⟨tg8 87 (by decide +kernel) rfl, tgs 83 (by decide +kernel) rfl⟩, fun h => absurd h (by decide), fun h => absurd h (by decide), by decide +kernel, by decide +kernel, by decide⟩
theorem okM_214 : okM m_214 := ⟨tg8 81 (by decide +kernel) rfl, tg1 13 (by decide +kernel) rfl, fun _ => ⟨tg8 79 (by decide +kernel) rfl, tg8 80 (by decide +kernel) rfl⟩, fun h => absurd h (by decide), fun h => absurd h (by decide), by decide +kernel, by decide +kernel, by decide⟩
theorem okM_215 : okM m_215 := ⟨tg8 139 (by decide +kernel) rfl, tg1 13 (by decide +kernel) rfl, fun _ => ⟨tg8 138 (by decide +kernel) rfl, tgs 94 (by decide +kernel) rfl⟩, fun h => absurd h (by decide), fun h => absurd h (by decide), by decide +kernel, by decide +kernel, by decide⟩
theorem okM_216 : okM m_216 := ⟨tg8 155 (by decide +kernel) rfl, tg1 13 (by decide +kernel) rfl, fun _ => ⟨tg8 154 (by decide +kernel) rfl, tgs 96 (by decide +kernel) rfl⟩, fun h => absurd h (by decide), fun h => absurd h (by decide), by decide +kernel, by decide +kernel, by decide⟩
theorem okM_217 : okM m_217 := ⟨tg8 175 (by decide +kernel) rfl, tg1 13 (by decide +kernel) rfl, fun _ => ⟨tg8 174 (by decide +kernel) rfl, tgs 99 (by decide +kernel) rfl⟩, fun h => absurd h (by decide), fun h => absurd h (by decide), by decide +kernel, by decide +kernel, by decide⟩
theorem okM_218 : okM m_218 := ⟨tg8 143 (by decide +kernel) rfl, tg1 13 (by decide +kernel) rfl, fun _ => ⟨tg8 142 (by decide +kernel) rfl, tgs 95 (by decide +kernel) rfl⟩, fun h => absurd h (by decide), fun h => absurd h (by decide), by decide +kernel, by decide +kernel, by decide⟩
theorem okM_219 : okM m_219 := ⟨tg8 135 (by decide +kernel) rfl, tg1 13 (by decide +kernel) rfl, fun _ => ⟨tg8 133 (by decide +kernel) rfl, tg8 134 (by decide +kernel) rfl⟩, fun h => absurd h (by decide), fun h => absurd h (by decide), by decide +kernel, by decide +kernel, by decide⟩
theorem okM_220 : okM m_220 := ⟨tg8 147 (by decide +kernel) rfl, tg1 13 (by decide +kernel) rfl, fun _ => ⟨tg8 145 (by decide +kernel) rfl, tg8 146 (by decide +kernel) rfl⟩, fun h => absurd h (by decide), fun h => absurd h (by decide), by decide +kernel, by decide +kernel, by decide⟩
theorem okM_221 : okM m_221 := ⟨tg8 159 (by decide +kernel) rfl, tg1 13 (by decide +kernel) rfl, fun _ => ⟨tg8 158 (by decide +kernel) rfl, tgs 97 (by decide +kernel) rfl⟩, fun h => absurd h (by decide), fun h => absurd h (by decide), by decide +kernel, by decide +kernel, by decide⟩
theorem okM_222 : okM m_222 := ⟨tg8 151 (by decide +kernel) rfl, tg1 13 (by decide +kernel) rfl, fun _ => ⟨tg8 149 (by decide +kernel) rfl, tg8 150 (by decide +kernel) rfl⟩, fun h => absurd h (by decide), fun h => absurd h (by decide), by decide +kernel, by decide +kernel, by decide⟩
theorem okM_223 : okM m_223 := ⟨tg8 167 (by decide +kernel) rfl, tg1 13 (by decide +kernel) rfl, fun _ => ⟨tg8 165 (by decide +kernel) rfl, tg8 166 (by decide +kernel) rfl⟩, fun h => absurd h (by decide), fun h => absurd h (by decide), by decide +kernel, by decide +kernel, by decide⟩
theorem okM_224 : okM m_224 := ⟨tg8 171 (by decide +kernel) rfl, tg1 13 (by decide +kernel) rfl, fun _ => ⟨tg8 169 (by decide +kernel) rfl, tg8 170 (by decide +kernel) rfl⟩, fun h => absurd h (by decide), fun h => absurd h (by decide), by decide +kernel, by decide +kernel, by decide⟩
theorem okM_225 : okM m_225 := ⟨tg8 179 (by decide +kernel) rfl, tg1 13 (by decide +kernel) rfl, fun _ => ⟨tg8 177 (by decide +kernel) rfl, tg8 178 (by decide +kernel) rfl⟩, fun h => absurd h (by decide), fun h => absurd h (by decide), by decide +kernel, by decide +kernel, by decide⟩
theorem okM_226 : okM m_226 := ⟨tg8 183 (by decide +kernel) rfl, tg1 13 (by decide +kernel) rfl, fun _ => ⟨tg8 181 (by decide +kernel) rfl, tg8 182 (by decide +kernel) rfl⟩, fun h => absurd h (by decide), fun h => absurd h (by decide), by decide +kernel, by decide +kernel, by decide⟩
theorem okM_227 : okM m_227 := ⟨tg8 195 (by decide +kernel) rfl, tg1 13 (by decide +kernel) rfl, fun _ => ⟨tg8 193 (by decide +kernel) rfl, tg8 194 (by decide +kernel) rfl⟩, fun h => absurd h (by decide), fun h => absurd h (by decide), by decide +kernel, by decide +kernel, by decide⟩
theorem okM_228 : okM m_228 := ⟨tg8 199 (by decide +kernel) rfl, tg1 13 (by decide +kernel) rfl, fun _ => ⟨tg8 197 (by decide +kernel) rfl, tg8 198 (by decide +kernel) rfl⟩, fun h => absurd h (by decide), fun h => absurd h (by decide), by decide +kernel, by decide +kernel, by decide⟩
theorem okM_229 : okM m_229 := ⟨tg8 203 (by decide +kernel) rfl, tg1 13 (by decide +kernel) rfl, fun _ => ⟨tg8 201 (by decide +kernel) rfl, tg8 202 (by decide +kernel) rfl⟩, fun h => absurd h (by decide), fun h => absurd h (by decide), by decide +kernel, by decide +kernel, by decide⟩
theorem okM_230 : okM m_230 := ⟨tg8 207 (by decide +kernel) rfl, tg1 13 (by decide +kernel) rfl, fun _ => ⟨tg8 205 (by decide +kernel) rfl, tg8 206 (by decide +kernel) rfl⟩, fun h => absurd h (by decide), fun h => absurd h (by decide), by decide +kernel, by decide +kernel, by decide⟩
theorem okM_231 : okM m_231 := ⟨tg8 211 (by decide +kernel) rfl, tg1 13 (by decide +kernel) rfl, fun _ => ⟨tg8 209 (by decide +kernel) rfl, tg8 210 (by decide +kernel) rfl⟩, fun h => absurd h (by decide), fun h => absurd h (by decide), by decide +kernel, by decide +kernel, by decide⟩
theorem okM_232 : okM m_232 := ⟨tg8 218 (by decide +kernel) rfl, tg1 13 (by decide +kernel) rfl, fun h => absurd h (by decide), fun _ => tg8 217 (by decide +kernel) rfl, fun h => absurd h (by decide), by decide +kernel, by decide +kernel, by decide⟩
theorem okM_233 : okM m_233 := ⟨tg8 215 (by decide +kernel) rfl, tg1 13 (by decide +kernel) rfl, fun _ => ⟨tg8 213 (by decide +kernel) rfl, tg8 214 (by decide +kernel) rfl⟩, fun h => absurd h (by decide), fun h => absurd h (by decide), by decide +kernel, by decide +kernel, by decide⟩
theorem okM_234 : okM m_234 := ⟨tg8 226 (by decide +kernel) rfl, tg1 13 (by decide +kernel) rfl, fun _ => ⟨tg8 225 (by decide +kernel) rfl, tgs 102 (by decide +kernel) rfl⟩, fun h => absurd h (by decide), fun h => absurd h (by decide), by decide +kernel, by decide +kernel, by decide⟩
theorem okM_235 : okM m_235 := ⟨tg8 222 (by decide +kernel) rfl, tg1 13 (by decide +kernel) rfl, fun _ => ⟨tg8 220 (by decide +kernel) rfl, tg8 221 (by decide +kernel) rfl⟩, fun h => absurd h (by decide), fun h => absurd h (by decide), by decide +kernel, by decide +kernel, by decide⟩
theorem okM_236 : okM m_236 := ⟨tg8 230 (by decide +kernel) rfl, tg1 13 (by decide +kernel) rfl, fun _ => ⟨tg8 228 (by decide +kernel) rfl, tg8 229 (by decide +kernel) rfl⟩, fun h => absurd h (by decide), fun h => absurd h (by decide), by decide +kernel, by decide +kernel, by decide⟩
theorem okM_237 : okM m_237 := ⟨tg8 234 (by decide +kernel) rfl, tg1 13 (by decide +kernel) rfl, fun _ => ⟨tg8 232 (by decide +kernel) rfl, tg8 233 (by decide +kernel) rfl⟩, fun h => absurd h (by decide), fun h => absurd h (by decide), by decide +kernel, by decide +kernel, by decide⟩
theorem okM_238 : okM m_238 := ⟨tg9 2 (by decide +kernel) rfl, tg1 13 (by decide +kernel) rfl, fun _ => ⟨tg9 0 (by decide +kernel) rfl, tg9 1 (by decide +kernel) rfl⟩, fun h => absurd h (by decide), fun h => absurd h (by decide), by decide +kernel, by decide +kernel, by decide⟩
theorem okM_239 : okM m_239 := ⟨tg9 10 (by decide +kernel) rfl, tg1 13 (by decide +kernel) rfl, fun _ => ⟨tg9 9 (by decide +kernel) rfl, tgs 104 (by decide +kernel) rfl⟩, fun h => absurd h (by decide), fun h => absurd h (by decide), by decide +kernel, by decide +kernel, by decide⟩
theorem okM_240 : okM m_240 := ⟨tg9 6 (by decide +kernel) rfl, tg1 13 (by decide +kernel) rfl, fun _ => ⟨tg9 4 (by decide +kernel) rfl, tg9 5 (by decide +kernel) rfl⟩, fun h => absurd h (by decide), fun h => absurd h (by decide), by decide +kernel, by decide +kernel, by decide⟩
theorem okM_241 : okM m_241 := ⟨tg9 14 (by decide +kernel) rfl, tg1 13 (by decide +kernel) rfl, fun _ => ⟨tg9 12 (by decide +kernel) rfl, tg9 13 (by decide +kernel) rfl⟩, fun h => absurd h (by decide), fun h => absurd h (by decide), by decide +kernel, by decide +kernel, by decide⟩
theorem okM_242 : okM m_242 := ⟨tg9 18 (by decide +kernel) rfl, tg1 13 (by decide +kernel) rfl, fun _ => ⟨tg9 16 (by decide +kernel) rfl, tg9 17 (by decide +kernel) rfl⟩, fun h => absurd h (by decide), fun h => absurd h (by decide), by decide +kernel, by decide +kernel, by decide⟩
theorem okM_243 : okM m_243 := ⟨tg9 33 (by decide +kernel) rfl, tg1 13 (by decide +kernel) rfl, fun _ => ⟨tg9 32 (by decide +kernel) rfl, tgs 106 (by decide +kernel) rfl⟩, fun h => absurd h (by decide), fun h => absurd h (by decide), by decide +kernel, by decide +kernel, by decide⟩
theorem okM_244 : okM m_244 := ⟨tg9 37 (by decide +kernel) rfl, tg1 13 (by decide +kernel) rfl, fun _ => ⟨tg9 36 (by decide +kernel) rfl, tgs 107 (by decide +kernel) rfl⟩, fun h => absurd h (by decide), fun h => absurd h (by decide), by decide +kernel, by decide +kernel, by decide⟩
theorem okM_245 : okM m_245 := ⟨tg9 29 (by decide +kernel) rfl, tg1 13 (by decide +kernel) rfl, fun _ => ⟨tg9 28 (by decide +kernel) rfl, tgs 105 (by decide +kernel) rfl⟩, fun h => absurd h (by decide), fun h => absurd h (by decide), by decide +kernel, by decide +kernel, by decide⟩
theorem okM_246 : okM m_246 := ⟨tg9 25 (by decide +kernel) rfl, tg1 13 (by decide +kernel) rfl, fun _ => ⟨tg9 23 (by decide +kernel) rfl, tg9 24 (by decide +kernel) rfl⟩, fun h => absurd h (by decide), fun h => absurd h (by decide), by decide +kernel, by decide +kernel, by decide⟩
theorem okM_247 : okM m_247 := ⟨tg9 45 (by decide +kernel) rfl, tg1 13 (by decide +kernel) rfl, fun _ => ⟨tg9 44 (by decide +kernel) rfl, tgs 108 (by decide +kernel) rfl⟩, fun h => absurd h (by decide), fun h => absurd h (by decide), by decide +kernel, by decide +kernel, by decide⟩
theorem okM_248 : okM m_248 := ⟨tg9 41 (by decide +kernel) rfl, tg1 13 (by decide +kernel) rfl, fun _ => ⟨tg9 39 (by decide +kernel) rfl, tg9 40 (by decide +kernel) rfl⟩, fun h => absurd h (by decide), fun h => absurd h (by decide), by decide +kernel, by decide +kernel, by decide⟩
theorem okM_249 : okM m_249 := ⟨tg9 49 (by decide +kernel) rfl, tg1 13 (by decide +kernel) rfl, fun _ => ⟨tg9 47 (by decide +kernel) rfl, tg9 48 (by decide +kernel) rfl⟩, fun h => absurd h (by decide), fun h => absurd h (by decide), by decide +kernel, by decide +kernel, by decide⟩
theorem okM_250 : okM m_250 := ⟨tg9 53 (by decide +kernel) rfl, tg1 13 (by decide +kernel) rfl, fun _ => ⟨tg9 51 (by decide +kernel) rfl, tg9 52 (by decide +kernel) rfl⟩, fun h => absurd h (by decide), fun h => absurd h (by decide), by decide +kernel, by decide +kernel, by decide⟩
theorem okM_251 : okM m_251 := ⟨tg9 57 (by decide +kernel) rfl, tg1 13 (by decide +kernel) rfl, fun _ => ⟨tg9 55 (by decide +kernel) rfl, tg9 56 (by decide +kernel) rfl⟩, fun h => absurd h (by decide), fun h => absurd h (by decide), by decide +kernel, by decide +kernel, by decide⟩
theorem okM_252 : okM m_252 := ⟨tg9 65 (by decide +kernel) rfl, tg1 13 (by decide +kernel) rfl, fun _ => ⟨tg9 64 (by decide +kernel) rfl, tgs 109 (by decide +kernel) rfl⟩, fun h => absurd h (by decide), fun h => absurd h (by decide), by decide +kernel, by decide +kernel, by decide⟩
theorem okM_253 : okM m_253 := ⟨tg9 61 (by decide +kernel) rfl, tg1 13 (by decide +kernel) rfl, fun _ => ⟨tg9 59 (by decide +kernel) rfl, tg9 60 (by decide +kernel) rfl⟩, fun h => absurd h (by decide), fun h => absurd h (by decide), by decide +kernel, by decide +kernel, by decide⟩
theorem okM_254 : okM m_254 := ⟨tg9 69 (by decide +kernel) rfl, tg1 13 (by decide +kernel) rfl, fun _ => ⟨tg9 67 (by decide +kernel) rfl, tg9 68 (by decide +kernel) rfl⟩, fun h => absurd h (by decide), fun h => absurd h (by decide), by decide +kernel, by decide +kernel, by decide⟩
theorem okM_255 : okM m_255 := ⟨tg9 73 (by decide +kernel) rfl, tg1 13 (by decide +kernel) rfl, fun _ => ⟨tg9 71 (by decide +kernel) rfl, tg9 72 (by decide +kernel) rfl⟩, fun h => absurd h (by decide), fun h => absurd h (by decide), by decide +kernel, by decide +kernel, by decide⟩
theorem okM_256 : okM m_256 := ⟨tg9 77 (by decide +kernel) rfl, tg1 13 (by decide +kernel) rfl, fun _ => ⟨tg9 75 (by decide +kernel) rfl, tg9 76 (by decide +kernel) rfl⟩, fun h => absurd h (by decide), fun h => absurd h (by decide), by decide +kernel, by decide +kernel, by decide⟩
theorem okM_257 : okM m_257 := ⟨tg9 81 (by decide +kernel) rfl, tg1 13 (by decide +kernel) rfl, fun _ => ⟨tg9 79 (by decide +kernel) rfl, tg9 80 (by decide +kernel) rfl⟩, fun h => absurd h (by decide), fun h => absurd h (by decide), by decide +kernel, by decide +kernel, by decide⟩
theorem okM_258 : okM m_258 := ⟨tg9 89 (by decide +kernel) rfl, tg1 13 (by decide +kernel) rfl, fun _ => ⟨tg9 88 (by decide +kernel) rfl, tgs 110 (by decide +kernel) rfl⟩, fun h => absurd h (by decide), fun h => absurd h (by decide), by decide +kernel, by decide +kernel, by decide⟩
theorem okM_259 : okM m_259 := ⟨tg9 85 (by decide +kernel) rfl, tg1 13 (by decide +kernel) rfl, fun _ => ⟨tg9 83 (by decide +kernel) rfl, tg9 84 (by decide +kernel) rfl⟩, fun h => absurd h (by decide), fun h => absurd h (by decide), by decide +kernel, by decide +kernel, by decide⟩
theorem okM_260 : okM m_260 := ⟨tg9 93 (by decide +kernel) rfl, tg1 13 (by decide +kernel) rfl, fun _ => ⟨tg9 91 (by decide +kernel) rfl, tg9 92 (by decide +kernel) rfl⟩, fun h => absurd h (by decide), fun h => absurd h (by decide), by decide +kernel, by decide +kernel, by decide⟩
theorem okM_261 : okM m_261 := ⟨tg9 108 (by decide +kernel) rfl, tg1 13 (by decide +kernel) rfl, fun _ => ⟨tg9 107 (by decide +kernel) rfl, tgs 112 (by decide +kernel) rfl⟩, fun h => absurd h (by decide), fun h => absurd h (by decide), by decide +kernel, by decide +kernel, by decide⟩
theorem okM_262 : okM m_262 := ⟨tg9 104 (by decide +kernel) rfl, tg1 13 (by decide +kernel) rfl, fun _ => ⟨tg9 103 (by decide +kernel) rfl, tgs 111 (by decide +kernel) rfl⟩, fun h => absurd h (by decide), fun h => absurd h (by decide), by decide +kernel, by decide +kernel, by decide⟩
theorem okM_263 : okM m_263 := ⟨tg9 100 (by decide +kernel) rfl, tg1 13 (by decide +kernel) rfl, fun _ => ⟨tg9 98 (by decide +kernel) rfl, tg9 99 (by decide +kernel) rfl⟩, fun h => absurd h (by decide), fun h => absurd h (by decide), by decide +kernel, by decide +kernel, by decide⟩
theorem okM_264 : okM m_264 := ⟨tg9 112 (by decide +kernel) rfl, tg1 13 (by decide +kernel) rfl, fun _ => ⟨tg9 110 (by decide +kernel) rfl, tg9 111 (by decide +kernel) rfl⟩, fun h => absurd h (by decide), fun h => absurd h (by decide), by decide +kernel, by decide +kernel, by decide⟩
theorem okM_265 : okM m_265 := ⟨tg9 117 (by decide +kernel) rfl, tg1 13 (by decide +kernel) rfl, fun _ => ⟨tg9 115 (by decide +kernel) rfl, tg9 116 (by decide +kernel) rfl⟩, fun h => absurd h (by decide), fun h => absurd h (by decide), by decide +kernel, by decide +kernel, by decide⟩
theorem okM_266 : okM m_266 := ⟨tg9 121 (by decide +kernel) rfl, tg1 13 (by decide +kernel) rfl, fun _ => ⟨tg9 119 (by decide +kernel) rfl, tg9 120 (by decide +kernel) rfl⟩, fun h => absurd h (by decide), fun h => absurd h (by decide), by decide +kernel, by decide +kernel, by decide⟩
def MT_0 : List dM := [m_0, m_1, m_2, m_3, m_4, m_5, m_6, m_7, m_8, m_9, m_10, m_11, m_12, m_13, m_14, m_15, m_16, m_17, m_18, m_19, m_20, m_21, m_22, m_23, m_24, m_25, m_26, m_27, m_28, m_29, m_30, m_31, m_32, m_33, m_34, m_35, m_36, m_37, m_38, m_39]
theorem MT_0_ok : ∀ q ∈ MT_0, okM q := List.forall_mem_cons.mpr ⟨okM_0, List.forall_mem_cons.mpr ⟨okM_1, List.forall_mem_cons.mpr ⟨okM_2, List.forall_mem_cons.mpr ⟨okM_3, List.forall_mem_cons.mpr ⟨okM_4, List.forall_mem_cons.mpr ⟨okM_5, List.forall_mem_cons.mpr ⟨okM_6, List.forall_mem_cons.mpr ⟨okM_7, List.forall_mem_cons.mpr ⟨okM_8, List.forall_mem_cons.mpr ⟨okM_9, List.forall_mem_cons.mpr ⟨okM_10, List.forall_mem_cons.mpr ⟨okM_11, List.forall_mem_cons.mpr ⟨okM_12, List.forall_mem_cons.mpr ⟨okM_13, List.forall_mem_cons.mpr ⟨okM_14, List.forall_mem_cons.mpr ⟨okM_15, List.forall_mem_cons.mpr ⟨okM_16, List.forall_mem_cons.mpr ⟨okM_17, List.forall_mem_cons.mpr ⟨okM_18, List.forall_mem_cons.mpr ⟨okM_19, List.forall_mem_cons.mpr ⟨okM_20, List.forall_mem_cons.mpr ⟨okM_21, List.forall_mem_cons.mpr ⟨okM_22, List.forall_mem_cons.mpr ⟨okM_23, List.forall_mem_cons.mpr ⟨okM_24, List.forall_mem_cons.mpr ⟨okM_25, List.forall_mem_cons.mpr ⟨okM_26, List.forall_mem_cons.mpr ⟨okM_27, List.forall_mem_cons.mpr ⟨okM_28, List.forall_mem_cons.mpr ⟨okM_29, List.forall_mem_cons.mpr ⟨okM_30, List.forall_mem_cons.mpr ⟨okM_31, List.forall_mem_cons.mpr ⟨okM_32, List.forall_mem_cons.mpr ⟨okM_33, List.forall_mem_cons.mpr ⟨okM_34, List.forall_mem_cons.mpr ⟨okM_35, List.forall_mem_cons.mpr ⟨okM_36, List.forall_mem_cons.mpr ⟨okM_37, List.forall_mem_cons.mpr ⟨okM_38, List.forall_mem_cons.mpr ⟨okM_39, fun _ h => absurd h List.not_mem_nil⟩⟩⟩⟩⟩⟩⟩⟩⟩⟩⟩⟩⟩⟩⟩⟩⟩⟩⟩⟩⟩⟩⟩⟩⟩⟩⟩⟩⟩⟩⟩⟩⟩⟩⟩⟩⟩⟩⟩⟩
def MT_1 : List dM := [m_40, m_41, m_42, m_43, m_44, m_45, m_46, m_47, m_48, m_49, m_50, m_51, m_52, m_53, m_54, m_55, m_56, m_57, m_58, m_59, m_60, m_61, m_62, m_63, m_64, m_65, m_66, m_67, m_68, m_69, m_70, m_71, m_72, m_73, m_74, m_75, m_76, m_77, m_78, m_79]
theorem MT_1_ok : ∀ q ∈ MT_1, okM q := List.forall_mem_cons.mpr ⟨okM_40, List.forall_mem_cons.mpr ⟨okM_41, List.forall_mem_cons.mpr ⟨okM_42, List.forall_mem_cons.mpr ⟨okM_43, List.forall_mem_cons.mpr ⟨okM_44, List.forall_mem_cons.mpr ⟨okM_45, List.forall_mem_cons.mpr ⟨okM_46, List.forall_mem_cons.mpr ⟨okM_47, List.forall_mem_cons.mpr ⟨okM_48, List.forall_mem_cons.mpr ⟨okM_49, List.forall_mem_cons.mpr ⟨okM_50, List.forall_mem_cons.mpr ⟨okM_51, List.forall_mem_cons.mpr ⟨okM_52, List.forall_mem_cons.mpr ⟨okM_53, List.forall_mem_cons.mpr ⟨okM_54, List.forall_mem_cons.mpr ⟨okM_55, List.forall_mem_cons.mpr ⟨okM_56, List.forall_mem_cons.mpr ⟨okM_57, List.forall_mem_cons.mpr ⟨okM_58, List.forall_mem_cons.mpr ⟨okM_59, List.forall_mem_cons.mpr ⟨okM_60, List.forall_mem_cons.mpr ⟨okM_61, List.forall_mem_cons.mpr ⟨okM_62, List.forall_mem_cons.mpr ⟨okM_63, List.forall_mem_cons.mpr ⟨okM_64, List.forall_mem_cons.mpr ⟨okM_65, List.forall_mem_cons.mpr ⟨okM_66, List.forall_mem_cons.mpr ⟨okM_67, List.forall_mem_cons.mpr ⟨okM_68, List.forall_mem_cons.mpr ⟨okM_69, List.forall_mem_cons.mpr ⟨okM_70, List.forall_mem_cons.mpr ⟨okM_71, List.forall_mem_cons.mpr ⟨okM_72, List.forall_mem_cons.mpr ⟨okM_73, List.forall_mem_cons.mpr ⟨okM_74, List.forall_mem_cons.mpr ⟨okM_75, List.forall_mem_cons.mpr ⟨okM_76, List.forall_mem_cons.mpr ⟨okM_77, List.forall_mem_cons.mpr ⟨okM_78, List.forall_mem_cons.mpr ⟨okM_79, fun _ h => absurd h List.not_mem_nil⟩⟩⟩⟩⟩⟩⟩⟩⟩⟩⟩⟩⟩⟩⟩⟩⟩⟩⟩⟩⟩⟩⟩⟩⟩⟩⟩⟩⟩⟩⟩⟩⟩⟩⟩⟩⟩⟩⟩⟩
def MT_2 : List dM := [m_80, m_81, m_82, m_83, m_84, m_85, m_86, m_87, m_88, m_89, m_90, m_91, m_92, m_93, m_94, m_95, m_96, m_97, m_98, m_99, m_100, m_101, m_102, m_103, m_104, m_105, m_106, m_107, m_108, m_109, m_110, m_111, m_112, m_113, m_114, m_115, m_116, m_117, m_118, m_119]
theorem MT_2_ok : ∀ q ∈ MT_2, okM q := List.forall_mem_cons.mpr ⟨okM_80, List.forall_mem_cons.mpr ⟨okM_81, List.forall_mem_cons.mpr ⟨okM_82, List.forall_mem_cons.mpr ⟨okM_83, List.forall_mem_cons.mpr ⟨okM_84, List.forall_mem_cons.mpr ⟨okM_85, List.forall_mem_cons.mpr ⟨okM_86, List.forall_mem_cons.mpr ⟨okM_87, List.forall_mem_cons.mpr ⟨okM_88, List.forall_mem_cons.mpr ⟨okM_89, List.forall_mem_cons.mpr ⟨okM_90, List.forall_mem_cons.mpr ⟨okM_91, List.forall_mem_cons.mpr ⟨okM_92, List.forall_mem_cons.mpr ⟨okM_93, List.forall_mem_cons.mpr ⟨okM_94, List.forall_mem_cons.mpr ⟨okM_95, List.forall_mem_cons.mpr ⟨okM_96, List.forall_mem_cons.mpr ⟨okM_97, List.forall_mem_cons.mpr ⟨okM_98, List.forall_mem_cons.mpr ⟨okM_99, List.forall_mem_cons.mpr ⟨okM_100, List.forall_mem_cons.mpr ⟨okM_101, List.forall_mem_cons.mpr ⟨okM_102, List.forall_mem_cons.mpr ⟨okM_103, List.forall_mem_cons.mpr ⟨okM_104, List.forall_mem_cons.mpr ⟨okM_105, List.forall_mem_cons.mpr ⟨okM_106, List.forall_mem_cons.mpr ⟨okM_107, List.forall_mem_cons.mpr ⟨okM_108, List.forall_mem_cons.mpr ⟨okM_109, List.forall_mem_cons.mpr ⟨okM_110, List.forall_mem_cons.mpr ⟨okM_111, List.forall_mem_cons.mpr ⟨okM_112, List.forall_mem_cons.mpr ⟨okM_113, List.forall_mem_cons.mpr ⟨okM_114, List.forall_mem_cons.mpr ⟨okM_115, List.forall_mem_cons.mpr ⟨okM_116, List.forall_mem_cons.mpr ⟨okM_117, List.forall_mem_cons.mpr ⟨okM_118, List.forall_mem_cons.mpr ⟨okM_119, fun _ h => absurd h List.not_mem_nil⟩⟩⟩⟩⟩⟩⟩⟩⟩⟩⟩⟩⟩⟩⟩⟩⟩⟩⟩⟩⟩⟩⟩⟩⟩⟩⟩⟩⟩⟩⟩⟩⟩⟩⟩⟩⟩⟩⟩⟩
def MT_3 : List dM := [m_120, m_121, m_122, m_123, m_124, m_125, m_126, m_127, m_128, m_129, m_130, m_131, m_132, m_133, m_134, m_135, m_136, m_137, m_138, m_139, m_140, m_141, m_142, m_143, m_144, m_145, m_146, m_147, m_148, m_149, m_150, m_151, m_152, m_153, m_154, m_155, m_156, m_157, m_158, m_159]
theorem MT_3_ok : ∀ q ∈ MT_3, okM q := List.forall_mem_cons.mpr ⟨okM_120, List.forall_mem_cons.mpr ⟨okM_121, List.forall_mem_cons.mpr ⟨okM_122, List.forall_mem_cons.mpr ⟨okM_123, List.forall_mem_cons.mpr ⟨okM_124, List.forall_mem_cons.mpr ⟨okM_125, List.forall_mem_cons.mpr ⟨okM_126, List.forall_mem_cons.mpr ⟨okM_127, List.forall_mem_cons.mpr ⟨okM_128, List.forall_mem_cons.mpr ⟨okM_129, List.forall_mem_cons.mpr ⟨okM_130, List.forall_mem_cons.mpr ⟨okM_131, List.forall_mem_cons.mpr ⟨okM_132, List.forall_mem_cons.mpr ⟨okM_133, List.forall_mem_cons.mpr ⟨okM_134, List.forall_mem_cons.mpr ⟨okM_135, List.forall_mem_cons.mpr ⟨okM_136, List.forall_mem_cons.mpr ⟨okM_137, List.forall_mem_cons.mpr ⟨okM_138, List.forall_mem_cons.mpr ⟨okM_139, List.forall_mem_cons.mpr ⟨okM_140, List.forall_mem_cons.mpr ⟨okM_141, List.forall_mem_cons.mpr ⟨okM_142, List.forall_mem_cons.mpr ⟨okM_143, List.forall_mem_cons.mpr ⟨okM_144, List.forall_mem_cons.mpr ⟨okM_145, List.forall_mem_cons.mpr ⟨okM_146, List.forall_mem_cons.mpr ⟨okM_147, List.forall_mem_cons.mpr ⟨okM_148, List.forall_mem_cons.mpr ⟨okM_149, List.forall_mem_cons.mpr ⟨okM_150, List.forall_mem_cons.mpr ⟨okM_151, List.forall_mem_cons.mpr ⟨okM_152, List.forall_mem_cons.mpr ⟨okM_153, List.forall_mem_cons.mpr ⟨okM_154, List.forall_mem_cons.mpr ⟨okM_155, List.forall_mem_cons.mpr ⟨okM_156, List.forall_mem_cons.mpr ⟨okM_157, List.forall_mem_cons.mpr ⟨okM_158, List.forall_mem_cons.mpr ⟨okM_159, fun _ h => absurd h List.not_mem_nil⟩⟩⟩⟩⟩⟩⟩⟩⟩⟩⟩⟩⟩⟩⟩⟩⟩⟩⟩⟩⟩⟩⟩⟩⟩⟩⟩⟩⟩⟩⟩⟩⟩⟩⟩⟩⟩⟩⟩⟩
def MT_4 : List dM := [m_160, m_161, m_162, m_163, m_164, m_165, m_166, m_167, m_168, m_169, m_170, m_171, m_172, m_173, m_174, m_175, m_176, m_177, m_178, m_179, m_180, m_181, m_182, m_183, m_184, m_185, m_186, m_187, m_188, m_189, m_190, m_191, m_192, m_193, m_194, m_195, m_196, m_197, m_198, m_199]
theorem MT_4_ok : ∀ q ∈ MT_4, okM q := List.forall_mem_cons.mpr ⟨okM_160, List.forall_mem_cons.mpr ⟨okM_161, List.forall_mem_cons.mpr ⟨okM_162, List.forall_mem_cons.mpr ⟨okM_163, List.forall_mem_cons.mpr ⟨okM_164, List.forall_mem_cons.mpr ⟨okM_165, List.forall_mem_cons.mpr ⟨okM_166, List.forall_mem_cons.mpr ⟨okM_167, List.forall_mem_cons.mpr ⟨okM_168, List.forall_mem_cons.mpr ⟨okM_169, List.forall_mem_cons.mpr ⟨okM_170, List.forall_mem_cons.mpr ⟨okM_171, List.forall_mem_cons.mpr ⟨okM_172, List.forall_mem_cons.mpr ⟨okM_173, List.forall_mem_cons.mpr ⟨okM_174, List.forall_mem_cons.mpr ⟨okM_175, List.forall_mem_cons.mpr ⟨okM_176, List.forall_mem_cons.mpr ⟨okM_177, List.forall_mem_cons.mpr ⟨okM_178, List.forall_mem_cons.mpr ⟨okM_179, List.forall_mem_cons.mpr ⟨okM_180, List.forall_mem_cons.mpr ⟨okM_181, List.forall_mem_cons.mpr ⟨okM_182, List.forall_mem_cons.mpr ⟨okM_183, List.forall_mem_cons.mpr ⟨okM_184, List.forall_mem_cons.mpr ⟨okM_185, List.forall_mem_cons.mpr ⟨okM_186, List.forall_mem_cons.mpr ⟨okM_187, List.forall_mem_cons.mpr ⟨okM_188, List.forall_mem_cons.mpr ⟨okM_189, List.forall_mem_cons.mpr ⟨okM_190, List.forall_mem_cons.mpr ⟨okM_191, List.forall_mem_cons.mpr ⟨okM_192, List.forall_mem_cons.mpr ⟨okM_193, List.forall_mem_cons.mpr ⟨okM_194, List.forall_mem_cons.mpr ⟨okM_195, List.forall_mem_cons.mpr ⟨okM_196, List.forall_mem_cons.mpr ⟨okM_197, List.forall_mem_cons.mpr ⟨okM_198, List.forall_mem_cons.mpr ⟨okM_199, fun _ h => absurd h List.not_mem_nil⟩⟩⟩⟩⟩⟩⟩⟩⟩⟩⟩⟩⟩⟩⟩⟩⟩⟩⟩⟩⟩⟩⟩⟩⟩⟩⟩⟩⟩⟩⟩⟩⟩⟩⟩⟩⟩⟩⟩⟩
def MT_5 : List dM := [m_200, m_201, m_202, m_203, m_204, m_205, m_206, m_207, m_208, m_209, m_210, m_211, m_212, m_213, m_214, m_215, m_216, m_217, m_218, m_219, m_220, m_221, m_222, m_223, m_224, m_225, m_226, m_227, m_228, m_229, m_230, m_231, m_232, m_233, m_234, m_235, m_236, m_237, m_238, m_239]
theorem MT_5_ok : ∀ q ∈ MT_5, okM q := List.forall_mem_cons.mpr ⟨okM_200, List.forall_mem_cons.mpr ⟨okM_201, List.forall_mem_cons.mpr ⟨okM_202, List.forall_mem_cons.mpr ⟨okM_203, List.forall_mem_cons.mpr ⟨okM_204, List.forall_mem_cons.mpr ⟨okM_205, List.forall_mem_cons.mpr ⟨okM_206, List.forall_mem_cons.mpr ⟨okM_207, List.forall_mem_cons.mpr ⟨okM_208, List.forall_mem_cons.mpr ⟨okM_209, List.forall_mem_cons.mpr ⟨okM_210, List.forall_mem_cons.mpr ⟨okM_211, List.forall_mem_cons.mpr ⟨okM_212, List.forall_mem_cons.mpr ⟨okM_213, List.forall_mem_cons.mpr ⟨okM_214, List.forall_mem_cons.mpr ⟨okM_215, List.forall_mem_cons.mpr ⟨okM_216, List.forall_mem_cons.mpr ⟨okM_217, List.forall_mem_cons.mpr ⟨okM_218, List.forall_mem_cons.mpr ⟨okM_219, List.forall_mem_cons.mpr ⟨okM_220, List.forall_mem_cons.mpr ⟨okM_221, List.forall_mem_cons.mpr ⟨okM_222, List.forall_mem_cons.mpr ⟨okM_223, List.forall_mem_cons.mpr ⟨okM_224, List.forall_mem_cons.mpr ⟨okM_225, List.forall_mem_cons.mpr ⟨okM_226, List.forall_mem_cons.mpr ⟨okM_227, List.forall_mem_cons.mpr ⟨okM_228, List.forall_mem_cons.mpr ⟨okM_229, List.forall_mem_cons.mpr ⟨okM_230, List.forall_mem_cons.mpr ⟨okM_231, List.forall_mem_cons.mpr ⟨okM_232, List.forall_mem_cons.mpr ⟨okM_233, List.forall_mem_cons.mpr ⟨okM_234, List.forall_mem_cons.mpr ⟨okM_235, List.forall_mem_cons.mpr ⟨okM_236, List.forall_mem_cons.mpr ⟨okM_237, List.forall_mem_cons.mpr ⟨okM_238, List.forall_mem_cons.mpr ⟨okM_239, fun _ h => absurd h List.not_mem_nil⟩⟩⟩⟩⟩⟩⟩⟩⟩⟩⟩⟩⟩⟩⟩⟩⟩⟩⟩⟩⟩⟩⟩⟩⟩⟩⟩⟩⟩⟩⟩⟩⟩⟩⟩⟩⟩⟩⟩⟩
def MT_6 : List dM := [m_240, m_241, m_242, m_243, m_244, m_245, m_246, m_247, m_248, m_249, m_250, m_251, m_252, m_253, m_254, m_255, m_256, m_257, m_258, m_259, m_260, m_261, m_262, m_263, m_264, m_265, m_266]
theorem MT_6_ok : ∀ q ∈ MT_6, okM q := List.forall_mem_cons.mpr ⟨okM_240, List.forall_mem_cons.mpr ⟨okM_241, List.forall_mem_cons.mpr ⟨okM_242, List.forall_mem_cons.mpr ⟨okM_243, List.forall_mem_cons.mpr ⟨okM_244, List.forall_mem_cons.mpr ⟨okM_245, List.forall_mem_cons.mpr ⟨okM_246, List.forall_mem_cons.mpr ⟨okM_247, List.forall_mem_cons.mpr ⟨okM_248, List.forall_mem_cons.mpr ⟨okM_249, List.forall_mem_cons.mpr ⟨okM_250, List.forall_mem_cons.mpr ⟨okM_251, List.forall_mem_cons.mpr ⟨okM_252, List.forall_mem_cons.mpr ⟨okM_253, List.forall_mem_cons.mpr ⟨okM_254, List.forall_mem_cons.mpr ⟨okM_255, List.forall_mem_cons.mpr ⟨okM_256, List.forall_mem_cons.mpr ⟨okM_257, List.forall_mem_cons.mpr ⟨okM_258, List.forall_mem_cons.mpr ⟨okM_259, List.forall_mem_cons.mpr ⟨okM_260, List.forall_mem_cons.mpr ⟨okM_261, List.forall_mem_cons.mpr ⟨okM_262, List.forall_mem_cons.mpr ⟨okM_263, List.forall_mem_cons.mpr ⟨okM_264, List.forall_mem_cons.mpr ⟨okM_265, List.forall_mem_cons.mpr ⟨okM_266, fun _ h => absurd h List.not_mem_nil⟩⟩⟩⟩⟩⟩⟩⟩⟩⟩⟩⟩⟩⟩⟩⟩⟩⟩⟩⟩⟩⟩⟩⟩⟩⟩⟩
def MT : List dM := MT_0 ++ (MT_1 ++ (MT_2 ++ (MT_3 ++ (MT_4 ++ (MT_5 ++ (MT_6))))))
theorem MT_ok : ∀ q ∈ MT, okM q := List.forall_mem_append.mpr ⟨MT_0_ok, List.forall_mem_append.mpr ⟨MT_1_ok, List.forall_mem_append.mpr ⟨MT_2_ok, List.forall_mem_append.mpr ⟨MT_3_ok, List.forall_mem_append.mpr ⟨MT_4_ok, List.forall_mem_append.mpr ⟨MT_5_ok, MT_6_ok⟩⟩⟩⟩⟩⟩
/-- a cell of the world: an array (its length; 0 ints, 1 booleans, 2 longs), or an object (its class, its fields: 0 an int, 1 a long, t + 2 the cell t) -/
abbrev dSh : Type := (Nat × Nat) ⊕ (Nat × List Nat)
def shp : Nat → Option dSh := fun k => match k with
  | 0 => some (.inr (11, [3, 0, 0, 5, 7, 35, 63, 70, 71, 91, 0, 111, 116, 135, 144, 149, 151, 0, 153]))
  | 1 => some (.inr (6, [4]))
  | 2 => some (.inl (700, 0))
  | 3 => some (.inr (6, [6]))
  | 4 => some (.inl (3, 0))
  | 5 => some (.inr (1, [0, 0, 0, 0, 0, 8, 10, 12, 14, 16, 18, 20, 22, 24, 26, 28]))
  | 6 => some (.inr (6, [9]))
  | 7 => some (.inl (10, 0))
  | 8 => some (.inr (6, [11]))
  | 9 => some (.inl (100, 0))
  | 10 => some (.inr (6, [13]))
  | 11 => some (.inl (5, 0))
  | 12 => some (.inr (6, [15]))
  | 13 => some (.inl (5, 0))
  | 14 => some (.inr (6, [17]))
  | 15 => some (.inl (5, 0))
  | 16 => some (.inr (6, [19]))
  | 17 => some (.inl (40, 0))
  | 18 => some (.inr (6, [21]))
  | 19 => some (.inl (8, 0))
  | 20 => some (.inr (6, [23]))
  | 21 => some (.inl (8, 0))
  | 22 => some (.inr (6, [25]))
  | 23 => some (.inl (8, 0))
  | 24 => some (.inr (6, [27]))
  | 25 => some (.inl (8, 0))
  | 26 => some (.inr (7, [0, 0, 29, 31, 33]))
  | 27 => some (.inr (6, [30]))
  | 28 => some (.inl (700, 0))
  | 29 => some (.inr (6, [32]))
  | 30 => some (.inl (4, 0))
  | 31 => some (.inr (6, [34]))
  | 32 => some (.inl (64, 0))
  | 33 => some (.inr (1, [0, 0, 0, 0, 0, 36, 38, 40, 42, 44, 46, 48, 50, 52, 54, 56]))
  | 34 => some (.inr (6, [37]))
  | 35 => some (.inl (10, 0))
  | 36 => some (.inr (6, [39]))
  | 37 => some (.inl (100, 0))
  | 38 => some (.inr (6, [41]))
  | 39 => some (.inl (5, 0))
  | 40 => some (.inr (6, [43]))
  | 41 => some (.inl (5, 0))
  | 42 => some (.inr (6, [45]))
  | 43 => some (.inl (5, 0))
  | 44 => some (.inr (6, [47]))
  | 45 => some (.inl (40, 0))
  | 46 => some (.inr (6, [49]))
  | 47 => some (.inl (8, 0))
  | 48 => some (.inr (6, [51]))
  | 49 => some (.inl (8, 0))
  | 50 => some (.inr (6, [53]))
  | 51 => some (.inl (8, 0))
  | 52 => some (.inr (6, [55]))
  | 53 => some (.inl (8, 0))
  | 54 => some (.inr (7, [0, 0, 57, 59, 61]))
  | 55 => some (.inr (6, [58]))
  | 56 => some (.inl (700, 0))
  | 57 => some (.inr (6, [60]))
  | 58 => some (.inl (4, 0))
  | 59 => some (.inr (6, [62]))
  | 60 => some (.inl (64, 0))
  | 61 => some (.inr (10, [64, 66, 68, 0]))
  | 62 => some (.inr (6, [65]))
  | 63 => some (.inl (701, 0))
  | 64 => some (.inr (6, [67]))
  | 65 => some (.inl (701, 0))
  | 66 => some (.inr (6, [69]))
  | 67 => some (.inl (701, 0))
  | 68 => some (.inr (4, [63, 35, 0, 0, 0, 0]))
  | 69 => some (.inr (9, [72, 77, 84]))
  | 70 => some (.inr (8, [0, 0, 0, 0, 73, 75]))
  | 71 => some (.inr (6, [74]))
  | 72 => some (.inl (10, 0))
  | 73 => some (.inr (6, [76]))
  | 74 => some (.inl (5, 0))
  | 75 => some (.inr (2, [0, 0, 78, 80, 82]))
  | 76 => some (.inr (6, [79]))
  | 77 => some (.inl (40, 0))
  | 78 => some (.inr (6, [81]))
  | 79 => some (.inl (40, 0))
  | 80 => some (.inr (6, [83]))
  | 81 => some (.inl (40, 0))
  | 82 => some (.inr (2, [0, 0, 85, 87, 89]))
  | 83 => some (.inr (6, [86]))
  | 84 => some (.inl (8, 0))
  | 85 => some (.inr (6, [88]))
  | 86 => some (.inl (8, 0))
  | 87 => some (.inr (6, [90]))
  | 88 => some (.inl (8, 0))
  | 89 => some (.inr (9, [92, 97, 104]))
  | 90 => some (.inr (8, [0, 0, 0, 0, 93, 95]))
  | 91 => some (.inr (6, [94]))
  | 92 => some (.inl (10, 0))
  | 93 => some (.inr (6, [96]))
  | 94 => some (.inl (5, 0))
  | 95 => some (.inr (2, [0, 0, 98, 100, 102]))
  | 96 => some (.inr (6, [99]))
  | 97 => some (.inl (40, 0))
  | 98 => some (.inr (6, [101]))
  | 99 => some (.inl (40, 0))
  | 100 => some (.inr (6, [103]))
  | 101 => some (.inl (40, 0))
  | 102 => some (.inr (2, [0, 0, 105, 107, 109]))
  | 103 => some (.inr (6, [106]))
  | 104 => some (.inl (8, 0))
  | 105 => some (.inr (6, [108]))
  | 106 => some (.inl (8, 0))
  | 107 => some (.inr (6, [110]))
  | 108 => some (.inl (8, 0))
  | 109 => some (.inr (8, [0, 0, 0, 0, 112, 114]))
  | 110 => some (.inr (6, [113]))
  | 111 => some (.inl (10, 0))
  | 112 => some (.inr (6, [115]))
  | 113 => some (.inl (5, 0))
  | 114 => some (.inr (3, [7, 117, 119, 121, 123, 125, 127, 0, 129, 131, 133]))
  | 115 => some (.inr (6, [118]))
  | 116 => some (.inl (40, 0))
  | 117 => some (.inr (6, [120]))
  | 118 => some (.inl (40, 0))
  | 119 => some (.inr (6, [122]))
  | 120 => some (.inl (10, 0))
  | 121 => some (.inr (6, [124]))
  | 122 => some (.inl (5, 0))
  | 123 => some (.inr (6, [126]))
  | 124 => some (.inl (5, 0))
  | 125 => some (.inr (6, [128]))
  | 126 => some (.inl (40, 0))
  | 127 => some (.inr (6, [130]))
  | 128 => some (.inl (5, 0))
  | 129 => some (.inr (6, [132]))
  | 130 => some (.inl (7, 0))
  | 131 => some (.inr (6, [134]))
  | 132 => some (.inl (601, 0))
  | 133 => some (.inr (5, [7, 116, 136, 138, 140, 142]))
  | 134 => some (.inr (6, [137]))
  | 135 => some (.inl (10, 0))
  | 136 => some (.inr (6, [139]))
  | 137 => some (.inl (5, 0))
  | 138 => some (.inr (6, [141]))
  | 139 => some (.inl (160, 0))
  | 140 => some (.inr (6, [143]))
  | 141 => some (.inl (40, 0))
  | 142 => some (.inr (0, [7, 145, 147, 0, 0]))
  | 143 => some (.inr (6, [146]))
  | 144 => some (.inl (100, 0))
  | 145 => some (.inr (6, [148]))
  | 146 => some (.inl (10, 0))
  | 147 => some (.inr (6, [150]))
  | 148 => some (.inl (10, 0))
  | 149 => some (.inr (6, [152]))
  | 150 => some (.inl (10, 0))
  | 151 => some (.inr (6, [154]))
  | 152 => some (.inl (10, 0))
  | 153 => some (.inr (12, [0, 0, 0, 0, 0, 0, 0, 156, 157, 158, 159, 160, 161, 162, 163, 0, 0, 0, 164, 0, 0, 0, 0, 0, 0, 0, 1, 0, 0, 0, 0, 0, 0, 0, 0, 0, 165, 166, 167, 168, 169, 170, 171, 172, 173, 174, 175, 176, 177, 178, 0, 179, 180, 181, 182, 183, 184, 185, 186, 187, 188, 189, 190, 191, 192, 0, 193, 0, 194, 195, 0, 0, 0, 196, 197, 198]))
  | 154 => some (.inl (100, 0))
  | 155 => some (.inl (5, 0))
  | 156 => some (.inl (5, 0))
  | 157 => some (.inl (40, 0))
  | 158 => some (.inl (32, 0))
  | 159 => some (.inl (4, 0))
  | 160 => some (.inl (2800, 0))
  | 161 => some (.inl (700, 0))
  | 162 => some (.inl (3, 0))
  | 163 => some (.inl (10, 0))
  | 164 => some (.inl (100, 0))
  | 165 => some (.inl (5, 0))
  | 166 => some (.inl (5, 0))
  | 167 => some (.inl (5, 0))
  | 168 => some (.inl (40, 0))
  | 169 => some (.inl (32, 0))
  | 170 => some (.inl (4, 0))
  | 171 => some (.inl (2800, 0))
  | 172 => some (.inl (950, 0))
  | 173 => some (.inl (9, 1))
  | 174 => some (.inl (19, 0))
  | 175 => some (.inl (19, 0))
  | 176 => some (.inl (80, 0))
  | 177 => some (.inl (100, 0))
  | 178 => some (.inl (7, 0))
  | 179 => some (.inl (950, 0))
  | 180 => some (.inl (40, 0))
  | 181 => some (.inl (40, 0))
  | 182 => some (.inl (10, 0))
  | 183 => some (.inl (5, 0))
  | 184 => some (.inl (5, 0))
  | 185 => some (.inl (5, 0))
  | 186 => some (.inl (10, 0))
  | 187 => some (.inl (10, 0))
  | 188 => some (.inl (400, 0))
  | 189 => some (.inl (10, 0))
  | 190 => some (.inl (10, 0))
  | 191 => some (.inl (40, 0))
  | 192 => some (.inl (24, 0))
  | 193 => some (.inl (10, 0))
  | 194 => some (.inl (19, 0))
  | 195 => some (.inl (80, 0))
  | 196 => some (.inl (24, 0))
  | 197 => some (.inl (1, 2))
  | _ => none
abbrev dN : Nat := 198
end
section
/-! THE SHAPES of the cells, by program (wip/whole/gen/g04b.py) -/
def spl : List dSh := [
  .inr (11, [3, 0, 0, 5, 7, 35, 63, 70, 71, 91, 0, 111, 116, 135, 144, 149, 151, 0, 153]),
  .inr (6, [4]),
  .inl (700, 0),
  .inr (6, [6]),
  .inl (3, 0),
  .inr (1, [0, 0, 0, 0, 0, 8, 10, 12, 14, 16, 18, 20, 22, 24, 26, 28]),
  .inr (6, [9]),
  .inl (10, 0),
  .inr (6, [11]),
  .inl (100, 0),
  .inr (6, [13]),
  .inl (5, 0),
  .inr (6, [15]),
  .inl (5, 0),
  .inr (6, [17]),
  .inl (5, 0),
  .inr (6, [19]),
  .inl (40, 0),
  .inr (6, [21]),
  .inl (8, 0),
  .inr (6, [23]),
  .inl (8, 0),
  .inr (6, [25]),
  .inl (8, 0),
  .inr (6, [27]),
  .inl (8, 0),
  .inr (7, [0, 0, 29, 31, 33]),
  .inr (6, [30]),
  .inl (700, 0),
  .inr (6, [32]),
  .inl (4, 0),
  .inr (6, [34]),
  .inl (64, 0),
  .inr (1, [0, 0, 0, 0, 0, 36, 38, 40, 42, 44, 46, 48, 50, 52, 54, 56]),
  .inr (6, [37]),
  .inl (10, 0),
  .inr (6, [39]),
  .inl (100, 0),
  .inr (6, [41]),
  .inl (5, 0),
  .inr (6, [43]),
  .inl (5, 0),
  .inr (6, [45]),
  .inl (5, 0),
  .inr (6, [47]),
  .inl (40, 0),
  .inr (6, [49]),
  .inl (8, 0),
  .inr (6, [51]),
  .inl (8, 0),
  .inr (6, [53]),
  .inl (8, 0),
  .inr (6, [55]),
  .inl (8, 0),
  .inr (7, [0, 0, 57, 59, 61]),
  .inr (6, [58]),
  .inl (700, 0),
  .inr (6, [60]),
  .inl (4, 0),
  .inr (6, [62]),
  .inl (64, 0),
  .inr (10, [64, 66, 68, 0]),
  .inr (6, [65]),
  .inl (701, 0),
  .inr (6, [67]),
  .inl (701, 0),
  .inr (6, [69]),
  .inl (701, 0),
  .inr (4, [63, 35, 0, 0, 0, 0]),
  .inr (9, [72, 77, 84]),
  .inr (8, [0, 0, 0, 0, 73, 75]),
  .inr (6, [74]),
  .inl (10, 0),
  .inr (6, [76]),
  .inl (5, 0),
  .inr (2, [0, 0, 78, 80, 82]),
  .inr (6, [79]),
  .inl (40, 0),
  .inr (6, [81]),
  .inl (40, 0),
  .inr (6, [83]),
  .inl (40, 0),
  .inr (2, [0, 0, 85, 87, 89]),
  .inr (6, [86]),
  .inl (8, 0),
  .inr (6, [88]),
  .inl (8, 0),
  .inr (6, [90]),
  .inl (8, 0),
  .inr (9, [92, 97, 104]),
  .inr (8, [0, 0, 0, 0, 93, 95]),
  .inr (6, [94]),
  .inl (10, 0),
  .inr (6, [96]),
  .inl (5, 0),
  .inr (2, [0, 0, 98, 100, 102]),
  .inr (6, [99]),
  .inl (40, 0),
  .inr (6, [101]),
  .inl (40, 0),
  .inr (6, [103]),
  .inl (40, 0),
  .inr (2, [0, 0, 105, 107, 109]),
  .inr (6, [106]),
  .inl (8, 0),
  .inr (6, [108]),
  .inl (8, 0),
  .inr (6, [110]),
  .inl (8, 0),
  .inr (8, [0, 0, 0, 0, 112, 114]),
  .inr (6, [113]),
  .inl (10, 0),
  .inr (6, [115]),
  .inl (5, 0),
  .inr (3, [7, 117, 119, 121, 123, 125, 127, 0, 129, 131, 133]),
  .inr (6, [118]),
  .inl (40, 0),
  .inr (6, [120]),
  .inl (40, 0),
  .inr (6, [122]),
  .inl (10, 0),
  .inr (6, [124]),
  .inl (5, 0),
  .inr (6, [126]),
  .inl (5, 0),
  .inr (6, [128]),
  .inl (40, 0),
  .inr (6, [130]),
  .inl (5, 0),
  .inr (6, [132]),
  .inl (7, 0),
  .inr (6, [134]),
  .inl (601, 0),
  .inr (5, [7, 116, 136, 138, 140, 142]),
  .inr (6, [137]),
  .inl (10, 0),
  .inr (6, [139]),
  .inl (5, 0),
  .inr (6, [141]),
  .inl (160, 0),
  .inr (6, [143]),
  .inl (40, 0),
  .inr (0, [7, 145, 147, 0, 0]),
  .inr (6, [146]),
  .inl (100, 0),
  .inr (6, [148]),
  .inl (10, 0),
  .inr (6, [150]),
  .inl (10, 0),
  .inr (6, [152]),
  .inl (10, 0),
  .inr (6, [154]),
  .inl (10, 0),
  .inr (12, [0, 0, 0, 0, 0, 0, 0, 156, 157, 158, 159, 160, 161, 162, 163, 0, 0, 0, 164, 0, 0, 0, 0, 0, 0, 0, 1, 0, 0, 0, 0, 0, 0, 0, 0, 0, 165, 166, 167, 168, 169, 170, 171, 172, 173, 174, 175, 176, 177, 178, 0, 179, 180, 181, 182, 183, 184, 185, 186, 187, 188, 189, 190, 191, 192, 0, 193, 0, 194, 195, 0, 0, 0, 196, 197, 198]),
  .inl (100, 0),
  .inl (5, 0),
  .inl (5, 0),
  .inl (40, 0),
  .inl (32, 0),
  .inl (4, 0),
  .inl (2800, 0),
  .inl (700, 0),
  .inl (3, 0),
  .inl (10, 0),
  .inl (100, 0),
  .inl (5, 0),
  .inl (5, 0),
  .inl (5, 0),
  .inl (40, 0),
  .inl (32, 0),
  .inl (4, 0),
  .inl (2800, 0),
  .inl (950, 0),
  .inl (9, 1),
  .inl (19, 0),
  .inl (19, 0),
  .inl (80, 0),
  .inl (100, 0),
  .inl (7, 0),
  .inl (950, 0),
  .inl (40, 0),
  .inl (40, 0),
  .inl (10, 0),
  .inl (5, 0),
  .inl (5, 0),
  .inl (5, 0),
  .inl (10, 0),
  .inl (10, 0),
  .inl (400, 0),
  .inl (10, 0),
  .inl (10, 0),
  .inl (40, 0),
  .inl (24, 0),
  .inl (10, 0),
  .inl (19, 0),
  .inl (80, 0),
  .inl (24, 0),
  .inl (1, 2)]
def spx (k : Nat) : Option dSh := spl[k]?
theorem spl_len : spl.length = 198 := by decide +kernel
theorem spA0 : spx 0 = some (.inr (11, [3, 0, 0, 5, 7, 35, 63, 70, 71, 91, 0, 111, 116, 135, 144, 149, 151, 0, 153])) ∧ spx 1 = some (.inr (6, [4])) ∧ spx 2 = some (.inl (700, 0)) ∧ spx 3 = some (.inr (6, [6])) ∧ spx 4 = some (.inl (3, 0)) ∧ spx 5 = some (.inr (1, [0, 0, 0, 0, 0, 8, 10, 12, 14, 16, 18, 20, 22, 24, 26, 28])) ∧ spx 6 = some (.inr (6, [9])) ∧ spx 7 = some (.inl (10, 0)) ∧ spx 8 = some (.inr (6, [11])) ∧ spx 9 = some (.inl (100, 0)) ∧ spx 10 = some (.inr (6, [13])) ∧ spx 11 = some (.inl (5, 0)) ∧ spx 12 = some (.inr (6, [15])) ∧ spx 13 = some (.inl (5, 0)) ∧ spx 14 = some (.inr (6, [17])) ∧ spx 15 = some (.inl (5, 0)) ∧ spx 16 = some (.inr (6, [19])) ∧ spx 17 = some (.inl (40, 0)) ∧ spx 18 = some (.inr (6, [21])) ∧ spx 19 = some (.inl (8, 0)) := ⟨rfl, rfl, rfl, rfl, rfl, rfl, rfl, rfl, rfl, rfl, rfl, rfl, rfl, rfl, rfl, rfl, rfl, rfl, rfl, rfl⟩
theorem spA1 : spx 20 = some (.inr (6, [23])) ∧ spx 21 = some (.inl (8, 0)) ∧ spx 22 = some (.inr (6, [25])) ∧ spx 23 = some (.inl (8, 0)) ∧ spx 24 = some (.inr (6, [27])) ∧ spx 25 = some (.inl (8, 0)) ∧ spx 26 = some (.inr (7, [0, 0, 29, 31, 33])) ∧ spx 27 = some (.inr (6, [30])) ∧ spx 28 = some (.inl (700, 0)) ∧ spx 29 = some (.inr (6, [32])) ∧ spx 30 = some (.inl (4, 0)) ∧ spx 31 = some (.inr (6, [34])) ∧ spx 32 = some (.inl (64, 0)) ∧ spx 33 = some (.inr (1, [0, 0, 0, 0, 0, 36, 38, 40, 42, 44, 46, 48, 50, 52, 54, 56])) ∧ spx 34 = some (.inr (6, [37])) ∧ spx 35 = some (.inl (10, 0)) ∧ spx 36 = some (.inr (6, [39])) ∧ spx 37 = some (.inl (100, 0)) ∧ spx 38 = some (.inr (6, [41])) ∧ spx 39 = some (.inl (5, 0)) := ⟨rfl, rfl, rfl, rfl, rfl, rfl, rfl, rfl, rfl, rfl, rfl, rfl, rfl, rfl, rfl, rfl, rfl, rfl, rfl, rfl⟩
theorem spA2 : spx 40 = some (.inr (6, [43])) ∧ spx 41 = some (.inl (5, 0)) ∧ spx 42 = some (.inr (6, [45])) ∧ spx 43 = some (.inl (5, 0)) ∧ spx 44 = some (.inr (6, [47])) ∧ spx 45 = some (.inl (40, 0)) ∧ spx 46 = some (.inr (6, [49])) ∧ spx 47 = some (.inl (8, 0)) ∧ spx 48 = some (.inr (6, [51])) ∧ spx 49 = some (.inl (8, 0)) ∧ spx 50 = some (.inr (6, [53])) ∧ spx 51 = some (.inl (8, 0)) ∧ spx 52 = some (.inr (6, [55])) ∧ spx 53 = some (.inl (8, 0)) ∧ spx 54 = some (.inr (7, [0, 0, 57, 59, 61])) ∧ spx 55 = some (.inr (6, [58])) ∧ spx 56 = some (.inl (700, 0)) ∧ spx 57 = some (.inr (6, [60])) ∧ spx 58 = some (.inl (4, 0)) ∧ spx 59 = some (.inr (6, [62])) := ⟨rfl, rfl, rfl, rfl, rfl, rfl, rfl, rfl, rfl, rfl, rfl, rfl, rfl, rfl, rfl, rfl, rfl, rfl, rfl, rfl⟩
theorem spA3 : spx 60 = some (.inl (64, 0)) ∧ spx 61 = some (.inr (10, [64, 66, 68, 0])) ∧ spx 62 = some (.inr (6, [65])) ∧ spx 63 = some (.inl (701, 0)) ∧ spx 64 = some (.inr (6, [67])) ∧ spx 65 = some (.inl (701, 0)) ∧ spx 66 = some (.inr (6, [69])) ∧ spx 67 = some (.inl (701, 0)) ∧ spx 68 = some (.inr (4, [63, 35, 0, 0, 0, 0])) ∧ spx 69 = some (.inr (9, [72, 77, 84])) ∧ spx 70 = some (.inr (8, [0, 0, 0, 0, 73, 75])) ∧ spx 71 = some (.inr (6, [74])) ∧ spx 72 = some (.inl (10, 0)) ∧ spx 73 = some (.inr (6, [76])) ∧ spx 74 = some (.inl (5, 0)) ∧ spx 75 = some (.inr (2, [0, 0, 78, 80, 82])) ∧ spx 76 = some (.inr (6, [79])) ∧ spx 77 = some (.inl (40, 0)) ∧ spx 78 = some (.inr (6, [81])) ∧ spx 79 = some (.inl (40, 0)) := ⟨rfl, rfl, rfl, rfl, rfl, rfl, rfl, rfl, rfl, rfl, rfl, rfl, rfl, rfl, rfl, rfl, rfl, rfl, rfl, rfl⟩
theorem spA4 : spx 80 = some (.inr (6, [83])) ∧ spx 81 = some (.inl (40, 0)) ∧ spx 82 = some (.inr (2, [0, 0, 85, 87, 89])) ∧ spx 83 = some (.inr (6, [86])) ∧ spx 84 = some (.inl (8, 0)) ∧ spx 85 = some (.inr (6, [88])) ∧ spx 86 = some (.inl (8, 0)) ∧ spx 87 = some (.inr (6, [90])) ∧ spx 88 = some (.inl (8, 0)) ∧ spx 89 = some (.inr (9, [92, 97, 104])) ∧ spx 90 = some (.inr (8, [0, 0, 0, 0, 93, 95])) ∧ spx 91 = some (.inr (6, [94])) ∧ spx 92 = some (.inl (10, 0)) ∧ spx 93 = some (.inr (6, [96])) ∧ spx 94 = some (.inl (5, 0)) ∧ spx 95 = some (.inr (2, [0, 0, 98, 100, 102])) ∧ spx 96 = some (.inr (6, [99])) ∧ spx 97 = some (.inl (40, 0)) ∧ spx 98 = some (.inr (6, [101])) ∧ spx 99 = some (.inl (40, 0)) := ⟨rfl, rfl, rfl, rfl, rfl, rfl, rfl, rfl, rfl, rfl, rfl, rfl, rfl, rfl, rfl, rfl, rfl, rfl, rfl, rfl⟩
theorem spA5 : spx 100 = some (.inr (6, [103])) ∧ spx 101 = some (.inl (40, 0)) ∧ spx 102 = some (.inr (2, [0, 0, 105, 107, 109])) ∧ spx 103 = some (.inr (6, [106])) ∧ spx 104 = some (.inl (8, 0)) ∧ spx 105 = some (.inr (6, [108])) ∧ spx 106 = some (.inl (8, 0)) ∧ spx 107 = some (.inr (6, [110])) ∧ spx 108 = some (.inl (8, 0)) ∧ spx 109 = some (.inr (8, [0, 0, 0, 0, 112, 114])) ∧ spx 110 = some (.inr (6, [113])) ∧ spx 111 = some (.inl (10, 0)) ∧ spx 112 = some (.inr (6, [115])) ∧ spx 113 = some (.inl (5, 0)) ∧ spx 114 = some (.inr (3, [7, 117, 119, 121, 123, 125, 127, 0, 129, 131, 133])) ∧ spx 115 = some (.inr (6, [118])) ∧ spx 116 = some (.inl (40, 0)) ∧ spx 117 = some (.inr (6, [120])) ∧ spx 118 = some (.inl (40, 0)) ∧ spx 119 = some (.inr (6, [122])) := ⟨rfl, rfl, rfl, rfl, rfl, rfl, rfl, rfl, rfl, rfl, rfl, rfl, rfl, rfl, rfl, rfl, rfl, rfl, rfl, rfl⟩
theorem spA6 : spx 120 = some (.inl (10, 0)) ∧ spx 121 = some (.inr (6, [124])) ∧ spx 122 = some (.inl (5, 0)) ∧ spx 123 = some (.inr (6, [126])) ∧ spx 124 = some (.inl (5, 0)) ∧ spx 125 = some (.inr (6, [128])) ∧ spx 126 = some (.inl (40, 0)) ∧ spx 127 = some (.inr (6, [130])) ∧ spx 128 = some (.inl (5, 0)) ∧ spx 129 = some (.inr (6, [132])) ∧ spx 130 = some (.inl (7, 0)) ∧ spx 131 = some (.inr (6, [134])) ∧ spx 132 = some (.inl (601, 0)) ∧ spx 133 = some (.inr (5, [7, 116, 136, 138, 140, 142])) ∧ spx 134 = some (.inr (6, [137])) ∧ spx 135 = some (.inl (10, 0)) ∧ spx 136 = some (.inr (6, [139])) ∧ spx 137 = some (.inl (5, 0)) ∧ spx 138 = some (.inr (6, [141])) ∧ spx 139 = some (.inl (160, 0)) := ⟨rfl, rfl, rfl, rfl, rfl, rfl, rfl, rfl, rfl, rfl, rfl, rfl, rfl, rfl, rfl, rfl, rfl, rfl, rfl, rfl⟩
theorem spA7 : spx 140 = some (.inr (6, [143])) ∧ spx 141 = some (.inl (40, 0)) ∧ spx 142 = some (.inr (0, [7, 145, 147, 0, 0])) ∧ spx 143 = some (.inr (6, [146])) ∧ spx 144 = some (.inl (100, 0)) ∧ spx 145 = some (.inr (6, [148])) ∧ spx 146 = some (.inl (10, 0)) ∧ spx 147 = some (.inr (6, [150])) ∧ spx 148 = some (.inl (10, 0)) ∧ spx 149 = some (.inr (6, [152])) ∧ spx 150 = some (.inl (10, 0)) ∧ spx 151 = some (.inr (6, [154])) ∧ spx 152 = some (.inl (10, 0)) ∧ spx 153 = some (.inr (12, [0, 0, 0, 0, 0, 0, 0, 156, 157, 158, 159, 160, 161, 162, 163, 0, 0, 0, 164, 0, 0, 0, 0, 0, 0, 0, 1, 0, 0, 0, 0, 0, 0, 0, 0, 0, 165, 166, 167, 168, 169, 170, 171, 172, 173, 174, 175, 176, 177, 178, 0, 179, 180, 181, 182, 183, 184, 185, 186, 187, 188, 189, 190, 191, 192, 0, 193, 0, 194, 195, 0, 0, 0, 196, 197, 198])) ∧ spx 154 = some (.inl (100, 0)) ∧ spx 155 = some (.inl (5, 0)) ∧ spx 156 = some (.inl (5, 0)) ∧ spx 157 = some (.inl (40, 0)) ∧ spx 158 = some (.inl (32, 0)) ∧ spx 159 = some (.inl (4, 0)) := ⟨rfl, rfl, rfl, rfl, rfl, rfl, rfl, rfl, rfl, rfl, rfl, rfl, rfl, rfl, rfl, rfl, rfl, rfl, rfl, rfl⟩
theorem spA8 : spx 160 = some (.inl (2800, 0)) ∧ spx 161 = some (.inl (700, 0)) ∧ spx 162 = some (.inl (3, 0)) ∧ spx 163 = some (.inl (10, 0)) ∧ spx 164 = some (.inl (100, 0)) ∧ spx 165 = some (.inl (5, 0)) ∧ spx 166 = some (.inl (5, 0)) ∧ spx 167 = some (.inl (5, 0)) ∧ spx 168 = some (.inl (40, 0)) ∧ spx 169 = some (.inl (32, 0)) ∧ spx 170 = some (.inl (4, 0)) ∧ spx 171 = some (.inl (2800, 0)) ∧ spx 172 = some (.inl (950, 0)) ∧ spx 173 = some (.inl (9, 1)) ∧ spx 174 = some (.inl (19, 0)) ∧ spx 175 = some (.inl (19, 0)) ∧ spx 176 = some (.inl (80, 0)) ∧ spx 177 = some (.inl (100, 0)) ∧ spx 178 = some (.inl (7, 0)) ∧ spx 179 = some (.inl (950, 0)) := ⟨rfl, rfl, rfl, rfl, rfl, rfl, rfl, rfl, rfl, rfl, rfl, rfl, rfl, rfl, rfl, rfl, rfl, rfl, rfl, rfl⟩
theorem spA9 : spx 180 = some (.inl (40, 0)) ∧ spx 181 = some (.inl (40, 0)) ∧ spx 182 = some (.inl (10, 0)) ∧ spx 183 = some (.inl (5, 0)) ∧ spx 184 = some (.inl (5, 0)) ∧ spx 185 = some (.inl (5, 0)) ∧ spx 186 = some (.inl (10, 0)) ∧ spx 187 = some (.inl (10, 0)) ∧ spx 188 = some (.inl (400, 0)) ∧ spx 189 = some (.inl (10, 0)) ∧ spx 190 = some (.inl (10, 0)) ∧ spx 191 = some (.inl (40, 0)) ∧ spx 192 = some (.inl (24, 0)) ∧ spx 193 = some (.inl (10, 0)) ∧ spx 194 = some (.inl (19, 0)) ∧ spx 195 = some (.inl (80, 0)) ∧ spx 196 = some (.inl (24, 0)) ∧ spx 197 = some (.inl (1, 2)) := ⟨rfl, rfl, rfl, rfl, rfl, rfl, rfl, rfl, rfl, rfl, rfl, rfl, rfl, rfl, rfl, rfl, rfl, rfl⟩
theorem spA : (spx 0 = some (.inr (11, [3, 0, 0, 5, 7, 35, 63, 70, 71, 91, 0, 111, 116, 135, 144, 149, 151, 0, 153])) ∧ spx 1 = some (.inr (6, [4])) ∧ spx 2 = some (.inl (700, 0)) ∧ spx 3 = some (.inr (6, [6])) ∧ spx 4 = some (.inl (3, 0)) ∧ spx 5 = some (.inr (1, [0, 0, 0, 0, 0, 8, 10, 12, 14, 16, 18, 20, 22, 24, 26, 28])) ∧ spx 6 = some (.inr (6, [9])) ∧ spx 7 = some (.inl (10, 0)) ∧ spx 8 = some (.inr (6, [11])) ∧ spx 9 = some (.inl (100, 0)) ∧ spx 10 = some (.inr (6, [13])) ∧ spx 11 = some (.inl (5, 0)) ∧ spx 12 = some (.inr (6, [15])) ∧ spx 13 = some (.inl (5, 0)) ∧ spx 14 = some (.inr (6, [17])) ∧ spx 15 = some (.inl (5, 0)) ∧ spx 16 = some (.inr (6, [19])) ∧ spx 17 = some (.inl (40, 0)) ∧ spx 18 = some (.inr (6, [21])) ∧ spx 19 = some (.inl (8, 0))) ∧ (spx 20 = some (.inr (6, [23])) ∧ spx 21 = some (.inl (8, 0)) ∧ spx 22 = some (.inr (6, [25])) ∧ spx 23 = some (.inl (8, 0)) ∧ spx 24 = some (.inr (6, [27])) ∧ spx 25 = some (.inl (8, 0)) ∧ spx 26 = some (.inr (7, [0, 0, 29, 31, 33])) ∧ spx 27 = some (.inr (6, [30])) ∧ spx 28 = some (.inl (700, 0)) ∧ spx 29 = some (.inr (6, [32])) ∧ spx 30 = some (.inl (4, 0)) ∧ spx 31 = some (.inr (6, [34])) ∧ spx 32 = some (.inl (64, 0)) ∧ spx 33 = some (.inr (1, [0, 0, 0, 0, 0, 36, 38, 40, 42, 44, 46, 48, 50, 52, 54, 56])) ∧ spx 34 = some (.inr (6, [37])) ∧ spx 35 = some (.inl (10, 0)) ∧ spx 36 = some (.inr (6, [39])) ∧ spx 37 = some (.inl (100, 0)) ∧ spx 38 = some (.inr (6, [41])) ∧ spx 39 = some (.inl (5, 0))) ∧ (spx 40 = some (.inr (6, [43])) ∧ spx 41 = some (.inl (5, 0)) ∧ spx 42 = some (.inr (6, [45])) ∧ spx 43 = some (.inl (5, 0)) ∧ spx 44 = some (.inr (6, [47])) ∧ spx 45 = some (.inl (40, 0)) ∧ spx 46 = some (.inr (6, [49])) ∧ spx 47 = some (.inl (8, 0)) ∧ spx 48 = some (.inr (6, [51])) ∧ spx 49 = some (.inl (8, 0)) ∧ spx 50 = some (.inr (6, [53])) ∧ spx 51 = some (.inl (8, 0)) ∧ spx 52 = some (.inr (6, [55])) ∧ spx 53 = some (.inl (8, 0)) ∧ spx 54 = some (.inr (7, [0, 0, 57, 59, 61])) ∧ spx 55 = some (.inr (6, [58])) ∧ spx 56 = some (.inl (700, 0)) ∧ spx 57 = some (.inr (6, [60])) ∧ spx 58 = some (.inl (4, 0)) ∧ spx 59 = some (.inr (6, [62]))) ∧ (spx 60 = some (.inl (64, 0)) ∧ spx 61 = some (.inr (10, [64, 66, 68, 0])) ∧ spx 62 = some (.inr (6, [65])) ∧ spx 63 = some (.inl (701, 0)) ∧ spx 64 = some (.inr (6, [67])) ∧ spx 65 = some (.inl (701, 0)) ∧ spx 66 = some (.inr (6, [69])) ∧ spx 67 = some (.inl (701, 0)) ∧ spx 68 = some (.inr (4, [63, 35, 0, 0, 0, 0])) ∧ spx 69 = some (.inr (9, [72, 77, 84])) ∧ spx 70 = some (.inr (8, [0, 0, 0, 0, 73, 75])) ∧ spx 71 = some (.inr (6, [74])) ∧ spx 72 = some (.inl (10, 0)) ∧ spx 73 = some (.inr (6, [76])) ∧ spx 74 = some (.inl (5, 0)) ∧ spx 75 = some (.inr (2, [0, 0, 78, 80, 82])) ∧ spx 76 = some (.inr (6, [79])) ∧ spx 77 = some (.inl (40, 0)) ∧ spx 78 = some (.inr (6, [81])) ∧ spx 79 = some (.inl (40, 0))) ∧ (spx 80 = some (.inr (6, [83])) ∧ spx 81 = some (.inl (40, 0)) ∧ spx 82 = some (.inr (2, [0, 0, 85, 87, 89])) ∧ spx 83 = some (.inr (6, [86])) ∧ spx 84 = some (.inl (8, 0)) ∧ spx 85 = some (.inr (6, [88])) ∧ spx 86 = some (.inl (8, 0)) ∧ spx 87 = some (.inr (6, [90])) ∧ spx 88 = some (.inl (8, 0)) ∧ spx 89 = some (.inr (9, [92, 97, 104])) ∧ spx 90 = some (.inr (8, [0, 0, 0, 0, 93, 95])) ∧ spx 91 = some (.inr (6, [94])) ∧ spx 92 = some (.inl (10, 0)) ∧ spx 93 = some (.inr (6, [96])) ∧ spx 94 = some (.inl (5, 0)) ∧ spx 95 = some (.inr (2, [0, 0, 98, 100, 102])) ∧ spx 96 = some (.inr (6, [99])) ∧ spx 97 = some (.inl (40, 0)) ∧ spx 98 = some (.inr (6, [101])) ∧ spx 99 = some (.inl (40, 0))) ∧ (spx 100 = some (.inr (6, [103])) ∧ spx 101 = some (.inl (40, 0)) ∧ spx 102 = some (.inr (2, [0, 0, 105, 107, 109])) ∧ spx 103 = some (.inr (6, [106])) ∧ spx 104 = some (.inl (8, 0)) ∧ spx 105 = some (.inr (6, [108])) ∧ spx 106 = some (.inl (8, 0)) ∧ spx 107 = some (.inr (6, [110])) ∧ spx 108 = some (.inl (8, 0)) ∧ spx 109 = some (.inr (8, [0, 0, 0, 0, 112, 114])) ∧ spx 110 = some (.inr (6, [113])) ∧ spx 111 = some (.inl (10, 0)) ∧ spx 112 = some (.inr (6, [115])) ∧ spx 113 = some (.inl (5, 0)) ∧ spx 114 = some (.inr (3, [7, 117, 119, 121, 123, 125, 127, 0, 129, 131, 133])) ∧ spx 115 = some (.inr (6, [118])) ∧ spx 116 = some (.inl (40, 0)) ∧ spx 117 = some (.inr (6, [120])) ∧ spx 118 = some (.inl (40, 0)) ∧ spx 119 = some (.inr (6, [122]))) ∧ (spx 120 = some (.inl (10, 0)) ∧ spx 121 = some (.inr (6, [124])) ∧ spx 122 = some (.inl (5, 0)) ∧ spx 123 = some (.inr (6, [126])) ∧ spx 124 = some (.inl (5, 0)) ∧ spx 125 = some (.inr (6, [128])) ∧ spx 126 = some (.inl (40, 0)) ∧ spx 127 = some (.inr (6, [130])) ∧ spx 128 = some (.inl (5, 0)) ∧ spx 129 = some (.inr (6, [132])) ∧ spx 130 = some (.inl (7, 0)) ∧ spx 131 = some (.inr (6, [134])) ∧ spx 132 = some (.inl (601, 0)) ∧ spx 133 = some (.inr (5, [7, 116, 136, 138, 140, 142])) ∧ spx 134 = some (.inr (6, [137])) ∧ spx 135 = some (.inl (10, 0)) ∧ spx 136 = some (.inr (6, [139])) ∧ spx 137 = some (.inl (5, 0)) ∧ spx 138 = some (.inr (6, [141])) ∧ spx 139 = some (.inl (160, 0))) ∧ (spx 140 = some (.inr (6, [143])) ∧ spx 141 = some (.inl (40, 0)) ∧ spx 142 = some (.inr (0, [7, 145, 147, 0, 0])) ∧ spx 143 = some (.inr (6, [146])) ∧ spx 144 = some (.inl (100, 0)) ∧ spx 145 = some (.inr (6, [148])) ∧ spx 146 = some (.inl (10, 0)) ∧ spx 147 = some (.inr (6, [150])) ∧ spx 148 = some (.inl (10, 0)) ∧ spx 149 = some (.inr (6, [152])) ∧ spx 150 = some (.inl (10, 0)) ∧ spx 151 = some (.inr (6, [154])) ∧ spx 152 = some (.inl (10, 0)) ∧ spx 153 = some (.inr (12, [0, 0, 0, 0, 0, 0, 0, 156, 157, 158, 159, 160, 161, 162, 163, 0, 0, 0, 164, 0, 0, 0, 0, 0, 0, 0, 1, 0, 0, 0, 0, 0, 0, 0, 0, 0, 165, 166, 167, 168, 169, 170, 171, 172, 173, 174, 175, 176, 177, 178, 0, 179, 180, 181, 182, 183, 184, 185, 186, 187, 188, 189, 190, 191, 192, 0, 193, 0, 194, 195, 0, 0, 0, 196, 197, 198])) ∧ spx 154 = some (.inl (100, 0)) ∧ spx 155 = some (.inl (5, 0)) ∧ spx 156 = some (.inl (5, 0)) ∧ spx 157 = some (.inl (40, 0)) ∧ spx 158 = some (.inl (32, 0)) ∧ spx 159 = some (.inl (4, 0))) ∧ (spx 160 = some (.inl (2800, 0)) ∧ spx 161 = some (.inl (700, 0)) ∧ spx 162 = some (.inl (3, 0)) ∧ spx 163 = some (.inl (10, 0)) ∧ spx 164 = some (.inl (100, 0)) ∧ spx 165 = some (.inl (5, 0)) ∧ spx 166 = some (.inl (5, 0)) ∧ spx 167 = some (.inl (5, 0)) ∧ spx 168 = some (.inl (40, 0)) ∧ spx 169 = some (.inl (32, 0)) ∧ spx 170 = some (.inl (4, 0)) ∧ spx 171 = some (.inl (2800, 0)) ∧ spx 172 = some (.inl (950, 0)) ∧ spx 173 = some (.inl (9, 1)) ∧ spx 174 = some (.inl (19, 0)) ∧ spx 175 = some (.inl (19, 0)) ∧ spx 176 = some (.inl (80, 0)) ∧ spx 177 = some (.inl (100, 0)) ∧ spx 178 = some (.inl (7, 0)) ∧ spx 179 = some (.inl (950, 0))) ∧ (spx 180 = some (.inl (40, 0)) ∧ spx 181 = some (.inl (40, 0)) ∧ spx 182 = some (.inl (10, 0)) ∧ spx 183 = some (.inl (5, 0)) ∧ spx 184 = some (.inl (5, 0)) ∧ spx 185 = some (.inl (5, 0)) ∧ spx 186 = some (.inl (10, 0)) ∧ spx 187 = some (.inl (10, 0)) ∧ spx 188 = some (.inl (400, 0)) ∧ spx 189 = some (.inl (10, 0)) ∧ spx 190 = some (.inl (10, 0)) ∧ spx 191 = some (.inl (40, 0)) ∧ spx 192 = some (.inl (24, 0)) ∧ spx 193 = some (.inl (10, 0)) ∧ spx 194 = some (.inl (19, 0)) ∧ spx 195 = some (.inl (80, 0)) ∧ spx 196 = some (.inl (24, 0)) ∧ spx 197 = some (.inl (1, 2))) := ⟨spA0, spA1, spA2, spA3, spA4, spA5, spA6, spA7, spA8, spA9⟩
end
section
/-! THE WORLD: cell k of the world lies at G.1 + k; the store says what it holds -/
/-- the first cell's address; what lies outside; the classes' numbers and slots; the classes of int, boolean and long arrays -/
abbrev dG : Type := Nat × (Nat → Nat) × va_G × (ClassId × ClassId × ClassId)
def adr (G : dG) (t : Nat) : Nat := if t < 100000 then G.1 + t else G.2.1 (t - 100000)
def dv (G : dG) : dX → Value
  | .inl x => .int (Int32.ofInt x)
  | .inr (.inl x) => .long (Int64.ofInt x)
  | .inr (.inr t) => .ref (adr G t)
def fv (G : dG) (fr : Bool) (a b : Int) : Nat → Value
  | 0 => .int (Int32.ofInt a)
  | 1 => .long (Int64.ofInt (a + 4294967296 * b))
  | t + 2 => if fr = true ∧ a ≠ 1 then .null else .ref (adr G t)
def fvs (G : dG) (fr : Bool) (f : Int → Int) : List Nat → Nat → List Value
  | [], _ => []
  | c :: cs, j => fv G fr (f j) (f (j + 1000)) c :: fvs G fr f cs (j + 1)
def ent (G : dG) (fr : Bool) (f : Int → Int) : dSh → va_E
  | .inl (n, 0) => .inl (G.2.2.2.1, n, .inl (fun i => Int32.ofInt (f i)))
  | .inl (n, 1) => .inl (G.2.2.2.2.1, n, .inl (fun i => Int32.ofInt (f i)))
  | .inl (n, _) => .inl (G.2.2.2.2.2, n, .inr (.inl (fun i => Int64.ofInt (f i + 4294967296 * f (-1 - i)))))
  | .inr (c, fs) => .inr (c, fvs G fr f fs 0)
def entK (G : dG) (fr : Bool) (σ : dS) (k : Nat) : Nat × va_E := (G.1 + k, ent G fr (σ k) ((spx k).getD (.inl (0, 0))))
def wl (G : dG) (fr : Bool) (σ : dS) (n : Nat) : va_W := (List.range n).map (entK G fr σ)
/-- how many cells there are -/
def nOf (fr : Bool) (σ : dS) : Nat := if fr = true then (σ 1000000 0).toNat else dN
def Wd (G : dG) (fr : Bool) (σ : dS) (H : Heap) : Prop :=
  va_P G.2.2.1 vwCl (wl G fr σ (nOf fr σ)) H ∧ (∀ k i, iR (σ k i)) ∧ nOf fr σ ≤ dN ∧ G.1 + nOf fr σ ≤ H.size ∧ (fr = true → H.size = G.1 + nOf fr σ ∧ ∀ k, nOf fr σ ≤ k → k < 1000000 → ∀ i, σ k i = 0)
def rg (G : dG) : Nat → Prop := fun q => G.1 ≤ q
def dT (G : dG) : List (ClassId × FieldType) := [(G.2.2.2.1, .int), (G.2.2.2.2.1, .boolean), (G.2.2.2.2.2, .long)]
theorem fvs_len (G : dG) (fr : Bool) (f : Int → Int) : ∀ (cs : List Nat) (j : Nat), (fvs G fr f cs j).length = cs.length
  | [], _ => rfl
  | c :: cs, j => by simp only [fvs, List.length_cons, fvs_len G fr f cs (j + 1)]
theorem fvs_get (G : dG) (fr : Bool) (f : Int → Int) : ∀ (cs : List Nat) (j b c : Nat), cs[b]? = some c → (fvs G fr f cs j)[b]? = some (fv G fr (f ((j + b : Nat) : Int)) (f ((j + b : Nat) + 1000)) c)
  | [], _, b, c, h => by simp at h
  | d :: cs, j, 0, c, h => by
    simp only [List.getElem?_cons_zero, Option.some.injEq] at h
    subst h
    simp only [fvs, List.getElem?_cons_zero, Nat.add_zero]
  | d :: cs, j, b + 1, c, h => by
    rw [List.getElem?_cons_succ] at h
    have := fvs_get G fr f cs (j + 1) b c h
    simp only [fvs, List.getElem?_cons_succ]
    rw [this, show j + 1 + b = j + (b + 1) from by omega]
theorem fvs_congr (G : dG) (fr : Bool) (f g : Int → Int) : ∀ (cs : List Nat) (j : Nat), (∀ i : Nat, j ≤ i → i < j + cs.length → f i = g i ∧ f (i + 1000) = g (i + 1000)) → fvs G fr f cs j = fvs G fr g cs j
  | [], _, _ => rfl
  | c :: cs, j, h => by
    have h0 := h j (Nat.le_refl _) (by simp)
    simp only [fvs]
    rw [h0.1, h0.2, fvs_congr G fr f g cs (j + 1) (fun i h1 h2 => h i (by omega) (by simp only [List.length_cons]; omega))]
theorem fvs_set (G : dG) (fr : Bool) (f g : Int → Int) : ∀ (cs : List Nat) (j b c : Nat), cs[b]? = some c → (∀ i : Nat, j ≤ i → i < j + cs.length → i ≠ j + b → f i = g i ∧ f (i + 1000) = g (i + 1000)) →
    (fvs G fr f cs j).set b (fv G fr (g ((j + b : Nat) : Int)) (g ((j + b : Nat) + 1000)) c) = fvs G fr g cs j
  | [], _, b, c, h, _ => by simp at h
  | d :: cs, j, 0, c, h, hh => by
    simp only [List.getElem?_cons_zero, Option.some.injEq] at h
    subst h
    simp only [fvs, List.set_cons_zero, Nat.add_zero]
    rw [fvs_congr G fr f g cs (j + 1) (fun i h1 h2 => hh i (by omega) (by simp only [List.length_cons]; omega) (by omega))]
  | d :: cs, j, b + 1, c, h, hh => by
    rw [List.getElem?_cons_succ] at h
    have h0 := hh j (Nat.le_refl _) (by simp) (by omega)
    have := fvs_set G fr f g cs (j + 1) b c h (fun i h1 h2 h3 => hh i (by omega) (by simp only [List.length_cons]; omega) (by omega))
    rw [show j + 1 + b = j + (b + 1) from by omega] at this
    simp only [fvs, List.set_cons_succ]
    rw [this, h0.1, h0.2]
theorem wl_get {G : dG} {fr : Bool} {σ : dS} {n k : Nat} (h : k < n) : (wl G fr σ n)[k]? = some (entK G fr σ k) := by
  unfold wl
  rw [List.getElem?_map, List.getElem?_range h]
  rfl
theorem wl_set {G : dG} {fr : Bool} {σ σ' : dS} {n k : Nat} (h : ∀ k', k' < n → k' ≠ k → entK G fr σ k' = entK G fr σ' k') : (wl G fr σ n).set k (entK G fr σ' k) = wl G fr σ' n := by
  apply List.ext_getElem?
  intro i
  by_cases hi : i < n
  · by_cases hk : i = k
    · subst hk
      rw [List.getElem?_set_self (by unfold wl; simpa using hi), wl_get hi]
    · rw [List.getElem?_set_ne (Ne.symm hk), wl_get hi, wl_get hi, h i hi hk]
  · rw [List.getElem?_eq_none (by unfold wl; simp; omega), List.getElem?_eq_none (by unfold wl; simp; omega)]
theorem entK_congr {G : dG} {fr : Bool} {σ σ' : dS} {k : Nat} (h : σ k = σ' k) : entK G fr σ k = entK G fr σ' k := by
  unfold entK
  rw [h]
theorem wl_D {G : dG} {fr : Bool} {σ : dS} {n : Nat} : va_D (rg G) (wl G fr σ n) := by
  have key : ∀ (i : Nat) (p : Nat × va_E), (wl G fr σ n)[i]? = some p → p.1 = G.1 + i := by
    intro i p h
    have hl : i < n := by
      have := (List.getElem?_eq_some_iff.mp h).1
      unfold wl at this
      simpa using this
    rw [wl_get hl] at h
    cases h
    rfl
  refine ⟨fun i j p q hi hj hpq => ?_, fun k q hk => ?_⟩
  · have h1 := key i p hi
    have h2 := key j q hj
    omega
  · have h1 := key k q hk
    show G.1 ≤ q.1
    omega
theorem wl_succ {G : dG} {fr : Bool} {σ : dS} {n : Nat} : wl G fr σ (n + 1) = wl G fr σ n ++ [entK G fr σ n] := by
  unfold wl
  rw [List.range_succ, List.map_append]
  rfl
theorem wl_congr {G : dG} {fr : Bool} {σ σ' : dS} {n : Nat} (h : ∀ k, k < n → σ k = σ' k) : wl G fr σ n = wl G fr σ' n := by
  apply List.ext_getElem?
  intro i
  by_cases hi : i < n
  · rw [wl_get hi, wl_get hi, entK_congr (h i hi)]
  · rw [List.getElem?_eq_none (by unfold wl; simp; omega), List.getElem?_eq_none (by unfold wl; simp; omega)]
theorem up_row {σ : dS} {k k' : Nat} {i v : Int} (h : k' ≠ k) : up σ k i v k' = σ k' := by
  funext j
  exact up_ne σ (fun q => h q.1)
theorem adr_of {G : dG} {t : Nat} (h : t < 100000) : adr G t = G.1 + t := by
  unfold adr
  rw [if_pos h]
theorem nOf_up {fr : Bool} {σ : dS} {k : Nat} {i v : Int} (h : k < 1000000) : nOf fr (up σ k i v) = nOf fr σ := by
  unfold nOf
  rw [up_row (by omega)]
/-- a cell of the world, by its shape -/
theorem Wd.cell {G : dG} {fr : Bool} {σ : dS} {H : Heap} {k : Nat} {s : dSh} (h : Wd G fr σ H) (hk : k < nOf fr σ) (hs : spx k = some s) : (wl G fr σ (nOf fr σ))[k]? = some (G.1 + k, ent G fr (σ k) s) := by
  rw [wl_get hk]
  unfold entK
  rw [hs]
  rfl
theorem spx_lt {k : Nat} {s : dSh} (h : spx k = some s) : k < dN := by
  have := (List.getElem?_eq_some_iff.mp h).1
  rw [spl_len] at this
  exact this
/-- behind a change of one cell's row -/
theorem Wd.put {G : dG} {fr : Bool} {σ : dS} {H H1 : Heap} {k : Nat} {i v : Int} {s : dSh} (h : Wd G fr σ H) (hk : k < nOf fr σ) (hs : spx k = some s) (hv : iR v)
    (hP : va_P G.2.2.1 vwCl ((wl G fr σ (nOf fr σ)).set k (G.1 + k, ent G fr (up σ k i v k) s)) H1) (hz : H1.size = H.size) : Wd G fr (up σ k i v) H1 := by
  obtain ⟨-, h2, h3, h4, h5⟩ := h
  have hk2 : k < 1000000 := Nat.lt_of_lt_of_le (spx_lt hs) (by decide)
  have e : (wl G fr σ (nOf fr σ)).set k (G.1 + k, ent G fr (up σ k i v k) s) = wl G fr (up σ k i v) (nOf fr σ) := by
    have : (G.1 + k, ent G fr (up σ k i v k) s) = entK G fr (up σ k i v) k := by
      unfold entK
      rw [hs]
      rfl
    rw [this]
    exact wl_set (fun k' _ hk' => entK_congr (up_row hk').symm)
  refine ⟨by rw [nOf_up hk2, ← e]; exact hP, fun k' i' => ?_, by rw [nOf_up hk2]; exact h3, by rw [nOf_up hk2, hz]; exact h4, fun hf => ⟨by rw [nOf_up hk2, hz]; exact (h5 hf).1, fun k' h6 h7 i' => ?_⟩⟩
  · by_cases hq : k' = k ∧ i' = i
    · rw [hq.1, hq.2, up_same]; exact hv
    · rw [up_ne σ hq]; exact h2 k' i'
  · rw [nOf_up hk2] at h6
    rw [up_row (by omega)]
    exact (h5 hf).2 k' h6 h7 i'
end
section
/-! WHAT A METHOD DOES, over the store alone: items (op, a, b, tl) in blocks; what is owed behind an item is a predicate of room used, locals, stack, store -/
abbrev dL : Type := List (Option dX)
abbrev dK : Type := Nat × Nat → dL → List dX → dS → Prop
abbrev dR : Type := Option dX ⊕ Nat
abbrev dI : Type := Nat × Int × Nat × List Nat
abbrev dC : Type := Nat → List dX → dS → (dR → dS → Prop) → Prop
def shl (x s : Int) : Int := (Int32.ofInt x <<< (Int32.ofInt s &&& 31)).toInt
def shr (x s : Int) : Int := (Int32.ofInt x >>> (Int32.ofInt s &&& 31)).toInt
def ush (x s : Int) : Int := ((Int32.ofInt x).toUInt32 >>> ((Int32.ofInt s).toUInt32 &&& Int32.toUInt32 31)).toInt32.toInt
def idv (x y : Int) : Int := (Int32.ofInt x / Int32.ofInt y).toInt
def irm (x y : Int) : Int := (Int32.ofInt x - Int32.ofInt x / Int32.ofInt y * Int32.ofInt y).toInt
def i2c (x : Int) : Int := ((Int32.ofInt x).toUInt32 % 65536).toInt32.toInt
def ian (x y : Int) : Int := (Int32.ofInt x &&& Int32.ofInt y).toInt
def ior (x y : Int) : Int := (Int32.ofInt x ||| Int32.ofInt y).toInt
def ixr (x y : Int) : Int := (Int32.ofInt x ^^^ Int32.ofInt y).toInt
def lsh (x : Int) (s : Int) : Int := (Int64.ofInt x <<< ((Int32.ofInt s).toInt64 &&& 63)).toInt
def lio (x y : Int) : Int := (Int64.ofInt x ||| Int64.ofInt y).toInt
def cmp (x y : Int) : Int := if x < y then -1 else if x = y then 0 else 1
def lo32 (x : Int) : Int := wr x
def hi32 (x : Int) : Int := (x - wr x) / 4294967296
theorem lohi (x : Int) : lo32 x + 4294967296 * hi32 x = x := by
  unfold lo32 hi32
  have h : (x - wr x) % 4294967296 = 0 := by
    unfold wr
    have h1 : (Int.bmod x (4294967296 : Nat)) % ((4294967296 : Nat) : Int) = x % ((4294967296 : Nat) : Int) := Int.bmod_emod
    have h2 : (Int.bmod x 4294967296) % 4294967296 = x % 4294967296 := h1
    omega
  omega
def lS (x : Int) : Prop := -4611686018427387904 ≤ x ∧ x < 4611686018427387904
theorem hi_R {x : Int} (h : lS x) : iR (hi32 x) := by
  have h1 := lohi x
  have h2 := wr_R x
  unfold lo32 at h1
  unfold lS at h
  unfold iR at *
  omega
def isL : Option (Option dX) → Bool
  | some (some (.inr (.inl _))) => true
  | _ => false
def okS (ls : dL) (i : Nat) : Prop := i < ls.length ∧ (i = 0 ∨ isL ls[i - 1]? = false)
def c1 : dX → Bool
  | .inr (.inl _) => false
  | _ => true
def wt : List dX → Nat
  | [] => 0
  | v :: r => (if c1 v = true then 1 else 2) + wt r
def popN : Nat → List dX → List dX → Option (List dX × List dX)
  | 0, acc, st => some (acc, st)
  | n + 1, acc, v :: st => popN n (v :: acc) st
  | _ + 1, _, [] => none
def s_push (v : dX) (k : dK) : dK := fun u ls st σ => k u ls (v :: st) σ
def s_iload (i : Nat) (k : dK) : dK := fun u ls st σ => match ls[i]? with
  | some (some (.inl x)) => k u ls (.inl x :: st) σ
  | _ => False
def s_lload (i : Nat) (k : dK) : dK := fun u ls st σ => match ls[i]? with
  | some (some (.inr (.inl x))) => k u ls (.inr (.inl x) :: st) σ
  | _ => False
def s_aload (i : Nat) (k : dK) : dK := fun u ls st σ => match ls[i]? with
  | some (some (.inr (.inr t))) => k u ls (.inr (.inr t) :: st) σ
  | _ => False
def s_istore (i : Nat) (k : dK) : dK := fun u ls st σ => match st with
  | .inl x :: r => okS ls i ∧ k u (ls.set i (some (.inl x))) r σ
  | _ => False
def s_astore (i : Nat) (k : dK) : dK := fun u ls st σ => match st with
  | .inr (.inr t) :: r => okS ls i ∧ k u (ls.set i (some (.inr (.inr t)))) r σ
  | _ => False
def s_lstore (i : Nat) (k : dK) : dK := fun u ls st σ => match st with
  | .inr (.inl x) :: r => okS ls i ∧ i + 1 < ls.length ∧ k u ((ls.set i (some (.inr (.inl x)))).set (i + 1) none) r σ
  | _ => False
def s_iinc (i : Nat) (a : Int) (k : dK) : dK := fun u ls st σ => match ls[i]? with
  | some (some (.inl x)) => okS ls i ∧ k u (ls.set i (some (.inl (wr (x + a))))) st σ
  | _ => False
def s_bin (f : Int → Int → Int) (k : dK) : dK := fun u ls st σ => match st with
  | .inl y :: .inl x :: r => k u ls (.inl (f x y) :: r) σ
  | _ => False
def s_div (f : Int → Int → Int) (k : dK) : dK := fun u ls st σ => match st with
  | .inl y :: .inl x :: r => y ≠ 0 ∧ k u ls (.inl (f x y) :: r) σ
  | _ => False
def s_un (f : Int → Int) (k : dK) : dK := fun u ls st σ => match st with
  | .inl x :: r => k u ls (.inl (f x) :: r) σ
  | _ => False
def s_i2l (k : dK) : dK := fun u ls st σ => match st with
  | .inl x :: r => k u ls (.inr (.inl x) :: r) σ
  | _ => False
def s_lbin (f : Int → Int → Int) (k : dK) : dK := fun u ls st σ => match st with
  | .inr (.inl y) :: .inr (.inl x) :: r => k u ls (.inr (.inl (f x y)) :: r) σ
  | _ => False
def s_lshl (k : dK) : dK := fun u ls st σ => match st with
  | .inl y :: .inr (.inl x) :: r => k u ls (.inr (.inl (lsh x y)) :: r) σ
  | _ => False
def s_lcmp (k : dK) : dK := fun u ls st σ => match st with
  | .inr (.inl y) :: .inr (.inl x) :: r => k u ls (.inl (cmp x y) :: r) σ
  | _ => False
def s_dup (k : dK) : dK := fun u ls st σ => match st with
  | v :: r => c1 v = true ∧ k u ls (v :: v :: r) σ
  | _ => False
def s_pop (k : dK) : dK := fun u ls st σ => match st with
  | v :: r => c1 v = true ∧ k u ls r σ
  | _ => False
def s_dup2 (k : dK) : dK := fun u ls st σ => match st with
  | v :: w :: r => c1 v = true ∧ c1 w = true ∧ k u ls (v :: w :: v :: w :: r) σ
  | _ => False
def s_if (c : Int → Prop) (j : dK) (k : dK) : dK := fun u ls st σ => match st with
  | .inl x :: r => (c x → j u ls r σ) ∧ (¬ c x → k u ls r σ)
  | _ => False
def s_icmp (c : Int → Int → Prop) (j : dK) (k : dK) : dK := fun u ls st σ => match st with
  | .inl y :: .inl x :: r => (c x y → j u ls r σ) ∧ (¬ c x y → k u ls r σ)
  | _ => False
/-- in a making method a cell must be there already -/
def isT (fr : Bool) (σ : dS) (t : Nat) : Prop := fr = true → t < (σ 1000000 0).toNat
def s_getf (fr : Bool) (ci j : Nat) (k : dK) : dK := fun u ls st σ => match st with
  | .inr (.inr t) :: r => (match spx t with
    | some (.inr (c, fs)) => c = ci ∧ isT fr σ t ∧ (match fs[j]? with
      | some 0 => k u ls (.inl (σ t j) :: r) σ
      | some 1 => k u ls (.inr (.inl (wrL (σ t j + 4294967296 * σ t (j + 1000)))) :: r) σ
      | some (q + 2) => (fr = true → σ t j = 1) ∧ k u ls (.inr (.inr q) :: r) σ
      | none => False)
    | _ => False)
  | _ => False
/-- z: 0 an int field, 1 a boolean, 2 a long, 3 a reference -/
def s_putf (fr : Bool) (ci j z : Nat) (k : dK) : dK := fun u ls st σ => match st with
  | v :: .inr (.inr t) :: r => (match spx t with
    | some (.inr (c, fs)) => c = ci ∧ isT fr σ t ∧ (match fs[j]?, v with
      | some 0, .inl x => (z = 0 ∨ z = 1 ∧ (x = 0 ∨ x = 1)) ∧ k u ls r (up σ t j x)
      | some 1, .inr (.inl x) => z = 2 ∧ lS x ∧ k u ls r (up (up σ t j (lo32 x)) t (j + 1000) (hi32 x))
      | some (q + 2), .inr (.inr q') => z = 3 ∧ fr = true ∧ q' = q ∧ k u ls r (up σ t j 1)
      | _, _ => False)
    | _ => False)
  | _ => False
def s_ald (fr : Bool) (kind : Nat) (k : dK) : dK := fun u ls st σ => match st with
  | .inl i :: .inr (.inr t) :: r => (match spx t with
    | some (.inl (n, kd)) => kd = kind ∧ isT fr σ t ∧ 0 ≤ i ∧ i < n ∧ k u ls (.inl (σ t i) :: r) σ
    | _ => False)
  | _ => False
def s_ast (fr : Bool) (kind : Nat) (k : dK) : dK := fun u ls st σ => match st with
  | .inl x :: .inl i :: .inr (.inr t) :: r => (match spx t with
    | some (.inl (n, kd)) => kd = kind ∧ isT fr σ t ∧ 0 ≤ i ∧ i < n ∧ (kind = 1 → x = 0 ∨ x = 1) ∧ k u ls r (up σ t i x)
    | _ => False)
  | _ => False
def s_lald (k : dK) : dK := fun u ls st σ => match st with
  | .inl i :: .inr (.inr t) :: r => (match spx t with
    | some (.inl (n, kd)) => kd = 2 ∧ 0 ≤ i ∧ i < n ∧ k u ls (.inr (.inl (wrL (σ t i + 4294967296 * σ t (-1 - i)))) :: r) σ
    | _ => False)
  | _ => False
def s_last (k : dK) : dK := fun u ls st σ => match st with
  | .inr (.inl x) :: .inl i :: .inr (.inr t) :: r => (match spx t with
    | some (.inl (n, kd)) => kd = 2 ∧ 0 ≤ i ∧ i < n ∧ lS x ∧ k u ls r (up (up σ t i (lo32 x)) t (-1 - i) (hi32 x))
    | _ => False)
  | _ => False
def s_alen (fr : Bool) (k : dK) : dK := fun u ls st σ => match st with
  | .inr (.inr t) :: r => (match spx t with
    | some (.inl (n, _)) => isT fr σ t ∧ k u ls (.inl (n : Int) :: r) σ
    | _ => False)
  | _ => False
/-- a call of y with n words (the receiver among them), ci + 1 the receiver's class (0: none), (mc, ms) the room that it may take; th: it may throw -/
def s_call (fr : Bool) (C : dC) (B : Nat × Nat) (Q : dR → dS → Prop) (y n ci mc ms : Nat) (k : dK) : dK := fun u ls st σ => match popN n [] st with
  | some (as, r) => wt r ≤ 8 ∧ u.1 + mc ≤ B.1 ∧ u.2 + ms ≤ B.2 ∧ (ci = 0 ∨ (match as with
      | .inr (.inr t) :: _ => ci = 999 ∨ (match spx t with
        | some (.inr (c, _)) => c + 1 = ci ∧ isT fr σ t
        | _ => False)
      | _ => False)) ∧ C y as σ (fun res σ' => match res with
      | .inl (some v) => k (u.1 + mc, u.2 + ms) ls (v :: r) σ'
      | .inl none => k (u.1 + mc, u.2 + ms) ls r σ'
      | .inr e => Q (.inr e) σ')
  | none => False
def s_objI (k : dK) : dK := fun u ls st σ => match st with
  | .inr (.inr _) :: r => wt r ≤ 8 ∧ k u ls r σ
  | _ => False
def s_new (fr : Bool) (B : Nat × Nat) (ci N : Nat) (k : dK) : dK := fun u ls st σ => match spx (σ 1000000 0).toNat with
  | some (.inr (c, _)) => c = ci ∧ fr = true ∧ u.1 + 1 ≤ B.1 ∧ u.2 + N ≤ B.2 ∧ k (u.1 + 1, u.2 + N) ls (.inr (.inr (σ 1000000 0).toNat) :: st) (up σ 1000000 0 (((σ 1000000 0).toNat : Int) + 1))
  | _ => False
def s_newa (fr : Bool) (B : Nat × Nat) (kind : Nat) (k : dK) : dK := fun u ls st σ => match st with
  | .inl x :: r => (match spx (σ 1000000 0).toNat with
    | some (.inl (n, kd)) => kd = kind ∧ fr = true ∧ x = n ∧ n ≤ 100000 ∧ u.1 + 1 ≤ B.1 ∧ u.2 + n ≤ B.2 ∧ k (u.1 + 1, u.2 + n) ls (.inr (.inr (σ 1000000 0).toNat) :: r) (up σ 1000000 0 (((σ 1000000 0).toNat : Int) + 1))
    | _ => False)
  | _ => False
/-- z: 1 where a boolean is returned -/
def s_iret (B : Nat × Nat) (Q : dR → dS → Prop) (z : Nat) : dK := fun u _ st σ => match st with
  | [.inl x] => u.1 ≤ B.1 ∧ u.2 ≤ B.2 ∧ (z = 1 → x = 0 ∨ x = 1) ∧ Q (.inl (some (.inl x))) σ
  | _ => False
def s_lret (B : Nat × Nat) (Q : dR → dS → Prop) : dK := fun u _ st σ => match st with
  | [.inr (.inl x)] => u.1 ≤ B.1 ∧ u.2 ≤ B.2 ∧ Q (.inl (some (.inr (.inl x)))) σ
  | _ => False
def s_vret (B : Nat × Nat) (Q : dR → dS → Prop) : dK := fun u _ st σ => match st with
  | [] => u.1 ≤ B.1 ∧ u.2 ≤ B.2 ∧ Q (.inl none) σ
  | _ => False
def swT (P : Nat → dK) (d : Nat) (x : Int) (u : Nat × Nat) (ls : dL) (r : List dX) (σ : dS) : Int → List Nat → Prop
  | _, [] => P d u ls r σ
  | a, lb :: tl => (x = a → P lb u ls r σ) ∧ (¬ x = a → swT P d x u ls r σ (a + 1) tl)
def s_tsw (P : Nat → dK) (d : Nat) (a : Int) (tl : List Nat) : dK := fun u ls st σ => match st with
  | .inl x :: r => swT P d x u ls r σ a tl
  | _ => False
def swL (P : Nat → dK) (d : Nat) (x : Int) (u : Nat × Nat) (ls : dL) (r : List dX) (σ : dS) : List Nat → Prop
  | a :: lb :: tl => (x = (a : Int) → P lb u ls r σ) ∧ (¬ x = (a : Int) → swL P d x u ls r σ tl)
  | _ => P d u ls r σ
def s_lsw (P : Nat → dK) (d : Nat) (tl : List Nat) : dK := fun u ls st σ => match st with
  | .inl x :: r => swL P d x u ls r σ tl
  | _ => False
def s_throw (B : Nat × Nat) (Q : dR → dS → Prop) (e : Nat) : dK := fun u _ st σ => u.1 + 1 ≤ B.1 ∧ u.2 + 6 ≤ B.2 ∧ wt st ≤ 8 ∧ Q (.inr e) σ
def n0 (tl : List Nat) (i : Nat) : Nat := tl.getD i 0
def stp (fr : Bool) (B : Nat × Nat) (C : dC) (P : Nat → dK) (Q : dR → dS → Prop) (op : Nat) (a : Int) (b : Nat) (tl : List Nat) (k : dK) : dK := match op with
  | 0 => s_push (.inl a) k
  | 1 => s_push (.inl a) k
  | 2 => s_push (.inl a) k
  | 3 => s_push (.inl a) k
  | 4 => s_push (.inl a) k
  | 5 => s_iload b k
  | 6 => s_iload b k
  | 7 => s_aload b k
  | 8 => s_aload b k
  | 9 => s_lload b k
  | 10 => s_lload b k
  | 11 => s_istore b k
  | 12 => s_istore b k
  | 13 => s_astore b k
  | 14 => s_astore b k
  | 15 => s_lstore b k
  | 16 => s_lstore b k
  | 17 => s_iinc b a k
  | 18 => s_bin (fun x y => wr (x + y)) k
  | 19 => s_bin (fun x y => wr (x - y)) k
  | 20 => s_bin (fun x y => wr (x * y)) k
  | 21 => s_div idv k
  | 22 => s_div irm k
  | 23 => s_un (fun x => wr (-x)) k
  | 24 => s_bin shl k
  | 25 => s_bin shr k
  | 26 => s_bin ush k
  | 27 => s_bin ian k
  | 28 => s_bin ior k
  | 29 => s_bin ixr k
  | 30 => s_i2l k
  | 32 => s_un i2c k
  | 33 => s_lcmp k
  | 34 => s_push (.inr (.inl a)) k
  | 35 => s_lbin (fun x y => wrL (x + y)) k
  | 36 => s_lbin (fun x y => wrL (x - y)) k
  | 37 => s_lshl k
  | 38 => s_lbin lio k
  | 39 => s_push (.inr (.inl a)) k
  | 40 => s_dup k
  | 41 => s_pop k
  | 42 => s_dup2 k
  | 43 => P b
  | 44 => s_if (fun x => x = 0) (P b) k
  | 45 => s_if (fun x => x ≠ 0) (P b) k
  | 46 => s_if (fun x => x < 0) (P b) k
  | 47 => s_if (fun x => 0 ≤ x) (P b) k
  | 48 => s_if (fun x => 0 < x) (P b) k
  | 49 => s_if (fun x => x ≤ 0) (P b) k
  | 50 => s_icmp (fun x y => x = y) (P b) k
  | 51 => s_icmp (fun x y => x ≠ y) (P b) k
  | 52 => s_icmp (fun x y => x < y) (P b) k
  | 53 => s_icmp (fun x y => y ≤ x) (P b) k
  | 54 => s_icmp (fun x y => y < x) (P b) k
  | 55 => s_icmp (fun x y => x ≤ y) (P b) k
  | 56 => s_getf fr (n0 tl 0) (n0 tl 1) k
  | 57 => s_putf fr (n0 tl 0) (n0 tl 1) (n0 tl 2) k
  | 58 => s_ald fr 0 k
  | 59 => s_ast fr 0 k
  | 60 => s_ald fr 1 k
  | 61 => s_ast fr 1 k
  | 62 => s_lald k
  | 63 => s_last k
  | 64 => s_alen fr k
  | 65 => s_call fr C B Q (n0 tl 0) (n0 tl 1) (n0 tl 2) (n0 tl 3) (n0 tl 4) k
  | 66 => s_call fr C B Q (n0 tl 0) (n0 tl 1) 0 (n0 tl 3) (n0 tl 4) k
  | 67 => s_call fr C B Q (n0 tl 0) (n0 tl 1) 999 (n0 tl 3) (n0 tl 4) k
  | 68 => s_objI k
  | 69 => s_new fr B (n0 tl 0) (n0 tl 1) k
  | 70 => s_newa fr B (n0 tl 0) k
  | 71 => s_iret B Q (n0 tl 0)
  | 72 => s_lret B Q
  | 73 => s_vret B Q
  | 74 => s_tsw P b a tl
  | 75 => s_lsw P b tl
  | 76 => s_throw B Q (n0 tl 0)
  | 78 => P b
  | 79 => s_putf fr (n0 tl 0) (n0 tl 1) (n0 tl 2) k
  | _ => fun _ _ _ _ => False
def ex (fr : Bool) (B : Nat × Nat) (C : dC) (P : Nat → dK) (Q : dR → dS → Prop) : List dI → dK
  | [] => fun _ _ _ _ => False
  | (op, a, b, tl) :: is => stp fr B C P Q op a b tl (ex fr B C P Q is)
/-- the least that is closed -/
def lfp (F : (Nat → dK) → Nat → dK) : Nat → dK := fun lb u ls st σ => ∀ P : Nat → dK, (∀ lb u ls st σ, F P lb u ls st σ → P lb u ls st σ) → P lb u ls st σ
def bdy (blk : Nat → Nat → List dI) (fr : Bool) (B : Nat × Nat) (C : dC) (Q : dR → dS → Prop) (y : Nat) (P : Nat → dK) (lb : Nat) : dK := ex fr B C P Q (blk y lb)
/-- method y, with calls at most d deep: from args and a store; what it answers and leaves satisfies Q -/
def wpm (blk : Nat → Nat → List dI) (inf : Nat → Nat × Bool × (Nat × Nat)) : Nat → dC
  | 0 => fun _ _ _ _ => False
  | d + 1 => fun y as σ Q => (as.all c1 = true ∧ as.length ≤ (inf y).1) ∧ lfp (bdy blk (inf y).2.1 (inf y).2.2 (wpm blk inf d) Q y) 0 (0, 0) (as.map some ++ List.replicate ((inf y).1 - as.length) none) [] σ
end
section
/-! THE ROWS: what an item does over the store, the machine does -/
def wfx : dX → Prop
  | .inl x => iR x
  | .inr (.inl x) => lR x
  | .inr (.inr _) => True
def wfs (st : List dX) : Prop := ∀ v ∈ st, wfx v
def wfl (ls : dL) : Prop := ∀ (i : Nat) (v : dX), ls[i]? = some (some v) → wfx v
def kl (G : dG) : Nat → dL → List (Nat × Value)
  | _, [] => []
  | i, none :: r => kl G (i + 1) r
  | i, some v :: r => (i, dv G v) :: kl G (i + 1) r
theorem wfs_c {v : dX} {st : List dX} (h1 : wfx v) (h2 : wfs st) : wfs (v :: st) := fun w h => (List.mem_cons.mp h).elim (fun e => e ▸ h1) (h2 w)
theorem wfs_t {v : dX} {st : List dX} (h : wfs (v :: st)) : wfs st := fun w hw => h w (List.mem_cons_of_mem _ hw)
theorem wfs_h {v : dX} {st : List dX} (h : wfs (v :: st)) : wfx v := h v List.mem_cons_self
theorem kl_mem (G : dG) : ∀ (ls : dL) (j : Nat) (q : Nat × Value), q ∈ kl G j ls ↔ ∃ (n : Nat) (v : dX), ls[n]? = some (some v) ∧ q = (j + n, dv G v)
  | [], j, q => by simp [kl]
  | none :: r, j, q => by
    rw [kl, kl_mem G r (j + 1) q]
    constructor
    · rintro ⟨n, v, h1, h2⟩
      exact ⟨n + 1, v, by simpa using h1, by rw [h2]; congr 1; omega⟩
    · rintro ⟨n, v, h1, h2⟩
      cases n with
      | zero => simp at h1
      | succ n => exact ⟨n, v, by simpa using h1, by rw [h2]; congr 1; omega⟩
  | some w :: r, j, q => by
    rw [kl, List.mem_cons, kl_mem G r (j + 1) q]
    constructor
    · rintro (h | ⟨n, v, h1, h2⟩)
      · exact ⟨0, w, rfl, h⟩
      · exact ⟨n + 1, v, by simpa using h1, by rw [h2]; congr 1; omega⟩
    · rintro ⟨n, v, h1, h2⟩
      cases n with
      | zero =>
        simp only [List.getElem?_cons_zero, Option.some.injEq] at h1
        subst h1
        exact Or.inl h2
      | succ n => exact Or.inr ⟨n, v, by simpa using h1, by rw [h2]; congr 1; omega⟩
theorem kl_at {G : dG} {la : Array Slot} {nL : Nat} {ls : dL} {i : Nat} {v : dX} (h : lv_has la nL (kl G 0 ls)) (hv : ls[i]? = some (some v)) : la[i]? = some (.val (dv G v)) :=
  h.2.2 (i, dv G v) ((kl_mem G ls 0 _).mpr ⟨i, v, hv, by rw [Nat.zero_add]⟩)
theorem lv_less {la : Array Slot} {nL : Nat} {l l' : List (Nat × Value)} (h : lv_has la nL l) (hs : ∀ q ∈ l', q ∈ l) : lv_has la nL l' := ⟨h.1, h.2.1, fun q hq => h.2.2 q (hs q hq)⟩
theorem dv_cat {G : dG} {v : dX} : (dv G v).category = 2 ↔ isL (some (some v)) = true := by
  rcases v with x | x | t <;> simp [dv, Value.category, isL]
theorem dv_cat1 {G : dG} {v : dX} (h : c1 v = true) : (dv G v).category = 1 := by
  rcases v with x | x | t <;> simp [dv, Value.category, c1] at *
theorem kl_store {G : dG} {la : Array Slot} {nL : Nat} {ls : dL} {i : Nat} {v : dX} (ok : okS ls i) (h : lv_has la nL ((i, dv G v) :: (kl G 0 ls).filter (fun q => !(q.1 == i) && !(q.1 + 1 == i && q.2.category == 2)))) : lv_has la nL (kl G 0 (ls.set i (some v))) := by
  refine lv_less h fun q hq => ?_
  obtain ⟨n, w, h1, rfl⟩ := (kl_mem G _ 0 q).mp hq
  rw [Nat.zero_add]
  by_cases hn : n = i
  · subst hn
    rw [List.getElem?_set_self ok.1] at h1
    cases h1
    exact List.mem_cons_self
  · rw [List.getElem?_set_ne (Ne.symm hn)] at h1
    refine List.mem_cons_of_mem _ (List.mem_filter.mpr ⟨(kl_mem G ls 0 _).mpr ⟨n, w, h1, by rw [Nat.zero_add]⟩, ?_⟩)
    simp only [Bool.and_eq_true, Bool.not_eq_true', beq_eq_false_iff_ne, ne_eq, Bool.and_eq_false_iff]
    refine ⟨hn, ?_⟩
    by_cases hn2 : n + 1 = i
    · right
      intro hc
      have hL := dv_cat.mp hc
      rcases ok.2 with z | z
      · omega
      · rw [show i - 1 = n from by omega, h1, hL] at z
        cases z
    · left; exact hn2
theorem kl_storeL {G : dG} {la : Array Slot} {nL : Nat} {ls : dL} {i : Nat} {v : dX} (ok : okS ls i) (ok2 : i + 1 < ls.length) (h : lv_has la nL ((i, dv G v) :: (kl G 0 ls).filter (fun q => !(q.1 == i) && (!(q.1 == i + 1) && !(q.1 + 1 == i && q.2.category == 2))))) : lv_has la nL (kl G 0 ((ls.set i (some v)).set (i + 1) none)) := by
  refine lv_less h fun q hq => ?_
  obtain ⟨n, w, h1, rfl⟩ := (kl_mem G _ 0 q).mp hq
  rw [Nat.zero_add]
  by_cases hn1 : n = i + 1
  · subst hn1
    rw [List.getElem?_set_self (by simpa using ok2)] at h1
    cases h1
  · rw [List.getElem?_set_ne (Ne.symm hn1)] at h1
    by_cases hn : n = i
    · subst hn
      rw [List.getElem?_set_self ok.1] at h1
      cases h1
      exact List.mem_cons_self
    · rw [List.getElem?_set_ne (Ne.symm hn)] at h1
      refine List.mem_cons_of_mem _ (List.mem_filter.mpr ⟨(kl_mem G ls 0 _).mpr ⟨n, w, h1, by rw [Nat.zero_add]⟩, ?_⟩)
      simp only [Bool.and_eq_true, Bool.not_eq_true', beq_eq_false_iff_ne, ne_eq, Bool.and_eq_false_iff]
      refine ⟨hn, hn1, ?_⟩
      by_cases hn2 : n + 1 = i
      · right
        intro hc
        have hL := dv_cat.mp hc
        rcases ok.2 with z | z
        · omega
        · rw [show i - 1 = n from by omega, h1, hL] at z
          cases z
      · left; exact hn2
theorem wfl_set {ls : dL} {i : Nat} {v : dX} (h : wfl ls) (hv : wfx v) : wfl (ls.set i (some v)) := by
  intro j w hj
  by_cases hij : i = j
  · subst hij
    have hl := (List.getElem?_eq_some_iff.mp hj).1
    rw [List.getElem?_set_self (by simpa using hl)] at hj
    cases hj
    exact hv
  · rw [List.getElem?_set_ne hij] at hj
    exact h j w hj
theorem wfl_no {ls : dL} {i : Nat} (h : wfl ls) : wfl (ls.set i none) := by
  intro j w hj
  by_cases hij : i = j
  · subst hij
    have hl := (List.getElem?_eq_some_iff.mp hj).1
    rw [List.getElem?_set_self (by simpa using hl)] at hj
    cases hj
  · rw [List.getElem?_set_ne hij] at hj
    exact h j w hj
/-- the machine goes on from pc and comes to Qm, from every state that the store and the values picture -/
def VW (p : Program) (l : Launch) (e : Env) (R : Room) (s : State) (m : MethodId) (args : Array Value) (below : List Frame) (meth : Method) (c : Code) (Qm : State → Prop) (G : dG) (fr : Bool) (nL pc : Nat) : dK := fun u ls st σ =>
  ls.length = nL → wfl ls → wfs st → ∀ (H : Heap) (locs : List Loc) (la : Array Slot), Wd G fr σ H → va_S (rg G) s.heap H locs → lv_has la nL (kl G 0 ls) → W p l e R s m args below meth c H locs u.1 u.2 Qm (F0 m pc la (st.map (dv G)))
section DR
variable {p : Program} {l : Launch} {e : Env} {R : Room} {s : State} {m : MethodId} {args : Array Value} {below : List Frame} {meth : Method} {c : Code} {Qm : State → Prop} {G : dG} {fr : Bool} {nL pc : Nat} {cc : ByteArray} {u : Nat × Nat} {ls : dL} {st : List dX} {σ : dS}
theorem r_iconst (hx : p.tables.exec = Jvm.exec) (hb : c.code = cc) {a : Int} (d : decode cc pc = .ok (.iconst a, 1)) (ha : iR a) (k : s_push (.inl a) (VW p l e R s m args below meth c Qm G fr nL (pc + 1)) u ls st σ) : VW p l e R s m args below meth c Qm G fr nL pc u ls st σ :=
  fun hn w1 w2 H locs la hW hS hl => lv_iconst hx hb d rfl (k hn w1 (wfs_c ha w2) H locs la hW hS hl)
theorem r_bipush (hx : p.tables.exec = Jvm.exec) (hb : c.code = cc) {a : Int} (d : decode cc pc = .ok (.bipush a, 2)) (hv : (Int8.ofInt a).toInt32 = Int32.ofInt a) (ha : iR a) (k : s_push (.inl a) (VW p l e R s m args below meth c Qm G fr nL (pc + 2)) u ls st σ) : VW p l e R s m args below meth c Qm G fr nL pc u ls st σ :=
  fun hn w1 w2 H locs la hW hS hl => lv_bipush hx hb d hv (k hn w1 (wfs_c ha w2) H locs la hW hS hl)
theorem r_sipush (hx : p.tables.exec = Jvm.exec) (hb : c.code = cc) {a : Int} (d : decode cc pc = .ok (.sipush a, 3)) (hv : (Int16.ofInt a).toInt32 = Int32.ofInt a) (ha : iR a) (k : s_push (.inl a) (VW p l e R s m args below meth c Qm G fr nL (pc + 3)) u ls st σ) : VW p l e R s m args below meth c Qm G fr nL pc u ls st σ :=
  fun hn w1 w2 H locs la hW hS hl => lv_sipush hx hb d hv (k hn w1 (wfs_c ha w2) H locs la hW hS hl)
theorem r_ldc (hx : p.tables.exec = Jvm.exec) (hb : c.code = cc) {own : String} (hown : s.vm.findClass own = some m.cls) {a : Int} {b : Nat} (hc : (Cond.constant own b (Int32.ofInt a)).before args s = true) (d : decode cc pc = .ok (.ldc b, 2)) (ha : iR a) (k : s_push (.inl a) (VW p l e R s m args below meth c Qm G fr nL (pc + 2)) u ls st σ) : VW p l e R s m args below meth c Qm G fr nL pc u ls st σ :=
  fun hn w1 w2 H locs la hW hS hl => lv_ldc hx hb hown hc d (k hn w1 (wfs_c ha w2) H locs la hW hS hl)
theorem r_ldcw (hx : p.tables.exec = Jvm.exec) (hb : c.code = cc) {own : String} (hown : s.vm.findClass own = some m.cls) {a : Int} {b : Nat} (hc : (Cond.constant own b (Int32.ofInt a)).before args s = true) (d : decode cc pc = .ok (.ldc_w b, 3)) (ha : iR a) (k : s_push (.inl a) (VW p l e R s m args below meth c Qm G fr nL (pc + 3)) u ls st σ) : VW p l e R s m args below meth c Qm G fr nL pc u ls st σ :=
  fun hn w1 w2 H locs la hW hS hl => lv_ldcw hx hb hown hc d (k hn w1 (wfs_c ha w2) H locs la hW hS hl)
theorem r_ldc2 (hx : p.tables.exec = Jvm.exec) (hb : c.code = cc) {own : String} (hown : s.vm.findClass own = some m.cls) {a : Int} {b : Nat} (hc : (Cond.constantLong own b (Int64.ofInt a)).before args s = true) (d : decode cc pc = .ok (.ldc2_w b, 3)) (ha : lR a) (k : s_push (.inr (.inl a)) (VW p l e R s m args below meth c Qm G fr nL (pc + 3)) u ls st σ) : VW p l e R s m args below meth c Qm G fr nL pc u ls st σ :=
  fun hn w1 w2 H locs la hW hS hl => lv_ldc2 hx hb hown hc d (k hn w1 (wfs_c (v := .inr (.inl a)) ha w2) H locs la hW hS hl)
theorem r_lconst (hx : p.tables.exec = Jvm.exec) (hb : c.code = cc) {n : Fin 2} {a : Int} (d : decode cc pc = .ok (.lconst n, 1)) (hv : Int64.ofNat (n : Nat) = Int64.ofInt a) (ha : lR a) (k : s_push (.inr (.inl a)) (VW p l e R s m args below meth c Qm G fr nL (pc + 1)) u ls st σ) : VW p l e R s m args below meth c Qm G fr nL pc u ls st σ :=
  fun hn w1 w2 H locs la hW hS hl => lv_lconst hx hb d hv (k hn w1 (wfs_c (v := .inr (.inl a)) ha w2) H locs la hW hS hl)
theorem r_iload (hx : p.tables.exec = Jvm.exec) (hb : c.code = cc) {i : Nat} (d : decode cc pc = .ok (.iload i, 2)) (k : s_iload i (VW p l e R s m args below meth c Qm G fr nL (pc + 2)) u ls st σ) : VW p l e R s m args below meth c Qm G fr nL pc u ls st σ := by
  intro hn w1 w2 H locs la hW hS hl
  unfold s_iload at k
  split at k
  · rename_i x hv
    exact lv_iload hx hb d (kl_at hl hv) (k hn w1 (wfs_c (w1 _ _ hv) w2) H locs la hW hS hl)
  · exact k.elim
theorem r_iload_n (hx : p.tables.exec = Jvm.exec) (hb : c.code = cc) {n : Fin 4} {i : Nat} (hi : (n : Nat) = i) (d : decode cc pc = .ok (.iload_n n, 1)) (k : s_iload i (VW p l e R s m args below meth c Qm G fr nL (pc + 1)) u ls st σ) : VW p l e R s m args below meth c Qm G fr nL pc u ls st σ := by
  intro hn w1 w2 H locs la hW hS hl
  unfold s_iload at k
  split at k
  · rename_i x hv
    exact lv_iload_n hx hb d hi (kl_at hl hv) (k hn w1 (wfs_c (w1 _ _ hv) w2) H locs la hW hS hl)
  · exact k.elim
theorem r_lload (hx : p.tables.exec = Jvm.exec) (hb : c.code = cc) {i : Nat} (d : decode cc pc = .ok (.lload i, 2)) (k : s_lload i (VW p l e R s m args below meth c Qm G fr nL (pc + 2)) u ls st σ) : VW p l e R s m args below meth c Qm G fr nL pc u ls st σ := by
  intro hn w1 w2 H locs la hW hS hl
  unfold s_lload at k
  split at k
  · rename_i x hv
    exact lv_lload hx hb d (kl_at hl hv) (k hn w1 (wfs_c (w1 _ _ hv) w2) H locs la hW hS hl)
  · exact k.elim
theorem r_lload_n (hx : p.tables.exec = Jvm.exec) (hb : c.code = cc) {n : Fin 4} {i : Nat} (hi : (n : Nat) = i) (d : decode cc pc = .ok (.lload_n n, 1)) (k : s_lload i (VW p l e R s m args below meth c Qm G fr nL (pc + 1)) u ls st σ) : VW p l e R s m args below meth c Qm G fr nL pc u ls st σ := by
  intro hn w1 w2 H locs la hW hS hl
  unfold s_lload at k
  split at k
  · rename_i x hv
    exact lv_lload_n hx hb d hi (kl_at hl hv) (k hn w1 (wfs_c (w1 _ _ hv) w2) H locs la hW hS hl)
  · exact k.elim
theorem r_aload (hx : p.tables.exec = Jvm.exec) (hb : c.code = cc) {i : Nat} (d : decode cc pc = .ok (.aload i, 2)) (k : s_aload i (VW p l e R s m args below meth c Qm G fr nL (pc + 2)) u ls st σ) : VW p l e R s m args below meth c Qm G fr nL pc u ls st σ := by
  intro hn w1 w2 H locs la hW hS hl
  unfold s_aload at k
  split at k
  · rename_i x hv
    exact lv_aload hx hb d (kl_at hl hv) (k hn w1 (wfs_c (w1 _ _ hv) w2) H locs la hW hS hl)
  · exact k.elim
theorem r_aload_n (hx : p.tables.exec = Jvm.exec) (hb : c.code = cc) {n : Fin 4} {i : Nat} (hi : (n : Nat) = i) (d : decode cc pc = .ok (.aload_n n, 1)) (k : s_aload i (VW p l e R s m args below meth c Qm G fr nL (pc + 1)) u ls st σ) : VW p l e R s m args below meth c Qm G fr nL pc u ls st σ := by
  intro hn w1 w2 H locs la hW hS hl
  unfold s_aload at k
  split at k
  · rename_i x hv
    exact lv_aload_n hx hb d hi (kl_at hl hv) (k hn w1 (wfs_c (w1 _ _ hv) w2) H locs la hW hS hl)
  · exact k.elim
theorem r_istore (hx : p.tables.exec = Jvm.exec) (hb : c.code = cc) {i : Nat} (d : decode cc pc = .ok (.istore i, 2)) (k : s_istore i (VW p l e R s m args below meth c Qm G fr nL (pc + 2)) u ls st σ) : VW p l e R s m args below meth c Qm G fr nL pc u ls st σ := by
  intro hn w1 w2 H locs la hW hS hl
  unfold s_istore at k
  split at k
  · obtain ⟨ok, k⟩ := k
    exact lv_istore hx hb d hl (by rw [← hn]; exact ok.1) rfl (fun la' h => k (by rw [List.length_set]; exact hn) (wfl_set w1 (wfs_h w2)) (wfs_t w2) H locs la' hW hS (kl_store ok h))
  · exact k.elim
theorem r_istore_n (hx : p.tables.exec = Jvm.exec) (hb : c.code = cc) {n : Fin 4} {i : Nat} (hi : (n : Nat) = i) (d : decode cc pc = .ok (.istore_n n, 1)) (k : s_istore i (VW p l e R s m args below meth c Qm G fr nL (pc + 1)) u ls st σ) : VW p l e R s m args below meth c Qm G fr nL pc u ls st σ := by
  intro hn w1 w2 H locs la hW hS hl
  unfold s_istore at k
  split at k
  · obtain ⟨ok, k⟩ := k
    exact lv_istore_n hx hb d hi hl (by rw [← hn]; exact ok.1) rfl (fun la' h => k (by rw [List.length_set]; exact hn) (wfl_set w1 (wfs_h w2)) (wfs_t w2) H locs la' hW hS (kl_store ok h))
  · exact k.elim
theorem r_astore (hx : p.tables.exec = Jvm.exec) (hb : c.code = cc) {i : Nat} (d : decode cc pc = .ok (.astore i, 2)) (k : s_astore i (VW p l e R s m args below meth c Qm G fr nL (pc + 2)) u ls st σ) : VW p l e R s m args below meth c Qm G fr nL pc u ls st σ := by
  intro hn w1 w2 H locs la hW hS hl
  unfold s_astore at k
  split at k
  · rename_i t r
    obtain ⟨ok, k⟩ := k
    exact lv_astore hx hb d hl (by rw [← hn]; exact ok.1) rfl (fun la' h => k (by rw [List.length_set]; exact hn) (wfl_set w1 (wfs_h w2)) (wfs_t w2) H locs la' hW hS (kl_store (v := .inr (.inr t)) ok h))
  · exact k.elim
theorem r_astore_n (hx : p.tables.exec = Jvm.exec) (hb : c.code = cc) {n : Fin 4} {i : Nat} (hi : (n : Nat) = i) (d : decode cc pc = .ok (.astore_n n, 1)) (k : s_astore i (VW p l e R s m args below meth c Qm G fr nL (pc + 1)) u ls st σ) : VW p l e R s m args below meth c Qm G fr nL pc u ls st σ := by
  intro hn w1 w2 H locs la hW hS hl
  unfold s_astore at k
  split at k
  · rename_i t r
    obtain ⟨ok, k⟩ := k
    exact lv_astore_n hx hb d hi hl (by rw [← hn]; exact ok.1) rfl (fun la' h => k (by rw [List.length_set]; exact hn) (wfl_set w1 (wfs_h w2)) (wfs_t w2) H locs la' hW hS (kl_store (v := .inr (.inr t)) ok h))
  · exact k.elim
theorem r_lstore (hx : p.tables.exec = Jvm.exec) (hb : c.code = cc) {i : Nat} (d : decode cc pc = .ok (.lstore i, 2)) (k : s_lstore i (VW p l e R s m args below meth c Qm G fr nL (pc + 2)) u ls st σ) : VW p l e R s m args below meth c Qm G fr nL pc u ls st σ := by
  intro hn w1 w2 H locs la hW hS hl
  unfold s_lstore at k
  split at k
  · rename_i x r
    obtain ⟨ok, ok2, k⟩ := k
    exact lv_lstore hx hb d hl (by rw [← hn]; exact ok2) rfl (fun la' h => k (by rw [List.length_set, List.length_set]; exact hn) (wfl_no (wfl_set w1 (wfs_h w2))) (wfs_t w2) H locs la' hW hS (kl_storeL (v := .inr (.inl x)) ok ok2 h))
  · exact k.elim
theorem r_lstore_n (hx : p.tables.exec = Jvm.exec) (hb : c.code = cc) {n : Fin 4} {i : Nat} (hi : (n : Nat) = i) (d : decode cc pc = .ok (.lstore_n n, 1)) (k : s_lstore i (VW p l e R s m args below meth c Qm G fr nL (pc + 1)) u ls st σ) : VW p l e R s m args below meth c Qm G fr nL pc u ls st σ := by
  intro hn w1 w2 H locs la hW hS hl
  unfold s_lstore at k
  split at k
  · rename_i x r
    obtain ⟨ok, ok2, k⟩ := k
    exact lv_lstore_n hx hb d hi hl (by rw [← hn]; exact ok2) rfl (fun la' h => k (by rw [List.length_set, List.length_set]; exact hn) (wfl_no (wfl_set w1 (wfs_h w2))) (wfs_t w2) H locs la' hW hS (kl_storeL (v := .inr (.inl x)) ok ok2 h))
  · exact k.elim
theorem kl_at2 {G : dG} {ls : dL} {i : Nat} {v : dX} (hv : ls[i]? = some (some v)) : ∃ k : Nat, (kl G 0 ls)[k]? = some (i, dv G v) := by
  have h : (i, dv G v) ∈ kl G 0 ls := (kl_mem G ls 0 _).mpr ⟨i, v, hv, by rw [Nat.zero_add]⟩
  exact List.getElem?_of_mem h
theorem r_iinc (hx : p.tables.exec = Jvm.exec) (hb : c.code = cc) {i : Nat} {a : Int} (d : decode cc pc = .ok (.iinc i a, 3)) (k : s_iinc i a (VW p l e R s m args below meth c Qm G fr nL (pc + 3)) u ls st σ) : VW p l e R s m args below meth c Qm G fr nL pc u ls st σ := by
  intro hn w1 w2 H locs la hW hS hl
  unfold s_iinc at k
  split at k
  · rename_i x hv
    obtain ⟨ok, k⟩ := k
    obtain ⟨k0, hk0⟩ := kl_at2 (G := G) hv
    exact lv_iinc hx hb d hl hk0 (oi_add x a) (by rw [← hn]; exact ok.1) rfl (fun la' h => k (by rw [List.length_set]; exact hn) (wfl_set w1 (wr_R _)) w2 H locs la' hW hS (kl_store ok h))
  · exact k.elim
theorem r_iadd (hx : p.tables.exec = Jvm.exec) (hb : c.code = cc) (d : decode cc pc = .ok (.iadd, 1)) (k : s_bin (fun x y => wr (x + y)) (VW p l e R s m args below meth c Qm G fr nL (pc + 1)) u ls st σ) : VW p l e R s m args below meth c Qm G fr nL pc u ls st σ := by
  intro hn w1 w2 H locs la hW hS hl
  unfold s_bin at k
  split at k
  · rename_i y x r
    have k := k hn w1 (wfs_c (wr_R _) (wfs_t (wfs_t w2))) H locs la hW hS hl
    refine lv_iadd hx hb d ?_
    rw [oi_add]
    exact k
  · exact k.elim
theorem r_isub (hx : p.tables.exec = Jvm.exec) (hb : c.code = cc) (d : decode cc pc = .ok (.isub, 1)) (k : s_bin (fun x y => wr (x - y)) (VW p l e R s m args below meth c Qm G fr nL (pc + 1)) u ls st σ) : VW p l e R s m args below meth c Qm G fr nL pc u ls st σ := by
  intro hn w1 w2 H locs la hW hS hl
  unfold s_bin at k
  split at k
  · rename_i y x r
    have k := k hn w1 (wfs_c (wr_R _) (wfs_t (wfs_t w2))) H locs la hW hS hl
    refine lv_isub hx hb d ?_
    rw [oi_sub]
    exact k
  · exact k.elim
theorem r_imul (hx : p.tables.exec = Jvm.exec) (hb : c.code = cc) (d : decode cc pc = .ok (.imul, 1)) (k : s_bin (fun x y => wr (x * y)) (VW p l e R s m args below meth c Qm G fr nL (pc + 1)) u ls st σ) : VW p l e R s m args below meth c Qm G fr nL pc u ls st σ := by
  intro hn w1 w2 H locs la hW hS hl
  unfold s_bin at k
  split at k
  · rename_i y x r
    have k := k hn w1 (wfs_c (wr_R _) (wfs_t (wfs_t w2))) H locs la hW hS hl
    refine lv_imul hx hb d ?_
    rw [oi_mul]
    exact k
  · exact k.elim
theorem r_ineg (hx : p.tables.exec = Jvm.exec) (hb : c.code = cc) (d : decode cc pc = .ok (.ineg, 1)) (k : s_un (fun x => wr (-x)) (VW p l e R s m args below meth c Qm G fr nL (pc + 1)) u ls st σ) : VW p l e R s m args below meth c Qm G fr nL pc u ls st σ := by
  intro hn w1 w2 H locs la hW hS hl
  unfold s_un at k
  split at k
  · rename_i x r
    have k := k hn w1 (wfs_c (wr_R _) (wfs_t w2)) H locs la hW hS hl
    refine lv_ineg hx hb d ?_
    show W p l e R s m args below meth c H locs u.1 u.2 Qm (F0 m (pc + 1) la (.int (- Int32.ofInt x) :: r.map (dv G)))
    rw [oi_neg]
    exact k
  · exact k.elim
theorem r_dup (hx : p.tables.exec = Jvm.exec) (hb : c.code = cc) (d : decode cc pc = .ok (.dup, 1)) (k : s_dup (VW p l e R s m args below meth c Qm G fr nL (pc + 1)) u ls st σ) : VW p l e R s m args below meth c Qm G fr nL pc u ls st σ := by
  intro hn w1 w2 H locs la hW hS hl
  unfold s_dup at k
  split at k
  · exact lv_dup hx hb d (dv_cat1 k.1) (k.2 hn w1 (wfs_c (wfs_h w2) w2) H locs la hW hS hl)
  · exact k.elim
theorem r_pop (hx : p.tables.exec = Jvm.exec) (hb : c.code = cc) (d : decode cc pc = .ok (.pop, 1)) (k : s_pop (VW p l e R s m args below meth c Qm G fr nL (pc + 1)) u ls st σ) : VW p l e R s m args below meth c Qm G fr nL pc u ls st σ := by
  intro hn w1 w2 H locs la hW hS hl
  unfold s_pop at k
  split at k
  · exact lv_pop hx hb d (dv_cat1 k.1) (k.2 hn w1 (wfs_t w2) H locs la hW hS hl)
  · exact k.elim
theorem r_dup2 (hx : p.tables.exec = Jvm.exec) (hb : c.code = cc) (d : decode cc pc = .ok (.dup2, 1)) (k : s_dup2 (VW p l e R s m args below meth c Qm G fr nL (pc + 1)) u ls st σ) : VW p l e R s m args below meth c Qm G fr nL pc u ls st σ := by
  intro hn w1 w2 H locs la hW hS hl
  unfold s_dup2 at k
  split at k
  · exact lv_dup2_11 hx hb d (dv_cat1 k.1) (dv_cat1 k.2.1) (k.2.2 hn w1 (wfs_c (wfs_h w2) (wfs_c (wfs_h (wfs_t w2)) w2)) H locs la hW hS hl)
  · exact k.elim
theorem r_goto (hx : p.tables.exec = Jvm.exec) (hb : c.code = cc) {a : Int} {tgt : Nat} (d : decode cc pc = .ok (.goto a, 3)) (ht : (pc : Int) + a = (tgt : Int)) (k : VW p l e R s m args below meth c Qm G fr nL tgt u ls st σ) : VW p l e R s m args below meth c Qm G fr nL pc u ls st σ :=
  fun hn w1 w2 H locs la hW hS hl => lv_goto hx hb d ht (k hn w1 w2 H locs la hW hS hl)
end DR
end
section
/-! THE ROWS, further: numbers, branches, switches -/
theorem tl_R (x : Int64) : lR x.toInt := by
  have h1 := Int64.le_toInt x
  have h2 := Int64.toInt_lt x
  exact ⟨by simpa using h1, by simpa using h2⟩
theorem iR_l {x : Int} (h : iR x) : lR x := by
  unfold iR at h
  unfold lR
  omega
theorem iR_0 : iR 0 := by unfold iR; omega
theorem ol_add (x y : Int) : Int64.ofInt x + Int64.ofInt y = Int64.ofInt (wrL (x + y)) := by
  rw [ol_wr]; exact (Int64.ofInt_add x y).symm
theorem ol_sub (x y : Int) : Int64.ofInt x - Int64.ofInt y = Int64.ofInt (wrL (x - y)) := by
  rw [ol_wr]; exact (Int64.ofInt_sub x y).symm
theorem oi_lng {x : Int} (h : iR x) : (Int32.ofInt x).toInt64 = Int64.ofInt x := by
  apply Int64.toInt_inj.mp
  rw [Int32.toInt_toInt64, ti_oi h, tl_ol (iR_l h)]
theorem ol_cmp {x y : Int} (hx : lR x) (hy : lR y) : lg_cmp (Int64.ofInt x) (Int64.ofInt y) = Int32.ofInt (cmp x y) := by
  unfold lg_cmp cmp
  by_cases h1 : y < x
  · have : Int64.ofInt y < Int64.ofInt x := by rw [Int64.lt_iff_toInt_lt, tl_ol hx, tl_ol hy]; exact h1
    rw [if_pos this, if_neg (by omega), if_neg (by omega)]
    rfl
  · have n1 : ¬ Int64.ofInt y < Int64.ofInt x := by rw [Int64.lt_iff_toInt_lt, tl_ol hx, tl_ol hy]; exact h1
    rw [if_neg n1]
    by_cases h2 : x = y
    · subst h2
      rw [if_pos rfl, if_neg (by omega), if_pos rfl]
      rfl
    · have n2 : ¬ Int64.ofInt x = Int64.ofInt y := fun q => h2 (by have := congrArg Int64.toInt q; rwa [tl_ol hx, tl_ol hy] at this)
      rw [if_neg n2, if_pos (by omega)]
      rfl
theorem cmp_R (x y : Int) : iR (cmp x y) := by
  unfold cmp iR
  split
  · omega
  · split <;> omega
section DR2
variable {p : Program} {l : Launch} {e : Env} {R : Room} {s : State} {m : MethodId} {args : Array Value} {below : List Frame} {meth : Method} {c : Code} {Qm : State → Prop} {G : dG} {fr : Bool} {nL pc : Nat} {cc : ByteArray} {u : Nat × Nat} {ls : dL} {st : List dX} {σ : dS}
theorem r_ishl (hx : p.tables.exec = Jvm.exec) (hb : c.code = cc) (d : decode cc pc = .ok (.ishl, 1)) (k : s_bin shl (VW p l e R s m args below meth c Qm G fr nL (pc + 1)) u ls st σ) : VW p l e R s m args below meth c Qm G fr nL pc u ls st σ := by
  intro hn w1 w2 H locs la hW hS hl
  unfold s_bin at k
  split at k
  · rename_i y x r
    have k := k hn w1 (wfs_c (ti_R _) (wfs_t (wfs_t w2))) H locs la hW hS hl
    refine lv_ishl hx hb d ?_
    have k : W p l e R s m args below meth c H locs u.1 u.2 Qm (F0 m (pc + 1) la (.int (Int32.ofInt (shl x y)) :: r.map (dv G))) := k
    unfold shl at k
    rw [oi_ti] at k
    exact k
  · exact k.elim
theorem r_ishr (hx : p.tables.exec = Jvm.exec) (hb : c.code = cc) (d : decode cc pc = .ok (.ishr, 1)) (k : s_bin shr (VW p l e R s m args below meth c Qm G fr nL (pc + 1)) u ls st σ) : VW p l e R s m args below meth c Qm G fr nL pc u ls st σ := by
  intro hn w1 w2 H locs la hW hS hl
  unfold s_bin at k
  split at k
  · rename_i y x r
    have k := k hn w1 (wfs_c (ti_R _) (wfs_t (wfs_t w2))) H locs la hW hS hl
    refine lv_ishr hx hb d ?_
    have k : W p l e R s m args below meth c H locs u.1 u.2 Qm (F0 m (pc + 1) la (.int (Int32.ofInt (shr x y)) :: r.map (dv G))) := k
    unfold shr at k
    rw [oi_ti] at k
    exact k
  · exact k.elim
theorem r_iand (hx : p.tables.exec = Jvm.exec) (hb : c.code = cc) (d : decode cc pc = .ok (.iand, 1)) (k : s_bin ian (VW p l e R s m args below meth c Qm G fr nL (pc + 1)) u ls st σ) : VW p l e R s m args below meth c Qm G fr nL pc u ls st σ := by
  intro hn w1 w2 H locs la hW hS hl
  unfold s_bin at k
  split at k
  · rename_i y x r
    have k := k hn w1 (wfs_c (ti_R _) (wfs_t (wfs_t w2))) H locs la hW hS hl
    refine lv_iand hx hb d ?_
    have k : W p l e R s m args below meth c H locs u.1 u.2 Qm (F0 m (pc + 1) la (.int (Int32.ofInt (ian x y)) :: r.map (dv G))) := k
    unfold ian at k
    rw [oi_ti] at k
    exact k
  · exact k.elim
theorem r_ior (hx : p.tables.exec = Jvm.exec) (hb : c.code = cc) (d : decode cc pc = .ok (.ior, 1)) (k : s_bin ior (VW p l e R s m args below meth c Qm G fr nL (pc + 1)) u ls st σ) : VW p l e R s m args below meth c Qm G fr nL pc u ls st σ := by
  intro hn w1 w2 H locs la hW hS hl
  unfold s_bin at k
  split at k
  · rename_i y x r
    have k := k hn w1 (wfs_c (ti_R _) (wfs_t (wfs_t w2))) H locs la hW hS hl
    refine lv_ior hx hb d ?_
    have k : W p l e R s m args below meth c H locs u.1 u.2 Qm (F0 m (pc + 1) la (.int (Int32.ofInt (ior x y)) :: r.map (dv G))) := k
    unfold ior at k
    rw [oi_ti] at k
    exact k
  · exact k.elim
theorem r_ixor (hx : p.tables.exec = Jvm.exec) (hb : c.code = cc) (d : decode cc pc = .ok (.ixor, 1)) (k : s_bin ixr (VW p l e R s m args below meth c Qm G fr nL (pc + 1)) u ls st σ) : VW p l e R s m args below meth c Qm G fr nL pc u ls st σ := by
  intro hn w1 w2 H locs la hW hS hl
  unfold s_bin at k
  split at k
  · rename_i y x r
    have k := k hn w1 (wfs_c (ti_R _) (wfs_t (wfs_t w2))) H locs la hW hS hl
    refine lv_ixor hx hb d ?_
    have k : W p l e R s m args below meth c H locs u.1 u.2 Qm (F0 m (pc + 1) la (.int (Int32.ofInt (ixr x y)) :: r.map (dv G))) := k
    unfold ixr at k
    rw [oi_ti] at k
    exact k
  · exact k.elim
theorem r_idiv (hx : p.tables.exec = Jvm.exec) (hb : c.code = cc) (d : decode cc pc = .ok (.idiv, 1)) (k : s_div idv (VW p l e R s m args below meth c Qm G fr nL (pc + 1)) u ls st σ) : VW p l e R s m args below meth c Qm G fr nL pc u ls st σ := by
  intro hn w1 w2 H locs la hW hS hl
  unfold s_div at k
  split at k
  · rename_i y x r
    obtain ⟨hy, k⟩ := k
    have hy2 : ¬ Int32.ofInt y = 0 := fun q => hy ((oi_eq (wfs_h w2) iR_0).mp q)
    have k := k hn w1 (wfs_c (ti_R _) (wfs_t (wfs_t w2))) H locs la hW hS hl
    refine lv_idiv hx hb d hy2 ?_
    have k : W p l e R s m args below meth c H locs u.1 u.2 Qm (F0 m (pc + 1) la (.int (Int32.ofInt (idv x y)) :: r.map (dv G))) := k
    unfold idv at k
    rw [oi_ti] at k
    exact k
  · exact k.elim
theorem r_irem (hx : p.tables.exec = Jvm.exec) (hb : c.code = cc) (d : decode cc pc = .ok (.irem, 1)) (k : s_div irm (VW p l e R s m args below meth c Qm G fr nL (pc + 1)) u ls st σ) : VW p l e R s m args below meth c Qm G fr nL pc u ls st σ := by
  intro hn w1 w2 H locs la hW hS hl
  unfold s_div at k
  split at k
  · rename_i y x r
    obtain ⟨hy, k⟩ := k
    have hy2 : ¬ Int32.ofInt y = 0 := fun q => hy ((oi_eq (wfs_h w2) iR_0).mp q)
    have k := k hn w1 (wfs_c (ti_R _) (wfs_t (wfs_t w2))) H locs la hW hS hl
    refine lv_irem hx hb d hy2 ?_
    have k : W p l e R s m args below meth c H locs u.1 u.2 Qm (F0 m (pc + 1) la (.int (Int32.ofInt (irm x y)) :: r.map (dv G))) := k
    unfold irm at k
    rw [oi_ti] at k
    exact k
  · exact k.elim
theorem r_iushr (hx : p.tables.exec = Jvm.exec) (hb : c.code = cc) (d : decode cc pc = .ok (.iushr, 1)) (k : s_bin ush (VW p l e R s m args below meth c Qm G fr nL (pc + 1)) u ls st σ) : VW p l e R s m args below meth c Qm G fr nL pc u ls st σ := by
  intro hn w1 w2 H locs la hW hS hl
  unfold s_bin at k
  split at k
  · rename_i y x r
    have k := k hn w1 (wfs_c (ti_R _) (wfs_t (wfs_t w2))) H locs la hW hS hl
    exact lv_iushr hx hb d (oi_ti _).symm k
  · exact k.elim
theorem r_i2c (hx : p.tables.exec = Jvm.exec) (hb : c.code = cc) (d : decode cc pc = .ok (.i2c, 1)) (k : s_un i2c (VW p l e R s m args below meth c Qm G fr nL (pc + 1)) u ls st σ) : VW p l e R s m args below meth c Qm G fr nL pc u ls st σ := by
  intro hn w1 w2 H locs la hW hS hl
  unfold s_un at k
  split at k
  · rename_i x r
    have k := k hn w1 (wfs_c (ti_R _) (wfs_t w2)) H locs la hW hS hl
    exact lv_i2c hx hb d (oi_ti _).symm k
  · exact k.elim
theorem r_i2l (hx : p.tables.exec = Jvm.exec) (hb : c.code = cc) (d : decode cc pc = .ok (.i2l, 1)) (k : s_i2l (VW p l e R s m args below meth c Qm G fr nL (pc + 1)) u ls st σ) : VW p l e R s m args below meth c Qm G fr nL pc u ls st σ := by
  intro hn w1 w2 H locs la hW hS hl
  unfold s_i2l at k
  split at k
  · rename_i x r
    have k := k hn w1 (wfs_c (v := .inr (.inl x)) (iR_l (wfs_h w2)) (wfs_t w2)) H locs la hW hS hl
    exact lv_i2l hx hb d (oi_lng (wfs_h w2)) k
  · exact k.elim
theorem r_lcmp (hx : p.tables.exec = Jvm.exec) (hb : c.code = cc) (d : decode cc pc = .ok (.lcmp, 1)) (k : s_lcmp (VW p l e R s m args below meth c Qm G fr nL (pc + 1)) u ls st σ) : VW p l e R s m args below meth c Qm G fr nL pc u ls st σ := by
  intro hn w1 w2 H locs la hW hS hl
  unfold s_lcmp at k
  split at k
  · rename_i y x r
    have k := k hn w1 (wfs_c (v := .inl (cmp x y)) (cmp_R x y) (wfs_t (wfs_t w2))) H locs la hW hS hl
    refine W.lcmp hx hb d ?_
    rw [ol_cmp (wfs_h (wfs_t w2)) (wfs_h w2)]
    exact k
  · exact k.elim
theorem r_ladd (hx : p.tables.exec = Jvm.exec) (hb : c.code = cc) (d : decode cc pc = .ok (.ladd, 1)) (k : s_lbin (fun x y => wrL (x + y)) (VW p l e R s m args below meth c Qm G fr nL (pc + 1)) u ls st σ) : VW p l e R s m args below meth c Qm G fr nL pc u ls st σ := by
  intro hn w1 w2 H locs la hW hS hl
  unfold s_lbin at k
  split at k
  · rename_i y x r
    have k := k hn w1 (wfs_c (v := .inr (.inl _)) (wrL_R _) (wfs_t (wfs_t w2))) H locs la hW hS hl
    refine lv_ladd hx hb d ?_
    rw [ol_add]
    exact k
  · exact k.elim
theorem r_lsub (hx : p.tables.exec = Jvm.exec) (hb : c.code = cc) (d : decode cc pc = .ok (.lsub, 1)) (k : s_lbin (fun x y => wrL (x - y)) (VW p l e R s m args below meth c Qm G fr nL (pc + 1)) u ls st σ) : VW p l e R s m args below meth c Qm G fr nL pc u ls st σ := by
  intro hn w1 w2 H locs la hW hS hl
  unfold s_lbin at k
  split at k
  · rename_i y x r
    have k := k hn w1 (wfs_c (v := .inr (.inl _)) (wrL_R _) (wfs_t (wfs_t w2))) H locs la hW hS hl
    refine lv_lsub hx hb d ?_
    rw [ol_sub]
    exact k
  · exact k.elim
theorem r_lor (hx : p.tables.exec = Jvm.exec) (hb : c.code = cc) (d : decode cc pc = .ok (.lor, 1)) (k : s_lbin lio (VW p l e R s m args below meth c Qm G fr nL (pc + 1)) u ls st σ) : VW p l e R s m args below meth c Qm G fr nL pc u ls st σ := by
  intro hn w1 w2 H locs la hW hS hl
  unfold s_lbin at k
  split at k
  · rename_i y x r
    have k := k hn w1 (wfs_c (v := .inr (.inl _)) (tl_R _) (wfs_t (wfs_t w2))) H locs la hW hS hl
    refine lv_lor hx hb d ?_
    have k : W p l e R s m args below meth c H locs u.1 u.2 Qm (F0 m (pc + 1) la (.long (Int64.ofInt (lio x y)) :: r.map (dv G))) := k
    unfold lio at k
    rw [ol_tl] at k
    exact k
  · exact k.elim
theorem r_lshl (hx : p.tables.exec = Jvm.exec) (hb : c.code = cc) (d : decode cc pc = .ok (.lshl, 1)) (k : s_lshl (VW p l e R s m args below meth c Qm G fr nL (pc + 1)) u ls st σ) : VW p l e R s m args below meth c Qm G fr nL pc u ls st σ := by
  intro hn w1 w2 H locs la hW hS hl
  unfold s_lshl at k
  split at k
  · rename_i y x r
    have k := k hn w1 (wfs_c (v := .inr (.inl _)) (tl_R _) (wfs_t (wfs_t w2))) H locs la hW hS hl
    exact lv_lshl hx hb d (ol_tl _).symm k
  · exact k.elim
theorem r_if_eq (hx : p.tables.exec = Jvm.exec) (hb : c.code = cc) {a : Int} {tgt : Nat} (d : decode cc pc = .ok (.ifCond .eq a, 3)) (ht : (pc : Int) + a = (tgt : Int)) (k : s_if (fun x => x = 0) (VW p l e R s m args below meth c Qm G fr nL tgt) (VW p l e R s m args below meth c Qm G fr nL (pc + 3)) u ls st σ) : VW p l e R s m args below meth c Qm G fr nL pc u ls st σ := by
  intro hn w1 w2 H locs la hW hS hl
  unfold s_if at k
  split at k
  · rename_i x r
    have hx0 : iR x := wfs_h w2
    have e := oi_eq hx0 iR_0
    exact lv_if_eq hx hb d ht (fun q => k.1 (e.mp q) hn w1 (wfs_t w2) H locs la hW hS hl) (fun q => k.2 (fun z => q (e.mpr z)) hn w1 (wfs_t w2) H locs la hW hS hl)
  · exact k.elim
theorem r_if_ne (hx : p.tables.exec = Jvm.exec) (hb : c.code = cc) {a : Int} {tgt : Nat} (d : decode cc pc = .ok (.ifCond .ne a, 3)) (ht : (pc : Int) + a = (tgt : Int)) (k : s_if (fun x => x ≠ 0) (VW p l e R s m args below meth c Qm G fr nL tgt) (VW p l e R s m args below meth c Qm G fr nL (pc + 3)) u ls st σ) : VW p l e R s m args below meth c Qm G fr nL pc u ls st σ := by
  intro hn w1 w2 H locs la hW hS hl
  unfold s_if at k
  split at k
  · rename_i x r
    have hx0 : iR x := wfs_h w2
    have e := not_congr (oi_eq hx0 iR_0)
    exact lv_if_ne hx hb d ht (fun q => k.1 (e.mp q) hn w1 (wfs_t w2) H locs la hW hS hl) (fun q => k.2 (fun z => z ((oi_eq hx0 iR_0).mp q)) hn w1 (wfs_t w2) H locs la hW hS hl)
  · exact k.elim
theorem r_if_lt (hx : p.tables.exec = Jvm.exec) (hb : c.code = cc) {a : Int} {tgt : Nat} (d : decode cc pc = .ok (.ifCond .lt a, 3)) (ht : (pc : Int) + a = (tgt : Int)) (k : s_if (fun x => x < 0) (VW p l e R s m args below meth c Qm G fr nL tgt) (VW p l e R s m args below meth c Qm G fr nL (pc + 3)) u ls st σ) : VW p l e R s m args below meth c Qm G fr nL pc u ls st σ := by
  intro hn w1 w2 H locs la hW hS hl
  unfold s_if at k
  split at k
  · rename_i x r
    have hx0 : iR x := wfs_h w2
    have e := oi_lt hx0 iR_0
    exact lv_if_lt hx hb d ht (fun q => k.1 (e.mp q) hn w1 (wfs_t w2) H locs la hW hS hl) (fun q => k.2 (fun z => q (e.mpr z)) hn w1 (wfs_t w2) H locs la hW hS hl)
  · exact k.elim
theorem r_if_ge (hx : p.tables.exec = Jvm.exec) (hb : c.code = cc) {a : Int} {tgt : Nat} (d : decode cc pc = .ok (.ifCond .ge a, 3)) (ht : (pc : Int) + a = (tgt : Int)) (k : s_if (fun x => 0 ≤ x) (VW p l e R s m args below meth c Qm G fr nL tgt) (VW p l e R s m args below meth c Qm G fr nL (pc + 3)) u ls st σ) : VW p l e R s m args below meth c Qm G fr nL pc u ls st σ := by
  intro hn w1 w2 H locs la hW hS hl
  unfold s_if at k
  split at k
  · rename_i x r
    have hx0 : iR x := wfs_h w2
    have e := oi_le iR_0 hx0
    exact lv_if_ge hx hb d ht (fun q => k.1 (e.mp q) hn w1 (wfs_t w2) H locs la hW hS hl) (fun q => k.2 (fun z => q (e.mpr z)) hn w1 (wfs_t w2) H locs la hW hS hl)
  · exact k.elim
theorem r_if_gt (hx : p.tables.exec = Jvm.exec) (hb : c.code = cc) {a : Int} {tgt : Nat} (d : decode cc pc = .ok (.ifCond .gt a, 3)) (ht : (pc : Int) + a = (tgt : Int)) (k : s_if (fun x => 0 < x) (VW p l e R s m args below meth c Qm G fr nL tgt) (VW p l e R s m args below meth c Qm G fr nL (pc + 3)) u ls st σ) : VW p l e R s m args below meth c Qm G fr nL pc u ls st σ := by
  intro hn w1 w2 H locs la hW hS hl
  unfold s_if at k
  split at k
  · rename_i x r
    have hx0 : iR x := wfs_h w2
    have e := oi_lt iR_0 hx0
    exact lv_if_gt hx hb d ht (fun q => k.1 (e.mp q) hn w1 (wfs_t w2) H locs la hW hS hl) (fun q => k.2 (fun z => q (e.mpr z)) hn w1 (wfs_t w2) H locs la hW hS hl)
  · exact k.elim
theorem r_if_le (hx : p.tables.exec = Jvm.exec) (hb : c.code = cc) {a : Int} {tgt : Nat} (d : decode cc pc = .ok (.ifCond .le a, 3)) (ht : (pc : Int) + a = (tgt : Int)) (k : s_if (fun x => x ≤ 0) (VW p l e R s m args below meth c Qm G fr nL tgt) (VW p l e R s m args below meth c Qm G fr nL (pc + 3)) u ls st σ) : VW p l e R s m args below meth c Qm G fr nL pc u ls st σ := by
  intro hn w1 w2 H locs la hW hS hl
  unfold s_if at k
  split at k
  · rename_i x r
    have hx0 : iR x := wfs_h w2
    have e := oi_le hx0 iR_0
    exact lv_if_le hx hb d ht (fun q => k.1 (e.mp q) hn w1 (wfs_t w2) H locs la hW hS hl) (fun q => k.2 (fun z => q (e.mpr z)) hn w1 (wfs_t w2) H locs la hW hS hl)
  · exact k.elim
theorem r_icmp_eq (hx : p.tables.exec = Jvm.exec) (hb : c.code = cc) {a : Int} {tgt : Nat} (d : decode cc pc = .ok (.if_icmp .eq a, 3)) (ht : (pc : Int) + a = (tgt : Int)) (k : s_icmp (fun x y => x = y) (VW p l e R s m args below meth c Qm G fr nL tgt) (VW p l e R s m args below meth c Qm G fr nL (pc + 3)) u ls st σ) : VW p l e R s m args below meth c Qm G fr nL pc u ls st σ := by
  intro hn w1 w2 H locs la hW hS hl
  unfold s_icmp at k
  split at k
  · rename_i y x r
    have hx0 : iR x := wfs_h (wfs_t w2)
    have hy0 : iR y := wfs_h w2
    have e := oi_eq hx0 hy0
    exact lv_icmp_eq hx hb d ht (fun q => k.1 (e.mp q) hn w1 (wfs_t (wfs_t w2)) H locs la hW hS hl) (fun q => k.2 (fun z => q (e.mpr z)) hn w1 (wfs_t (wfs_t w2)) H locs la hW hS hl)
  · exact k.elim
theorem r_icmp_ne (hx : p.tables.exec = Jvm.exec) (hb : c.code = cc) {a : Int} {tgt : Nat} (d : decode cc pc = .ok (.if_icmp .ne a, 3)) (ht : (pc : Int) + a = (tgt : Int)) (k : s_icmp (fun x y => x ≠ y) (VW p l e R s m args below meth c Qm G fr nL tgt) (VW p l e R s m args below meth c Qm G fr nL (pc + 3)) u ls st σ) : VW p l e R s m args below meth c Qm G fr nL pc u ls st σ := by
  intro hn w1 w2 H locs la hW hS hl
  unfold s_icmp at k
  split at k
  · rename_i y x r
    have hx0 : iR x := wfs_h (wfs_t w2)
    have hy0 : iR y := wfs_h w2
    have e := not_congr (oi_eq hx0 hy0)
    exact lv_icmp_ne hx hb d ht (fun q => k.1 (e.mp q) hn w1 (wfs_t (wfs_t w2)) H locs la hW hS hl) (fun q => k.2 (fun z => z ((oi_eq hx0 hy0).mp q)) hn w1 (wfs_t (wfs_t w2)) H locs la hW hS hl)
  · exact k.elim
theorem r_icmp_lt (hx : p.tables.exec = Jvm.exec) (hb : c.code = cc) {a : Int} {tgt : Nat} (d : decode cc pc = .ok (.if_icmp .lt a, 3)) (ht : (pc : Int) + a = (tgt : Int)) (k : s_icmp (fun x y => x < y) (VW p l e R s m args below meth c Qm G fr nL tgt) (VW p l e R s m args below meth c Qm G fr nL (pc + 3)) u ls st σ) : VW p l e R s m args below meth c Qm G fr nL pc u ls st σ := by
  intro hn w1 w2 H locs la hW hS hl
  unfold s_icmp at k
  split at k
  · rename_i y x r
    have hx0 : iR x := wfs_h (wfs_t w2)
    have hy0 : iR y := wfs_h w2
    have e := oi_lt hx0 hy0
    exact lv_icmp_lt hx hb d ht (fun q => k.1 (e.mp q) hn w1 (wfs_t (wfs_t w2)) H locs la hW hS hl) (fun q => k.2 (fun z => q (e.mpr z)) hn w1 (wfs_t (wfs_t w2)) H locs la hW hS hl)
  · exact k.elim
theorem r_icmp_ge (hx : p.tables.exec = Jvm.exec) (hb : c.code = cc) {a : Int} {tgt : Nat} (d : decode cc pc = .ok (.if_icmp .ge a, 3)) (ht : (pc : Int) + a = (tgt : Int)) (k : s_icmp (fun x y => y ≤ x) (VW p l e R s m args below meth c Qm G fr nL tgt) (VW p l e R s m args below meth c Qm G fr nL (pc + 3)) u ls st σ) : VW p l e R s m args below meth c Qm G fr nL pc u ls st σ := by
  intro hn w1 w2 H locs la hW hS hl
  unfold s_icmp at k
  split at k
  · rename_i y x r
    have hx0 : iR x := wfs_h (wfs_t w2)
    have hy0 : iR y := wfs_h w2
    have e := oi_le hy0 hx0
    exact lv_icmp_ge hx hb d ht (fun q => k.1 (e.mp q) hn w1 (wfs_t (wfs_t w2)) H locs la hW hS hl) (fun q => k.2 (fun z => q (e.mpr z)) hn w1 (wfs_t (wfs_t w2)) H locs la hW hS hl)
  · exact k.elim
theorem r_icmp_gt (hx : p.tables.exec = Jvm.exec) (hb : c.code = cc) {a : Int} {tgt : Nat} (d : decode cc pc = .ok (.if_icmp .gt a, 3)) (ht : (pc : Int) + a = (tgt : Int)) (k : s_icmp (fun x y => y < x) (VW p l e R s m args below meth c Qm G fr nL tgt) (VW p l e R s m args below meth c Qm G fr nL (pc + 3)) u ls st σ) : VW p l e R s m args below meth c Qm G fr nL pc u ls st σ := by
  intro hn w1 w2 H locs la hW hS hl
  unfold s_icmp at k
  split at k
  · rename_i y x r
    have hx0 : iR x := wfs_h (wfs_t w2)
    have hy0 : iR y := wfs_h w2
    have e := oi_lt hy0 hx0
    exact lv_icmp_gt hx hb d ht (fun q => k.1 (e.mp q) hn w1 (wfs_t (wfs_t w2)) H locs la hW hS hl) (fun q => k.2 (fun z => q (e.mpr z)) hn w1 (wfs_t (wfs_t w2)) H locs la hW hS hl)
  · exact k.elim
theorem r_icmp_le (hx : p.tables.exec = Jvm.exec) (hb : c.code = cc) {a : Int} {tgt : Nat} (d : decode cc pc = .ok (.if_icmp .le a, 3)) (ht : (pc : Int) + a = (tgt : Int)) (k : s_icmp (fun x y => x ≤ y) (VW p l e R s m args below meth c Qm G fr nL tgt) (VW p l e R s m args below meth c Qm G fr nL (pc + 3)) u ls st σ) : VW p l e R s m args below meth c Qm G fr nL pc u ls st σ := by
  intro hn w1 w2 H locs la hW hS hl
  unfold s_icmp at k
  split at k
  · rename_i y x r
    have hx0 : iR x := wfs_h (wfs_t w2)
    have hy0 : iR y := wfs_h w2
    have e := oi_le hx0 hy0
    exact lv_icmp_le hx hb d ht (fun q => k.1 (e.mp q) hn w1 (wfs_t (wfs_t w2)) H locs la hW hS hl) (fun q => k.2 (fun z => q (e.mpr z)) hn w1 (wfs_t (wfs_t w2)) H locs la hW hS hl)
  · exact k.elim
end DR2
end
section
/-! THE ROWS of fields and arrays -/
/-- what the tables say of a field that b of own's pool names: field j of class ci -/
def okF (own : String) (b ci j : Nat) : Prop := ∃ (q : vw_C) (t : Nat → FieldType), vwCl[ci]? = some q ∧ vwTy[ci]? = some t ∧ okC q t ∧ j < q.2.2 ∧ Cond.fieldLink own b q.1 (q.2.1 j).2.1 (q.2.1 j).2.2.1 ∈ TBg
/-- .. that may be stored in: z its type, fin whether it is final -/
def okP (own : String) (b ci j z : Nat) (fin : Bool) : Prop := ∃ (q : vw_C) (t : Nat → FieldType), vwCl[ci]? = some q ∧ vwTy[ci]? = some t ∧ okC q t ∧ j < q.2.2 ∧ Cond.fieldLink own b q.1 (q.2.1 j).2.1 (q.2.1 j).2.2.1 ∈ TBg ∧ (q.2.1 j).2.2.2 = fin ∧ (fin = true → q.1 = own) ∧
  (z = 0 ∧ t j = .int ∨ z = 1 ∧ t j = .boolean ∨ z = 2 ∧ t j = .long ∨ z = 3 ∧ ∀ a : Nat, narrow (t j) (.ref a) = .ref a ∧ fits (t j) (.ref a) = true)
theorem isT_lt {fr : Bool} {σ : dS} {t : Nat} {sh : dSh} (h : isT fr σ t) (hs : spx t = some sh) : t < nOf fr σ := by
  unfold nOf
  by_cases hf : fr = true
  · rw [if_pos hf]; exact h hf
  · rw [if_neg hf]; exact spx_lt hs
theorem adr_spx {G : dG} {t : Nat} {sh : dSh} (hs : spx t = some sh) : adr G t = G.1 + t := adr_of (Nat.lt_of_lt_of_le (spx_lt hs) (by decide))
theorem up_R {σ : dS} {k : Nat} {i v : Int} (h : ∀ k i, iR (σ k i)) (hv : iR v) : ∀ k' i', iR (up σ k i v k' i') := by
  intro k' i'
  by_cases hq : k' = k ∧ i' = i
  · rw [hq.1, hq.2, up_same]; exact hv
  · rw [up_ne σ hq]; exact h k' i'
/-- behind a change of one cell, in general -/
theorem Wd.upd {G : dG} {fr : Bool} {σ σ' : dS} {H H1 : Heap} {k : Nat} {sh : dSh} (h : Wd G fr σ H) (hk : k < nOf fr σ) (hs : spx k = some sh) (hrow : ∀ k', k' ≠ k → σ' k' = σ k') (hR : ∀ k i, iR (σ' k i))
    (hP : va_P G.2.2.1 vwCl ((wl G fr σ (nOf fr σ)).set k (G.1 + k, ent G fr (σ' k) sh)) H1) (hz : H1.size = H.size) : Wd G fr σ' H1 := by
  obtain ⟨-, h2, h3, h4, h5⟩ := h
  have hk2 : k < 1000000 := Nat.lt_of_lt_of_le (spx_lt hs) (by decide)
  have hn : nOf fr σ' = nOf fr σ := by unfold nOf; rw [hrow 1000000 (by omega)]
  have e : (wl G fr σ (nOf fr σ)).set k (G.1 + k, ent G fr (σ' k) sh) = wl G fr σ' (nOf fr σ) := by
    have : (G.1 + k, ent G fr (σ' k) sh) = entK G fr σ' k := by
      unfold entK
      rw [hs]
      rfl
    rw [this]
    exact wl_set (fun k' _ hk' => entK_congr (hrow k' hk').symm)
  refine ⟨by rw [hn, ← e]; exact hP, hR, by rw [hn]; exact h3, by rw [hn, hz]; exact h4, fun hf => ⟨by rw [hn, hz]; exact (h5 hf).1, fun k' h6 h7 i' => ?_⟩⟩
  rw [hn] at h6
  rw [hrow k' (by omega)]
  exact (h5 hf).2 k' h6 h7 i'
theorem up_rowN {σ : dS} {k : Nat} {i v : Int} : ∀ k', k' ≠ k → up σ k i v k' = σ k' := fun _ h => up_row h
section DR3
variable {p : Program} {l : Launch} {e : Env} {R : Room} {s : State} {m : MethodId} {args : Array Value} {below : List Frame} {meth : Method} {c : Code} {Qm : State → Prop} {G : dG} {fr : Bool} {nL pc : Nat} {cc : ByteArray} {u : Nat × Nat} {ls : dL} {st : List dX} {σ : dS}
theorem r_getf (hx : p.tables.exec = Jvm.exec) (hb : c.code = cc) (hts : ∀ w ∈ TBg, w.before args s = true) {own : String} (hown : s.vm.findClass own = some m.cls) (hK : va_K G.2.2.1 vwCl (dT G) s) {b ci j : Nat} (ok : okF own b ci j) (d : decode cc pc = .ok (.getfield b, 3)) (k : s_getf fr ci j (VW p l e R s m args below meth c Qm G fr nL (pc + 3)) u ls st σ) : VW p l e R s m args below meth c Qm G fr nL pc u ls st σ := by
  intro hn w1 w2 H locs la hW hS hl
  obtain ⟨q, ty, hq, hty, okc, hj, hlink⟩ := ok
  unfold s_getf at k
  split at k
  · rename_i t r
    split at k
    · rename_i c0 fs hs
      obtain ⟨rfl, hT, k⟩ := k
      have hk := isT_lt hT hs
      have he := hW.cell hk hs
      have go : ∀ v : Value, (fvs G fr (σ t) fs 0)[j]? = some v → W p l e R s m args below meth c H locs u.1 u.2 Qm (F0 m (pc + 3) la (v :: r.map (dv G))) → W p l e R s m args below meth c H locs u.1 u.2 Qm (F0 m pc la (.ref (adr G t) :: r.map (dv G))) := by
        intro v hv kk
        rw [adr_spx hs]
        exact va_get hx hb (own := own) (ref := q.1) (C := q.1) (T := q.2.1) (N := q.2.2) hts okc.1 hown hK hW.1 t he hq j hj (hts _ hlink) (fun x h => by rw [okc.2.2.2.1 j hj] at h; exact h) hv d kk
      have hz : ((0 + j : Nat) : Int) = (j : Int) := by rw [Nat.zero_add]
      split at k
      · rename_i h0
        have hv := fvs_get G fr (σ t) fs 0 j 0 h0
        rw [hz] at hv
        exact go _ hv (k hn w1 (wfs_c (v := .inl _) (hW.2.1 t j) (wfs_t w2)) H locs la hW hS hl)
      · rename_i h0
        have hv := fvs_get G fr (σ t) fs 0 j 1 h0
        rw [hz] at hv
        refine go _ hv ?_
        have k := k hn w1 (wfs_c (v := .inr (.inl _)) (wrL_R _) (wfs_t w2)) H locs la hW hS hl
        have k : W p l e R s m args below meth c H locs u.1 u.2 Qm (F0 m (pc + 3) la (.long (Int64.ofInt (wrL (σ t j + 4294967296 * σ t (j + 1000)))) :: r.map (dv G))) := k
        rw [ol_wr] at k
        exact k
      · rename_i q2 h0
        have hv := fvs_get G fr (σ t) fs 0 j (q2 + 2) h0
        rw [hz] at hv
        refine go _ hv ?_
        have k2 := k.2 hn w1 (wfs_c (v := .inr (.inr q2)) trivial (wfs_t w2)) H locs la hW hS hl
        have e1 : fv G fr (σ t j) (σ t (j + 1000)) (q2 + 2) = .ref (adr G q2) := by
          show (if fr = true ∧ σ t j ≠ 1 then Value.null else .ref (adr G q2)) = _
          rw [if_neg (fun z => z.2 (k.1 z.1))]
        rw [e1]
        exact k2
      · exact k.elim
    · exact k.elim
  · exact k.elim
/-- a store in a field: the machine's row, with the world behind it -/
theorem q_put (hx : p.tables.exec = Jvm.exec) (hb : c.code = cc) (hts : ∀ w ∈ TBg, w.before args s = true) {own : String} (hown : s.vm.findClass own = some m.cls) (hK : va_K G.2.2.1 vwCl (dT G) s) {b ci j z : Nat} {fin : Bool} (ok : okP own b ci j z fin) (hin : fin = true → meth.name = "<init>") (d : decode cc pc = .ok (.putfield b, 3))
    {H : Heap} {locs : List Loc} {la : Array Slot} (hW : Wd G fr σ H) (hS : va_S (rg G) s.heap H locs) {t : Nat} {fs : List Nat} (hs : spx t = some (.inr (ci, fs))) (hT : isT fr σ t) {cd : Nat} (hcd : fs[j]? = some cd) {v : Value} {rest : List Value} {σ' : dS}
    (hv : v = fv G fr (σ' t j) (σ' t (j + 1000)) cd) (hty : ∀ (q : vw_C) (ty : Nat → FieldType), vwCl[ci]? = some q → vwTy[ci]? = some ty → narrow (ty j) v = v ∧ fits (ty j) v = true) (hrow : ∀ k', k' ≠ t → σ' k' = σ k') (hcell : ∀ i : Nat, i ≠ j → i < 1000 → σ' t i = σ t i ∧ σ' t (i + 1000) = σ t (i + 1000)) (hR : ∀ k i, iR (σ' k i)) (hfs : fs.length ≤ 1000)
    (kk : ∀ (H1 : Heap) (locs1 : List Loc), Wd G fr σ' H1 → va_S (rg G) s.heap H1 locs1 → W p l e R s m args below meth c H1 locs1 u.1 u.2 Qm (F0 m (pc + 3) la rest)) :
    W p l e R s m args below meth c H locs u.1 u.2 Qm (F0 m pc la (v :: .ref (adr G t) :: rest)) := by
  obtain ⟨q, ty, hq, hqt, okc, hj, hlink, hfin, hdecl, -⟩ := ok
  have hk := isT_lt hT hs
  have he := hW.cell hk hs
  obtain ⟨hn0, hfit⟩ := hty q ty hq hqt
  have hl : j < (fvs G fr (σ t) fs 0).length := by rw [fvs_len]; exact (List.getElem?_eq_some_iff.mp hcd).1
  have hap := va_apart (own := own) hts okc.1 ty okc.2.1 okc.2.2.1 hK hq
  obtain ⟨r, h1, cell, q1, q2, q3, q4⟩ := hW.1 t _ he
  have hr : r = q := Option.some.inj (h1.symm.trans hq)
  subst hr
  obtain ⟨hSl, hfc, kC, hkC, hkind⟩ := hK.1 ci _ hq
  obtain ⟨cf, kf, fi, f, hi, hsl⟩ := hSl j hj
  have hlay := hts _ (okc.1 _ (u_in_lay hj))
  unfold u_lay at hlay
  have hst := (u_facts hfc hkC (u_lays hts okc.1 hj) hi).1
  have hi2 : s.fieldFound? r.1 (r.2.1 j).2.1 (r.2.1 j).2.2.1 = some (cf, kf, fi, f) := by
    have := hi
    rw [okc.2.2.2.1 j hj] at this
    exact this
  have fin' : ∀ (H1 : Heap), H1[G.1 + t]? = some (cell.setSlot f.slot v) → H1.size = H.size → (∀ q : Nat, q ≠ G.1 + t → H1[q]? = H[q]?) → Wd G fr σ' H1 := by
    intro H1 e1 e2 e3
    rw [hsl] at e1
    refine hW.upd hk hs hrow hR ?_ e2
    have e4 : (G.1 + t, ent G fr (σ' t) (.inr (ci, fs))) = (G.1 + t, (Sum.inr (ci, (fvs G fr (σ t) fs 0).set j v) : va_E)) := by
      have := fvs_set G fr (σ t) (σ' t) fs 0 j cd hcd (fun i h1 h2 h3 => by
        have h4 := hcell i (by omega) (by omega)
        exact ⟨h4.1.symm, h4.2.symm⟩)
      rw [Nat.zero_add] at this
      show (G.1 + t, (Sum.inr (ci, fvs G fr (σ' t) fs 0) : va_E)) = _
      rw [← this, hv]
    rw [e4]
    exact hW.1.set (wl_D) he ⟨_, hq, t_OB.to (V := updV (vp_V (fvs G fr (σ t) fs 0)) j v) ⟨_, e1, q2, q3, t_set q4 hap hj v⟩ (fun i _ => vp_updV_set hl v i)⟩ e3
  have hreg : rg G (G.1 + t) := Nat.le_add_right _ _
  rw [adr_spx hs]
  by_cases hf : fin = true
  · rw [hfin, if_pos hf] at hlay
    have hcf : m.cls = cf := by
      obtain ⟨_, _, c', _, _, _, -, -, hf', -, -, -, hown2, -⟩ := Cond.laysFinal_spec hlay
      have e1 : c' = cf := by have := hi.symm.trans hf'; simp at this; exact this.1.symm
      rw [okc.2.2.2.1 j hj, hdecl hf] at hown2
      rw [← e1]; exact Option.some.inj (hown.symm.trans hown2)
    have h6 := u_fits hfc hkC hkind (Or.inr hlay) hi (okc.2.1 j hj) hn0 hfit
    exact W.putFinK hx hb hown (hts _ hlink) hi2 hst hcf (hin hf) (by rw [q2]; exact h6) q1 q3 (by rw [hsl]; exact k2_hasslot (q4 j hj)) rfl rfl d fun H1 e1 e2 e3 => kk H1 _ (fin' H1 e1 e2 e3) (hS.put e2 e3 hreg)
  · have hff : fin = false := by cases fin <;> simp_all
    rw [hfin, hff, if_neg (by decide)] at hlay
    have h6 := u_store hfc hkC hkind hlay hi (okc.2.1 j hj) hn0 hfit
    exact W.putK hx hb (f := f) ⟨hown, hts _ hlink, ⟨_, _, _, hi2⟩, hst⟩ (by rw [q2]; exact h6) q1 q3 (by rw [hsl]; exact k2_hasslot (q4 j hj)) rfl rfl d fun H1 e1 e2 e3 => kk H1 _ (fin' H1 e1 e2 e3) (hS.put e2 e3 hreg)
end DR3
end
section
/-! THE ROWS of stores in fields, of arrays, of making -/
theorem spl_small : spl.all (fun s => match s with | .inr (_, fs) => decide (fs.length ≤ 1000) | .inl (n, _) => decide (n ≤ 100000)) = true := by decide +kernel
theorem spx_fs {t ci : Nat} {fs : List Nat} (h : spx t = some (.inr (ci, fs))) : fs.length ≤ 1000 := by
  have := List.all_eq_true.mp spl_small _ (List.mem_of_getElem? h)
  simpa using this
theorem spx_n {t n kd : Nat} (h : spx t = some (.inl (n, kd))) : n ≤ 100000 := by
  have := List.all_eq_true.mp spl_small _ (List.mem_of_getElem? h)
  simpa using this
theorem nz_b {x : Int} (h : x = 0 ∨ x = 1) : narrow .boolean (.int (Int32.ofInt x)) = .int (Int32.ofInt x) ∧ fits .boolean (.int (Int32.ofInt x)) = true := by
  rcases h with rfl | rfl
  · exact ⟨by decide +kernel, by decide +kernel⟩
  · exact ⟨by decide +kernel, by decide +kernel⟩
section DR4
variable {p : Program} {l : Launch} {e : Env} {R : Room} {s : State} {m : MethodId} {args : Array Value} {below : List Frame} {meth : Method} {c : Code} {Qm : State → Prop} {G : dG} {fr : Bool} {nL pc : Nat} {cc : ByteArray} {u : Nat × Nat} {ls : dL} {st : List dX} {σ : dS}
theorem r_putf (hx : p.tables.exec = Jvm.exec) (hb : c.code = cc) (hts : ∀ w ∈ TBg, w.before args s = true) {own : String} (hown : s.vm.findClass own = some m.cls) (hK : va_K G.2.2.1 vwCl (dT G) s) {b ci j z : Nat} {fin : Bool} (ok : okP own b ci j z fin) (hin : fin = true → meth.name = "<init>") (d : decode cc pc = .ok (.putfield b, 3)) (k : s_putf fr ci j z (VW p l e R s m args below meth c Qm G fr nL (pc + 3)) u ls st σ) : VW p l e R s m args below meth c Qm G fr nL pc u ls st σ := by
  intro hn w1 w2 H locs la hW hS hl
  unfold s_putf at k
  split at k
  · rename_i v t r
    split at k
    · rename_i c0 fs hs
      obtain ⟨rfl, hT, k⟩ := k
      have hlen := spx_fs hs
      have hzt := ok
      obtain ⟨q0, ty0, hq0, hty0, -, -, -, -, -, hz0⟩ := hzt
      split at k
      · rename_i x h0
        obtain ⟨hz, k⟩ := k
        have hj1 : j < 1000 := Nat.lt_of_lt_of_le (List.getElem?_eq_some_iff.mp h0).1 hlen
        refine q_put hx hb hts hown hK ok hin d hW hS hs hT h0 (σ' := up σ t j x) (v := .int (Int32.ofInt x)) (by rw [up_same]; rfl) ?_ up_rowN (fun i h1 h2 => ⟨up_ne σ (fun q => h1 (by have := q.2; omega)), up_ne σ (fun q => by have := q.2; omega)⟩) (up_R hW.2.1 (wfs_h w2)) hlen (fun H1 locs1 hW1 hS1 => k hn w1 (wfs_t (wfs_t w2)) H1 locs1 la hW1 hS1 hl)
        intro q ty hq hty
        rw [hty0] at hty
        cases hty
        rcases hz0 with ⟨hz1, h9⟩ | ⟨hz1, h9⟩ | ⟨hz1, h9⟩ | ⟨hz1, h9⟩
        · rw [h9]; exact ⟨rfl, rfl⟩
        · rw [h9]
          rcases hz with hz | hz
          · omega
          · exact nz_b hz.2
        · omega
        · omega
      · rename_i x h0
        obtain ⟨hz, hx2, k⟩ := k
        have hj1 : j < 1000 := Nat.lt_of_lt_of_le (List.getElem?_eq_some_iff.mp h0).1 hlen
        have e2 : ∀ i : Int, i ≠ (j : Int) + 1000 → up (up σ t j (lo32 x)) t ((j : Int) + 1000) (hi32 x) t i = up σ t j (lo32 x) t i := fun i hi => up_ne _ (fun q => hi q.2)
        refine q_put hx hb hts hown hK ok hin d hW hS hs hT h0 (σ' := up (up σ t j (lo32 x)) t ((j : Int) + 1000) (hi32 x)) (v := .long (Int64.ofInt x)) ?_ ?_ (fun k' hk' => (up_row hk').trans (up_row hk')) (fun i h1 h2 => ⟨(e2 i (by omega)).trans (up_ne σ (fun q => h1 (by have := q.2; omega))), (e2 _ (by omega)).trans (up_ne σ (fun q => by have := q.2; omega))⟩) (up_R (up_R hW.2.1 (wr_R x)) (hi_R hx2)) hlen (fun H1 locs1 hW1 hS1 => k hn w1 (wfs_t (wfs_t w2)) H1 locs1 la hW1 hS1 hl)
        · rw [e2 j (by omega), up_same, up_same]
          show Value.long (Int64.ofInt x) = .long (Int64.ofInt (lo32 x + 4294967296 * hi32 x))
          rw [lohi]
        · intro q ty hq hty
          rw [hty0] at hty
          cases hty
          rcases hz0 with ⟨hz1, h9⟩ | ⟨hz1, h9⟩ | ⟨hz1, h9⟩ | ⟨hz1, h9⟩
          · omega
          · omega
          · rw [h9]; exact ⟨rfl, rfl⟩
          · omega
      · rename_i q2 q' h0
        obtain ⟨hz, hf, rfl, k⟩ := k
        have hj1 : j < 1000 := Nat.lt_of_lt_of_le (List.getElem?_eq_some_iff.mp h0).1 hlen
        refine q_put hx hb hts hown hK ok hin d hW hS hs hT h0 (σ' := up σ t j 1) (v := .ref (adr G q')) ?_ ?_ up_rowN (fun i h1 h2 => ⟨up_ne σ (fun q => h1 (by have := q.2; omega)), up_ne σ (fun q => by have := q.2; omega)⟩) (up_R hW.2.1 (by unfold iR; omega)) hlen (fun H1 locs1 hW1 hS1 => k hn w1 (wfs_t (wfs_t w2)) H1 locs1 la hW1 hS1 hl)
        · rw [up_same]
          show _ = (if fr = true ∧ (1 : Int) ≠ 1 then Value.null else .ref (adr G q'))
          rw [if_neg (fun z => z.2 rfl)]
        · intro q ty hq hty
          rw [hty0] at hty
          cases hty
          rcases hz0 with ⟨hz1, h9⟩ | ⟨hz1, h9⟩ | ⟨hz1, h9⟩ | ⟨hz1, h9⟩
          · omega
          · omega
          · omega
          · exact h9 _
      · exact k.elim
    · exact k.elim
  · exact k.elim
theorem ent_i {G : dG} {fr : Bool} {f : Int → Int} {n : Nat} : ent G fr f (.inl (n, 0)) = .inl (G.2.2.2.1, n, .inl (fun i => Int32.ofInt (f i))) := rfl
theorem ent_z {G : dG} {fr : Bool} {f : Int → Int} {n : Nat} : ent G fr f (.inl (n, 1)) = .inl (G.2.2.2.2.1, n, .inl (fun i => Int32.ofInt (f i))) := rfl
theorem ent_l {G : dG} {fr : Bool} {f : Int → Int} {n : Nat} : ent G fr f (.inl (n, 2)) = .inl (G.2.2.2.2.2, n, .inr (.inl (fun i => Int64.ofInt (f i + 4294967296 * f (-1 - i))))) := rfl
theorem cl_in {i : Int} {n : Nat} (h0 : 0 ≤ i) (h1 : i < n) (hn : n ≤ 100000) : vp_in (Int32.ofInt i) n ∧ ((Int32.ofInt i).toNatClampNeg : Int) = i := by
  refine ⟨oi_in h0 h1 (by omega), ?_⟩
  rw [oi_cl h0 h1 (by omega)]
  omega
theorem r_iald (hx : p.tables.exec = Jvm.exec) (hb : c.code = cc) (hK : va_K G.2.2.1 vwCl (dT G) s) (d : decode cc pc = .ok (.iaload, 1)) (k : s_ald fr 0 (VW p l e R s m args below meth c Qm G fr nL (pc + 1)) u ls st σ) : VW p l e R s m args below meth c Qm G fr nL pc u ls st σ := by
  intro hn w1 w2 H locs la hW hS hl
  unfold s_ald at k
  split at k
  · rename_i i t r
    split at k
    · rename_i n kd hs
      obtain ⟨rfl, hT, h0, h1, k⟩ := k
      have he := hW.cell (isT_lt hT hs) hs
      rw [ent_i] at he
      obtain ⟨c1, c2⟩ := cl_in h0 h1 (spx_n hs)
      have k := k hn w1 (wfs_c (v := .inl _) (hW.2.1 t i) (wfs_t (wfs_t w2))) H locs la hW hS hl
      show W p l e R s m args below meth c H locs u.1 u.2 Qm (F0 m pc la (.int (Int32.ofInt i) :: .ref (adr G t) :: r.map (dv G)))
      rw [adr_spx hs]
      refine va_iald hx hb hK hW.1 t 0 he rfl c1 d ?_
      rw [c2]
      exact k
    · exact k.elim
  · exact k.elim
theorem r_zald (hx : p.tables.exec = Jvm.exec) (hb : c.code = cc) (hK : va_K G.2.2.1 vwCl (dT G) s) (d : decode cc pc = .ok (.baload, 1)) (k : s_ald fr 1 (VW p l e R s m args below meth c Qm G fr nL (pc + 1)) u ls st σ) : VW p l e R s m args below meth c Qm G fr nL pc u ls st σ := by
  intro hn w1 w2 H locs la hW hS hl
  unfold s_ald at k
  split at k
  · rename_i i t r
    split at k
    · rename_i n kd hs
      obtain ⟨rfl, hT, h0, h1, k⟩ := k
      have he := hW.cell (isT_lt hT hs) hs
      rw [ent_z] at he
      obtain ⟨c1, c2⟩ := cl_in h0 h1 (spx_n hs)
      have k := k hn w1 (wfs_c (v := .inl _) (hW.2.1 t i) (wfs_t (wfs_t w2))) H locs la hW hS hl
      show W p l e R s m args below meth c H locs u.1 u.2 Qm (F0 m pc la (.int (Int32.ofInt i) :: .ref (adr G t) :: r.map (dv G)))
      rw [adr_spx hs]
      refine va_zald hx hb hK hW.1 t 1 he rfl c1 d ?_
      rw [c2]
      exact k
    · exact k.elim
  · exact k.elim
theorem r_lald (hx : p.tables.exec = Jvm.exec) (hb : c.code = cc) (hfr : fr = false) (hK : va_K G.2.2.1 vwCl (dT G) s) (d : decode cc pc = .ok (.laload, 1)) (k : s_lald (VW p l e R s m args below meth c Qm G fr nL (pc + 1)) u ls st σ) : VW p l e R s m args below meth c Qm G fr nL pc u ls st σ := by
  intro hn w1 w2 H locs la hW hS hl
  unfold s_lald at k
  split at k
  · rename_i i t r
    split at k
    · rename_i n kd hs
      obtain ⟨rfl, h0, h1, k⟩ := k
      have he := hW.cell (isT_lt (fun q => by rw [hfr] at q; cases q) hs) hs
      rw [ent_l] at he
      obtain ⟨c1, c2⟩ := cl_in h0 h1 (spx_n hs)
      have k := k hn w1 (wfs_c (v := .inr (.inl _)) (wrL_R _) (wfs_t (wfs_t w2))) H locs la hW hS hl
      have k : W p l e R s m args below meth c H locs u.1 u.2 Qm (F0 m (pc + 1) la (.long (Int64.ofInt (wrL (σ t i + 4294967296 * σ t (-1 - i)))) :: r.map (dv G))) := k
      show W p l e R s m args below meth c H locs u.1 u.2 Qm (F0 m pc la (.int (Int32.ofInt i) :: .ref (adr G t) :: r.map (dv G)))
      rw [adr_spx hs]
      refine va_lald hx hb hK hW.1 t 2 he rfl c1 d ?_
      rw [c2]
      rw [ol_wr] at k
      exact k
    · exact k.elim
  · exact k.elim
theorem r_alen (hx : p.tables.exec = Jvm.exec) (hb : c.code = cc) (hK : va_K G.2.2.1 vwCl (dT G) s) (d : decode cc pc = .ok (.arraylength, 1)) (hkd : ∀ t n kd, spx t = some (.inl (n, kd)) → kd ≤ 2) (k : s_alen fr (VW p l e R s m args below meth c Qm G fr nL (pc + 1)) u ls st σ) : VW p l e R s m args below meth c Qm G fr nL pc u ls st σ := by
  intro hn w1 w2 H locs la hW hS hl
  unfold s_alen at k
  split at k
  · rename_i t r
    split at k
    · rename_i n kd hs
      obtain ⟨hT, k⟩ := k
      have he := hW.cell (isT_lt hT hs) hs
      have hn2 := spx_n hs
      have k := k hn w1 (wfs_c (v := .inl _) (by unfold wfx iR; omega) (wfs_t w2)) H locs la hW hS hl
      have ev : Int32.ofNat n = Int32.ofInt (n : Int) := by
        apply Int32.toInt_inj.mp
        rw [ti_oi (by unfold iR; omega)]
        exact nI_toInt (n := n) (by omega)
      show W p l e R s m args below meth c H locs u.1 u.2 Qm (F0 m pc la (.ref (adr G t) :: r.map (dv G)))
      rw [adr_spx hs]
      have h2 := hkd t n kd hs
      rcases (show kd = 0 ∨ kd = 1 ∨ kd = 2 by omega) with rfl | rfl | rfl
      · exact va_alen hx hb hK hW.1 t 0 he rfl ev d k
      · exact va_alen hx hb hK hW.1 t 1 he rfl ev d k
      · exact va_alen hx hb hK hW.1 t 2 he rfl ev d k
    · exact k.elim
  · exact k.elim
theorem arr_up {f g : Nat → Int32} {k : Nat} {x : Int32} {n : Nat} {cA : ClassId} (h : ∀ j, g j = if j = k then x else f j) : (vp_cell cA (n, .inl f)).setSlot k (.int x) = vp_cell cA (n, .inl g) := by
  rw [vp_cell_i, vp_cell_i, arrV_store]
  congr 1
  funext q
  rw [h q]
  by_cases hq : q = k
  · subst hq; simp [updV]
  · simp [updV, hq]
theorem r_iast (hx : p.tables.exec = Jvm.exec) (hb : c.code = cc) (hK : va_K G.2.2.1 vwCl (dT G) s) (d : decode cc pc = .ok (.iastore, 1)) (k : s_ast fr 0 (VW p l e R s m args below meth c Qm G fr nL (pc + 1)) u ls st σ) : VW p l e R s m args below meth c Qm G fr nL pc u ls st σ := by
  intro hn w1 w2 H locs la hW hS hl
  unfold s_ast at k
  split at k
  · rename_i x i t r
    split at k
    · rename_i n kd hs
      obtain ⟨rfl, hT, h0, h1, -, k⟩ := k
      have hk := isT_lt hT hs
      have he := hW.cell hk hs
      rw [ent_i] at he
      obtain ⟨c1, c2⟩ := cl_in h0 h1 (spx_n hs)
      show W p l e R s m args below meth c H locs u.1 u.2 Qm (F0 m pc la (.int (Int32.ofInt x) :: .int (Int32.ofInt i) :: .ref (adr G t) :: r.map (dv G)))
      rw [adr_spx hs]
      refine W.iast hx hb (hW.1 t _ he) ((hK.2 0 _ rfl).1 n (fun j => .int (Int32.ofInt (σ t j)))) (fun q => by cases q) (by show ¬ (_ ∨ (arrV _ _ _).slots.size ≤ _); rw [arrV_size]; exact c1) rfl rfl d fun H1 e1 z1 o1 => ?_
      refine k hn w1 (wfs_t (wfs_t (wfs_t w2))) H1 _ la (hW.upd hk hs up_rowN (up_R hW.2.1 (wfs_h w2)) ?_ z1) (hS.put z1 o1 (Nat.le_add_right _ _)) hl
      refine hW.1.set wl_D he ?_ o1
      rw [ent_i]
      show H1[G.1 + t]? = some (vp_cell _ _)
      rw [e1]
      congr 1
      refine arr_up (fun j => ?_)
      by_cases hj : j = (Int32.ofInt i).toNatClampNeg
      · rw [if_pos hj, hj, c2, up_same]
      · rw [if_neg hj, up_ne σ (fun q => hj (by have := q.2; omega))]
    · exact k.elim
  · exact k.elim
theorem r_zast (hx : p.tables.exec = Jvm.exec) (hb : c.code = cc) (hK : va_K G.2.2.1 vwCl (dT G) s) (d : decode cc pc = .ok (.bastore, 1)) (k : s_ast fr 1 (VW p l e R s m args below meth c Qm G fr nL (pc + 1)) u ls st σ) : VW p l e R s m args below meth c Qm G fr nL pc u ls st σ := by
  intro hn w1 w2 H locs la hW hS hl
  unfold s_ast at k
  split at k
  · rename_i x i t r
    split at k
    · rename_i n kd hs
      obtain ⟨rfl, hT, h0, h1, hz, k⟩ := k
      have hk := isT_lt hT hs
      have he := hW.cell hk hs
      rw [ent_z] at he
      obtain ⟨c1, c2⟩ := cl_in h0 h1 (spx_n hs)
      show W p l e R s m args below meth c H locs u.1 u.2 Qm (F0 m pc la (.int (Int32.ofInt x) :: .int (Int32.ofInt i) :: .ref (adr G t) :: r.map (dv G)))
      rw [adr_spx hs]
      refine W.zast hx hb (hW.1 t _ he) ((hK.2 1 _ rfl).1 n (fun j => .int (Int32.ofInt (σ t j)))) (fun q => by cases q) (by show ¬ (_ ∨ (arrV _ _ _).slots.size ≤ _); rw [arrV_size]; exact c1) rfl rfl d fun H1 e1 z1 o1 => ?_
      rw [(nz_b (hz rfl)).1] at e1
      refine k hn w1 (wfs_t (wfs_t (wfs_t w2))) H1 _ la (hW.upd hk hs up_rowN (up_R hW.2.1 (wfs_h w2)) ?_ z1) (hS.put z1 o1 (Nat.le_add_right _ _)) hl
      refine hW.1.set wl_D he ?_ o1
      rw [ent_z]
      show H1[G.1 + t]? = some (vp_cell _ _)
      rw [e1]
      congr 1
      refine arr_up (fun j => ?_)
      by_cases hj : j = (Int32.ofInt i).toNatClampNeg
      · rw [if_pos hj, hj, c2, up_same]
      · rw [if_neg hj, up_ne σ (fun q => hj (by have := q.2; omega))]
    · exact k.elim
  · exact k.elim
end DR4
end
section
/-! THE ROWS of longs in arrays, of Object's constructor, of making -/
theorem arr_upL {f g : Nat → Int64} {k : Nat} {x : Int64} {n : Nat} {cA : ClassId} (h : ∀ j, g j = if j = k then x else f j) : (vp_cell cA (n, .inr (.inl f))).setSlot k (.long x) = vp_cell cA (n, .inr (.inl g)) := by
  rw [vp_cell_l, vp_cell_l, arrV_store]
  congr 1
  funext q
  rw [h q]
  by_cases hq : q = k
  · subst hq; simp [updV]
  · simp [updV, hq]
/-- a new cell at the world's end -/
theorem Wd.push {G : dG} {σ : dS} {H H1 : Heap} {n : Nat} {sh : dSh} (h : Wd G true σ H) (hn : (σ 1000000 0).toNat = n) (hs : spx n = some sh) (hz : H1.size = H.size + 1) (ho : ∀ q : Nat, q < H.size → H1[q]? = H[q]?) (hc : va_at G.2.2.1 vwCl (H.size, ent G true (fun _ => 0) sh) H1) : Wd G true (up σ 1000000 0 ((n : Int) + 1)) H1 := by
  obtain ⟨h1, h2, h3, h4, h5⟩ := h
  have e0 : nOf true σ = n := by unfold nOf; rw [if_pos rfl]; exact hn
  rw [e0] at h1 h3 h4 h5
  obtain ⟨h6, h7⟩ := h5 rfl
  have hlt := spx_lt hs
  have e1 : nOf true (up σ 1000000 0 ((n : Int) + 1)) = n + 1 := by
    unfold nOf
    rw [if_pos rfl, up_same]
    omega
  have hrow : ∀ k, k < 1000000 → up σ 1000000 0 ((n : Int) + 1) k = σ k := fun k hk => up_row (by omega)
  have hn6 : n < 1000000 := Nat.lt_of_lt_of_le hlt (by decide)
  have hz0 : σ n = fun _ => 0 := by
    funext i
    exact h7 n (Nat.le_refl _) hn6 i
  have hent : entK G true (up σ 1000000 0 ((n : Int) + 1)) n = (H.size, ent G true (fun _ => 0) sh) := by
    unfold entK
    rw [hrow n hn6, hs, hz0, h6]
    rfl
  refine ⟨?_, up_R h2 (by have : n < 198 := hlt; unfold iR; omega), by rw [e1]; exact hlt, by rw [e1, hz]; omega, fun _ => ⟨by rw [e1, hz]; omega, fun k hk hk6 i => ?_⟩⟩
  · rw [e1, wl_succ, hent, ← wl_congr (σ := σ) (fun k hk => (hrow k (by omega)).symm)]
    refine (h1.kept (fun k q hk => ho q.1 (h1 k q hk).lt)).app (fun k q hk => ?_)
    have hk0 : k < 1 := (List.getElem?_eq_some_iff.mp hk).1
    rw [show k = 0 by omega] at hk
    cases hk
    exact hc
  · rw [e1] at hk
    rw [hrow k hk6]
    exact h7 k (by omega) hk6 i
section DR5
variable {p : Program} {l : Launch} {e : Env} {R : Room} {s : State} {m : MethodId} {args : Array Value} {below : List Frame} {meth : Method} {c : Code} {Qm : State → Prop} {G : dG} {fr : Bool} {nL pc : Nat} {cc : ByteArray} {u : Nat × Nat} {ls : dL} {st : List dX} {σ : dS}
theorem r_last (hx : p.tables.exec = Jvm.exec) (hb : c.code = cc) (hfr : fr = false) (hK : va_K G.2.2.1 vwCl (dT G) s) (d : decode cc pc = .ok (.lastore, 1)) (k : s_last (VW p l e R s m args below meth c Qm G fr nL (pc + 1)) u ls st σ) : VW p l e R s m args below meth c Qm G fr nL pc u ls st σ := by
  intro hn w1 w2 H locs la hW hS hl
  unfold s_last at k
  split at k
  · rename_i x i t r
    split at k
    · rename_i n kd hs
      obtain ⟨rfl, h0, h1, hx2, k⟩ := k
      have hk := isT_lt (fr := fr) (σ := σ) (t := t) (fun q => by rw [hfr] at q; cases q) hs
      have he := hW.cell hk hs
      rw [ent_l] at he
      obtain ⟨c1, c2⟩ := cl_in h0 h1 (spx_n hs)
      show W p l e R s m args below meth c H locs u.1 u.2 Qm (F0 m pc la (.long (Int64.ofInt x) :: .int (Int32.ofInt i) :: .ref (adr G t) :: r.map (dv G)))
      rw [adr_spx hs]
      refine W.last hx hb (hW.1 t _ he) ((hK.2 2 _ rfl).1 n (fun j => .long (Int64.ofInt (σ t j + 4294967296 * σ t (-1 - j))))) (fun q => by cases q) (by show ¬ (_ ∨ (arrV _ _ _).slots.size ≤ _); rw [arrV_size]; exact c1) rfl rfl d fun H1 e1 z1 o1 => ?_
      refine k hn w1 (wfs_t (wfs_t (wfs_t w2))) H1 _ la (hW.upd hk hs (fun k' hk' => (up_row hk').trans (up_row hk')) (up_R (up_R hW.2.1 (wr_R x)) (hi_R hx2)) ?_ z1) (hS.put z1 o1 (Nat.le_add_right _ _)) hl
      refine hW.1.set wl_D he ?_ o1
      rw [ent_l]
      show H1[G.1 + t]? = some (vp_cell _ _)
      rw [e1]
      congr 1
      refine arr_upL (fun j => ?_)
      by_cases hj : j = (Int32.ofInt i).toNatClampNeg
      · rw [if_pos hj, hj, c2, up_ne _ (fun q => by have := q.2; omega), up_same, up_same, lohi]
      · rw [if_neg hj, up_ne _ (fun q => by have := q.2; omega), up_ne _ (fun q => hj (by have := q.2; omega)), up_ne _ (fun q => hj (by have := q.2; omega)), up_ne _ (fun q => by have := q.2; omega)]
    · exact k.elim
  · exact k.elim
theorem dv_cats (G : dG) (v : List dX) : (v.map (dv G)).map (fun v => v.category) = v.map (fun x => if c1 x = true then 1 else 2) := by
  rw [List.map_map]
  apply List.map_congr_left
  intro x _
  rcases x with x | x | t <;> rfl
theorem wt_sum : ∀ v : List dX, (v.map (fun x => if c1 x = true then 1 else 2)).sum = wt v
  | [] => rfl
  | a :: v => by simp only [List.map_cons, List.sum_cons, wt, wt_sum v]
theorem r_objI (hx : p.tables.exec = Jvm.exec) (hb : c.code = cc) (hml : c.maxLocals = nL) {own : String} (hown : s.vm.findClass own = some m.cls) {b : Nat} (h1 : (Cond.methodLink own b Lib.objectInit).before args s = true) (h2 : (Cond.instanceMethod Lib.objectInit).before args s = true) (h3 : (Cond.code Lib.objectInit ⟨#[0xb1]⟩ 1 none).before args s = true) (hRf : 1 ≤ R.frames) (hRl : 100 ≤ R.locals) (d : decode cc pc = .ok (.invokespecial b, 3)) (k : s_objI (VW p l e R s m args below meth c Qm G fr nL (pc + 3)) u ls st σ) : VW p l e R s m args below meth c Qm G fr nL pc u ls st σ := by
  intro hn w1 w2 H locs la hW hS hl
  unfold s_objI at k
  split at k
  · rename_i t r
    refine W.objInit hx hb hown h1 h2 h3 rfl (hl.1.trans hml.symm) rfl d hRf ?_ (k.2 hn w1 (wfs_t w2) H locs la hW hS hl)
    rw [dv_cats, wt_sum]
    have := k.1
    show 2 * 0 + _ + 12 ≤ _
    omega
  · exact k.elim
end DR5
end
section
/-! THE ROWS of new cells, of switches -/
/-- of a fresh object: what its fields hold -/
def fv0 : Nat → Value
  | 0 => .int 0
  | 1 => .long 0
  | _ => .null
theorem spl_new : spl.all (fun s => match s with
  | .inr (ci, fs) => (match vwCl[ci]?, vwTy[ci]? with
    | some q, some t => fs.length == q.2.2 && (List.range q.2.2).all (fun j => decide (defaultValue (t j) = fv0 (fs.getD j 0)))
    | _, _ => false)
  | .inl (_, kd) => decide (kd ≤ 2)) = true := by decide +kernel
theorem spx_kd {t n kd : Nat} (h : spx t = some (.inl (n, kd))) : kd ≤ 2 := by
  have := List.all_eq_true.mp spl_new _ (List.mem_of_getElem? h)
  simpa using this
theorem spx_ty {t ci : Nat} {fs : List Nat} (h : spx t = some (.inr (ci, fs))) {q : vw_C} {ty : Nat → FieldType} (hq : vwCl[ci]? = some q) (ht : vwTy[ci]? = some ty) : fs.length = q.2.2 ∧ ∀ j, j < q.2.2 → defaultValue (ty j) = fv0 (fs.getD j 0) := by
  have h1 := List.all_eq_true.mp spl_new _ (List.mem_of_getElem? h)
  simp only [hq, ht, Bool.and_eq_true, beq_iff_eq, List.all_eq_true, List.mem_range, decide_eq_true_eq] at h1
  exact h1
theorem fv_0 (G : dG) (c : Nat) : fv G true 0 0 c = fv0 c := by
  match c with
  | 0 => rfl
  | 1 => rfl
  | t + 2 =>
    show (if true = true ∧ (0 : Int) ≠ 1 then Value.null else .ref (adr G t)) = .null
    rw [if_pos ⟨rfl, by omega⟩]
/-- what the tables say of 'new' by b of own's pool -/
def okN (own : String) (b ci N : Nat) : Prop := ∃ (q : vw_C) (t : Nat → FieldType), vwCl[ci]? = some q ∧ vwTy[ci]? = some t ∧ okC q t ∧ q.2.2 = N ∧ Cond.classLink own b q.1 ∈ TBg
section DR6
variable {p : Program} {l : Launch} {e : Env} {R : Room} {s : State} {m : MethodId} {args : Array Value} {below : List Frame} {meth : Method} {c : Code} {Qm : State → Prop} {G : dG} {fr : Bool} {nL pc : Nat} {cc : ByteArray} {u : Nat × Nat} {ls : dL} {st : List dX} {σ : dS}
theorem Wd.sz {H : Heap} (h : Wd G true σ H) : H.size = G.1 + (σ 1000000 0).toNat := by
  have := (h.2.2.2.2 rfl).1
  unfold nOf at this
  rw [if_pos rfl] at this
  exact this
theorem va_S.more {A : Nat → Prop} {H0 H H1 : Heap} {locs : List Loc} (h : va_S A H0 H locs) (z : H1.size = H.size + 1) (o : ∀ q : Nat, q < H.size → H1[q]? = H[q]?) : va_S A H0 H1 locs :=
  ⟨Nat.le_trans h.1 (by omega), fun x h1 h2 => (o x (Nat.lt_of_lt_of_le h1 h.1)).trans (h.2.1 x h1 h2), h.2.2⟩
theorem r_newa {B : Nat × Nat} {kind : Nat} {aty : ArrayType} (hx : p.tables.exec = Jvm.exec) (hb : c.code = cc) (hts : ∀ w ∈ TBg, w.before args s = true) (hK : va_K G.2.2.1 vwCl (dT G) s) (hkd : kind = 0 ∧ aty = .int ∨ kind = 1 ∧ aty = .boolean ∨ kind = 2 ∧ aty = .long) (hw : Cond.arrayClass (newarray.typeOf aty) ∈ TBg) (hB : B.1 ≤ R.cells ∧ B.2 ≤ R.slots) (d : decode cc pc = .ok (.newarray aty, 2)) (k : s_newa fr B kind (VW p l e R s m args below meth c Qm G fr nL (pc + 2)) u ls st σ) : VW p l e R s m args below meth c Qm G fr nL pc u ls st σ := by
  intro hn w1 w2 H locs la hW hS hl
  unfold s_newa at k
  split at k
  · rename_i x r
    split at k
    · rename_i n kd hs
      obtain ⟨rfl, rfl, rfl, hn1, hb1, hb2, k⟩ := k
      have hz := hW.sz
      have hlt := spx_lt hs
      have e0 : ¬ Int32.ofInt (n : Int) < 0 := by
        intro q
        have := (oi_lt (x := (n : Int)) (y := 0) (by unfold iR; omega) iR_0).mp q
        omega
      have e1 : (Int32.ofInt (n : Int)).toNatClampNeg = n := by
        show (Int32.ofInt (n : Int)).toInt.toNat = n
        rw [ti_oi (by unfold iR; omega)]
        omega
      have hby : n * componentBytes (newarray.typeOf aty) ≤ 536870912 := by
        rcases hkd with ⟨-, rfl⟩ | ⟨-, rfl⟩ | ⟨-, rfl⟩
        · show n * 4 ≤ _; omega
        · show n * 1 ≤ _; omega
        · show n * 8 ≤ _; omega
      refine va_newaK hx hb (hts _ hw) rfl d rfl e0 e1 hby (by omega) (by omega) rfl fun H1 cA g1 g2 g3 hAr hNm => ?_
      have hcell : va_at G.2.2.1 vwCl (H.size, ent G true (fun _ => 0) (.inl (n, kd))) H1 := by
        have nm : ∀ (i : Nat) (q : ClassId × FieldType), (dT G)[i]? = some q → newarray.typeOf aty = q.2 → (∀ C, q.2 ≠ .object C) → cA = q.1 := by
          intro i q hq ht hC
          have h9 := (hK.2 i q hq).2
          unfold va_RA at h9
          rw [ht] at hNm
          have h10 : s.vm.findClass ("[" ++ q.2.toString) = some q.1 := by
            cases hq2 : q.2 with
            | object C => exact absurd hq2 (hC C)
            | _ => rw [hq2] at h9; exact h9
          exact Option.some.inj (hNm.symm.trans h10)
        rcases hkd with ⟨rfl, rfl⟩ | ⟨rfl, rfl⟩ | ⟨rfl, rfl⟩
        · have := nm 0 _ rfl rfl (fun C h => by cases h)
          subst this
          exact g1
        · have := nm 1 _ rfl rfl (fun C h => by cases h)
          subst this
          exact g1
        · have := nm 2 _ rfl rfl (fun C h => by cases h)
          subst this
          exact g1
      have hW1 := hW.push rfl hs g2 g3 hcell
      have k := k hn w1 (wfs_c (v := .inr (.inr _)) trivial (wfs_t w2)) H1 locs la hW1 (hS.more g2 g3) hl
      have ea : H.size = adr G (σ 1000000 0).toNat := by rw [adr_spx hs]; exact hz
      show W p l e R s m args below meth c H1 locs (u.1 + 1) (u.2 + n) Qm (F0 m (pc + 2) la (.ref H.size :: r.map (dv G)))
      rw [ea]
      exact k
    · exact k.elim
  · exact k.elim
theorem r_new {B : Nat × Nat} {own : String} {b ci N : Nat} (hx : p.tables.exec = Jvm.exec) (hb : c.code = cc) (hts : ∀ w ∈ TBg, w.before args s = true) (hown : s.vm.findClass own = some m.cls) (hK : va_K G.2.2.1 vwCl (dT G) s) (ok : okN own b ci N) (hB : B.1 ≤ R.cells ∧ B.2 ≤ R.slots) (d : decode cc pc = .ok (.new b, 3)) (k : s_new fr B ci N (VW p l e R s m args below meth c Qm G fr nL (pc + 3)) u ls st σ) : VW p l e R s m args below meth c Qm G fr nL pc u ls st σ := by
  intro hn w1 w2 H locs la hW hS hl
  obtain ⟨q, ty, hq, hqt, okc, hN, hlink⟩ := ok
  unfold s_new at k
  split at k
  · rename_i c0 fs hs
    obtain ⟨rfl, rfl, hb1, hb2, k⟩ := k
    have hz := hW.sz
    obtain ⟨ht1, ht2⟩ := spx_ty hs hq hqt
    have hKn := hK.1 _ _ hq
    refine W.newcK hx hb hown (hts _ hlink) (hts _ okc.2.2.2.2.1) (hts _ okc.2.2.2.2.2) rfl d (by omega) (by rw [hN]; omega) hKn.2.1 rfl fun H1 kC hkC g1 g2 g3 => ?_
    have hcell : va_at G.2.2.1 vwCl (H.size, ent G true (fun _ => 0) (.inr (c0, fs))) H1 := by
      refine ⟨_, hq, (u_born ty hts okc.1 hKn hkC g1 okc.2.1).to (fun j hj => ?_)⟩
      have hj2 : j < fs.length := by rw [ht1]; exact hj
      have h1 := fvs_get G true (fun _ => 0) fs 0 j _ (List.getElem?_eq_getElem hj2)
      show defaultValue (ty j) = vp_V (fvs G true (fun _ => 0) fs 0) j
      unfold vp_V
      rw [List.getD_eq_getElem?_getD, h1, fv_0, ht2 j hj, List.getD_eq_getElem?_getD, List.getElem?_eq_getElem hj2]
      rfl
    have hW1 := hW.push rfl hs g2 g3 hcell
    have k := k hn w1 (wfs_c (v := .inr (.inr _)) trivial w2) H1 locs la hW1 (hS.more g2 g3) hl
    have ea : H.size = adr G (σ 1000000 0).toNat := by rw [adr_spx hs]; exact hz
    show W p l e R s m args below meth c H1 locs (u.1 + 1) (u.2 + q.2.2) Qm (F0 m (pc + 3) la (.ref H.size :: st.map (dv G)))
    rw [ea, hN]
    exact k
  · exact k.elim
end DR6
end
section
/-! CONTRACTS over the store, and calls -/
def exn : Nat → String
  | 0 => "java/util/NoSuchElementException"
  | _ => "java/lang/IllegalArgumentException"
/-- words of a throw that stay true when tables warm -/
def NWs : List Cond := [.castable "java/util/NoSuchElementException" "java/util/NoSuchElementException", .castable "java/lang/IllegalArgumentException" "java/lang/IllegalArgumentException",
  .declares (Bundle.initS "java/lang/RuntimeException"), .declares (Bundle.initS "java/lang/Exception"), .declares (Bundle.initS Bundle.tN)]
/-- the texts of the throws, by class and place -/
def STs : List (String × Nat × String) := [("WingTrams", 114, "the tape has not so many bytes"), ("WingTrams", 205, "no such count"), ("WingTrams", 227, "no such thing of a roof"), ("WingTrams", 255, "no such thing of an owl"), ("WingTrams", 257, "no such stop, or thing of a stop"), ("WingTrams", 283, "no such thing of a rider"), ("WingTrams", 288, "no such roof"), ("WingTrams", 290, "no such owl"), ("WingTrams", 292, "no such rider"), ("WingTrams", 317, "riders that there aren't, or a minute below 0"), ("WingTrams", 330, "no row is kept"), ("WingTrams", 348, "no such thing of beams"), ("WingTrams", 350, "not so many beams, or minutes"), ("WingTrams", 361, "not 1 to 8 straps"), ("WingTrams", 399, "no such thing of bats"), ("WingTrams", 413, "no such thing of years"), ("WingTrams", 415, "not 0 to 60 nights")]
def dEv (G : dG) (U : State) (H : Heap) : Prop :=
  va_K G.2.2.1 vwCl (dT G) U ∧ vx_Zq Bundle.tN "UNASSIGNED_STACK" Bundle.steD (rg G) U H ∧ vx_Zq Bundle.tN "SUPPRESSED_SENTINEL" Bundle.listD (rg G) U H ∧ (∀ w ∈ NWs, va_Nw w U) ∧ ∀ q ∈ STs, ∃ a : Nat, vk_R q.1 q.2.1 q.2.2 a U
theorem NWs_warm {s U : State} (hW : s.WarmedH U.vm) (h : ∀ w ∈ NWs, va_Nw w s) : ∀ w ∈ NWs, va_Nw w U := by
  have h1 := h
  unfold NWs at h1 ⊢
  simp only [List.forall_mem_cons] at h1 ⊢
  obtain ⟨a1, a2, a3, a4, a5, -⟩ := h1
  exact ⟨va_Nw.warmC hW a1, va_Nw.warmC hW a2, va_Nw.warmD hW a3, va_Nw.warmD hW a4, va_Nw.warmD hW a5, fun _ h => absurd h List.not_mem_nil⟩
theorem dEv.warm {G : dG} {s U : State} {H0 H : Heap} (h : dEv G s H0) (hW : s.WarmedH U.vm) (hk : ∀ q : Nat, q < H0.size → ¬ rg G q → H[q]? = H0[q]?) : dEv G U H := by
  obtain ⟨h1, h2, h3, h4, h5⟩ := h
  exact ⟨va_K.moved hW.alike h1, vx_Zq.moved hW.alike (h2.kept hk), vx_Zq.moved hW.alike (h3.kept hk), NWs_warm hW h4, fun q hq => (h5 q hq).imp fun a ha => vk_R.warm hW ha⟩
theorem dEv.same {G : dG} {s U : State} {H : Heap} (h : dEv G s H) (hv : U.vm = s.vm) : dEv G U H := by
  obtain ⟨h1, h2, h3, h4, h5⟩ := h
  have ha : s.vm.Alike U.vm := by rw [hv]; exact Vm.Alike.refl s.vm
  refine ⟨va_K.moved ha h1, vx_Zq.moved ha h2, vx_Zq.moved ha h3, fun w hw => va_Nw.same ?_ hv.symm (h4 w hw), fun q hq => (h5 q hq).imp fun a h => vk_R.same hv h⟩
  revert w
  unfold NWs
  simp only [List.forall_mem_cons]
  exact ⟨rfl, rfl, rfl, rfl, rfl, fun _ h => absurd h List.not_mem_nil⟩
def dPc (G : dG) (fr : Bool) (as : List dX) (σ : dS) : Array Value → State → Prop := fun v U => v = (as.map (dv G)).toArray ∧ Wd G fr σ U.heap ∧ dEv G U U.heap
def dQc (G : dG) (fr : Bool) (Q : dR → dS → Prop) : Array Value → State → Outcome → State → Prop := fun _ st o t =>
  (∃ (r : Option dX) (σ' : dS), o = .returned (r.map (dv G)) ∧ (∀ v, r = some v → wfx v) ∧ Q (.inl r) σ' ∧ Wd G fr σ' t.heap) ∧ va_F (rg G) st t
def dXC (G : dG) (fr : Bool) (Q : dR → dS → Prop) : String → State → State → Prop := fun E st t => ∃ (x : Nat) (σ' : dS), E = exn x ∧ Q (.inr x) σ' ∧ Wd G fr σ' t.heap ∧ va_F (rg G) st t
def dWs (q : dM) : List Cond := Cond.code q.1 q.2.1 q.2.2.1 q.2.2.2.1 :: TBg
def dRm (d mc ms : Nat) : Room := { frames := d + 20, cells := mc, slots := ms, locals := 60 * d + 400 }
/-- method q keeps its contract, its calls at most d deep, if Cw says of it what wpm says -/
def dMet (l : Launch) (G : dG) (d : Nat) (Cw : List dX → dS → (dR → dS → Prop) → Prop) (q : dM) : Prop := ∀ (as : List dX) (σ : dS) (Q : dR → dS → Prop), wfs as → Cw as σ Q →
  vx_Met l q.1 (dWs q) (dRm d q.2.2.2.2.2.2.1.1 q.2.2.2.2.2.2.1.2) (dPc G q.2.2.2.2.2.2.2 as σ) (dQc G q.2.2.2.2.2.2.2 Q) (dXC G q.2.2.2.2.2.2.2 Q) q.2.2.2.2.2.2.1.1 q.2.2.2.2.2.2.1.2 (rg G)
theorem dPc_blind {G : dG} {fr : Bool} {as : List dX} {σ : dS} : FrameBlind (dPc G fr as σ) := fun _ U _ _ h => ⟨h.1, h.2.1, h.2.2.same (s := U) rfl⟩
theorem popN_spec : ∀ (n : Nat) (acc st as r : List dX), popN n acc st = some (as, r) → ∃ p : List dX, p.length = n ∧ st = p ++ r ∧ as = p.reverse ++ acc
  | 0, acc, st, as, r, h => by
    simp only [popN, Option.some.injEq, Prod.mk.injEq] at h
    exact ⟨[], rfl, by rw [h.2]; rfl, by rw [h.1]; rfl⟩
  | n + 1, acc, [], as, r, h => by simp [popN] at h
  | n + 1, acc, v :: st, as, r, h => by
    obtain ⟨p, h1, h2, h3⟩ := popN_spec n (v :: acc) st as r h
    exact ⟨v :: p, by rw [List.length_cons, h1], by rw [h2]; rfl, by rw [h3]; simp⟩
section DR7
variable {p : Program} {l : Launch} {e : Env} {R : Room} {s : State} {m : MethodId} {args : Array Value} {below : List Frame} {meth : Method} {c : Code} {Qm : State → Prop} {G : dG} {fr : Bool} {nL pc : Nat} {cc : ByteArray} {u : Nat × Nat} {ls : dL} {st : List dX} {σ : dS}
/-- behind a call: it answered, and the machine goes on; or it threw -/
theorem q_run {H : Heap} {locs : List Loc} {la : Array Slot} {mc ms : Nat} {st0 : List Value} {rest : List dX} {a : Array Value} {Q' : dR → dS → Prop}
    (hr : vx_Run p l e R s m args below meth c H locs u.1 u.2 mc ms (F0 m pc la st0) (rest.map (dv G)) (dQc G fr Q' a) (dXC G fr Q') (rg G)) (hS : va_S (rg G) s.heap H locs)
    (kk : ∀ (r : Option dX) (σ' : dS) (H1 : Heap) (locs1 : List Loc), (∀ v, r = some v → wfx v) → Q' (.inl r) σ' → Wd G fr σ' H1 → va_S (rg G) s.heap H1 locs1 → W p l e R s m args below meth c H1 locs1 (u.1 + mc) (u.2 + ms) Qm (F0 m (pc + 3) la ((r.toList ++ rest).map (dv G))))
    (kx : ∀ (x : Nat) (σ' : dS) (H1 : Heap) (locs1 : List Loc) (ce : Cell) (q : Addr), Q' (.inr x) σ' → Wd G fr σ' H1 → va_S (rg G) s.heap H1 locs1 → H1[q]? = some ce → ce.vm = .none → s.vm.findClass (exn x) = some ce.cls → vx_W p l e R s m args below meth c H1 locs1 (u.1 + mc) (u.2 + ms) Qm (F0 m pc la (rest.map (dv G))) q) :
    W p l e R s m args below meth c H locs u.1 u.2 Qm (F0 m pc la st0) := by
  intro T hT X
  rcases hr T hT X with ⟨v, st₀, t, T', L, h0, X', hL, e1, e2, ⟨⟨r, σ', hv, hw, hQ, hW⟩, hF⟩, go⟩ | ⟨q, st₀, t, T', L, E, ce, h0, X', hL, e1, e2, ⟨x, σ', hE, hQ, hW, hF⟩, hce, hcv, hcl, go⟩
  · cases hv
    obtain ⟨-, -, k3⟩ := vx_keep h0 e1 hS (fun q _ h => h) (fun q h => h) hL hF
    obtain ⟨t2, a1, b1⟩ := kk r σ' T'.heap (locs ++ L) hw hQ (by rw [e1]; exact hW) k3 T' rfl X'
    refine ⟨t2, go t2 ?_, b1⟩
    have : (r.map (dv G)).toList ++ rest.map (dv G) = (r.toList ++ rest).map (dv G) := by cases r <;> rfl
    rw [this]
    exact a1
  · obtain ⟨-, -, k3⟩ := vx_keep h0 e1 hS (fun q _ h => h) (fun q h => h) hL hF
    subst hE
    obtain ⟨t2, a1, b1⟩ := kx x σ' T'.heap (locs ++ L) ce q hQ (by rw [e1]; exact hW) k3 (by rw [e1]; exact hce) hcv hcl T' rfl X'
    exact ⟨t2, go.trans a1, b1⟩
set_option maxRecDepth 20000 in
theorem q_room {z d L : Nat} (h : z ≤ 40) (h2 : 60 * d + 460 ≤ L) : 8 + (z + 11) + (60 * d + 400) ≤ L := by omega
theorem q_callB {own : String} {b d n : Nat} {q : dM} (hts : ∀ w ∈ TBg, w.before args s = true) (ok : okM q) (hlink : Cond.methodLink own b q.1 ∈ TBg) (hn : q.2.2.2.2.2.1 = n) (hRf : d + 20 + 1 ≤ R.frames) (hRl : 60 * d + 460 ≤ R.locals) :
    CallB R s args own b q.1 q.2.1 q.2.2.1 q.2.2.2.1 (dWs q) (dRm d q.2.2.2.2.2.2.1.1 q.2.2.2.2.2.2.1.2) q.2.2.2.2.2.2.1.1 q.2.2.2.2.2.2.1.2 n := by
  obtain ⟨o1, o2, -, -, -, o6, o7, o8⟩ := ok
  have good : ∀ w ∈ TBg, ∀ (a' : Array Value) (U : State), s.WarmedH U.vm → w.before a' U = true := fun w hw a' U hW => word_at hW (good_of_word (List.mem_filter.mp hw).2) (hts w hw)
  refine ⟨rfl, rfl, hRf, ?_, fun w hw => ?_, List.mem_cons_self, hts _ o1, hts _ o2, o6, fun sig h => ?_, hts _ hlink⟩
  · exact q_room o8 hRl
  · rcases List.mem_cons.mp hw with rfl | hw
    · exact good _ o1
    · exact good _ hw
  · rw [h] at o7
    rw [← hn]
    exact (Option.some.inj o7).symm
/-- what a call item says of its callee's row q -/
def okK (own : String) (b : Nat) (tl : List Nat) (kind : Nat) (q : dM) : Prop := okM q ∧ Cond.methodLink own b q.1 ∈ TBg ∧ q.2.2.2.2.1 = kind ∧ n0 tl 1 = q.2.2.2.2.2.1 + (if kind = 1 then 0 else 1) ∧ n0 tl 3 = q.2.2.2.2.2.2.1.1 ∧ n0 tl 4 = q.2.2.2.2.2.2.1.2 ∧ (kind = 0 → ∃ w : vw_C, 1 ≤ n0 tl 2 ∧ vwCl[n0 tl 2 - 1]? = some w ∧ w.1 = q.1.cls)
theorem q_runV {own : String} {b d : Nat} {q : dM} {H : Heap} {locs : List Loc} {la : Array Slot} {t c0 : Nat} {fs : List Nat} {as' r : List dX} {Q' : dR → dS → Prop} {w : vw_C} (hx : p.tables.exec = Jvm.exec) (hb : c.code = cc) (hml : c.maxLocals = nL) (hts : ∀ w ∈ TBg, w.before args s = true) (hown : s.vm.findClass own = some m.cls) (hE : dEv G s s.heap) (hW : Wd G fr σ H) (hS : va_S (rg G) s.heap H locs) (okm : okM q) (hlink : Cond.methodLink own b q.1 ∈ TBg) (hkind : q.2.2.2.2.1 = 0) (hRf : d + 20 + 1 ≤ R.frames) (hRl : 60 * d + 460 ≤ R.locals)
    (hla : la.size = nL) (hwt : wt r ≤ 8) (hroom : u.1 + q.2.2.2.2.2.2.1.1 ≤ R.cells ∧ u.2 + q.2.2.2.2.2.2.1.2 ≤ R.slots) (hd : decode cc pc = .ok (.invokevirtual b, 3)) (hs : spx t = some (.inr (c0, fs))) (hT : isT fr σ t) (hw2 : vwCl[c0]? = some w) (hw3 : w.1 = q.1.cls) (hnar : as'.length = q.2.2.2.2.2.1)
    (hMet : vx_Met l q.1 (dWs q) (dRm d q.2.2.2.2.2.2.1.1 q.2.2.2.2.2.2.1.2) (dPc G fr (.inr (.inr t) :: as') σ) (dQc G fr Q') (dXC G fr Q') q.2.2.2.2.2.2.1.1 q.2.2.2.2.2.2.1.2 (rg G)) :
    vx_Run p l e R s m args below meth c H locs u.1 u.2 q.2.2.2.2.2.2.1.1 q.2.2.2.2.2.2.1.2 (F0 m pc la ((as'.map (dv G)).reverse ++ .ref (adr G t) :: r.map (dv G))) (r.map (dv G)) (dQc G fr Q' ((Value.ref (adr G t) :: as'.map (dv G)).toArray)) (dXC G fr Q') (rg G) := by
  obtain ⟨hi, hse⟩ := okm.2.2.1 hkind
  have hcell := hW.cell (isT_lt hT hs) hs
  have hrc := va_recv hE.1 hW.1 hw2 hcell
  rw [hw3, ← adr_spx hs] at hrc
  refine vx_runV (As := as'.map (dv G)) (rest := r.map (dv G)) ⟨hx, hb, hml, hown, hts⟩ hMet ⟨q_callB hts okm hlink rfl hRf hRl, hts _ hi, hts _ hse⟩ ⟨dPc_blind, hrc, fun U hU hWm => ⟨rfl, by rw [hU]; exact hW, by rw [hU]; exact hE.warm hWm hS.2.1⟩⟩ rfl (by rw [List.length_map]; exact hnar) hla rfl ?_ hd hroom
  rw [dv_cats, wt_sum]
  show 2 * 0 + _ ≤ 8
  omega
theorem q_runS {own : String} {b d : Nat} {q : dM} {H : Heap} {locs : List Loc} {la : Array Slot} {as' r : List dX} {Q' : dR → dS → Prop} (hx : p.tables.exec = Jvm.exec) (hb : c.code = cc) (hml : c.maxLocals = nL) (hts : ∀ w ∈ TBg, w.before args s = true) (hown : s.vm.findClass own = some m.cls) (hE : dEv G s s.heap) (hW : Wd G fr σ H) (hS : va_S (rg G) s.heap H locs) (okm : okM q) (hlink : Cond.methodLink own b q.1 ∈ TBg) (hkind : q.2.2.2.2.1 = 1) (hRf : d + 20 + 1 ≤ R.frames) (hRl : 60 * d + 460 ≤ R.locals)
    (hla : la.size = nL) (hwt : wt r ≤ 8) (hroom : u.1 + q.2.2.2.2.2.2.1.1 ≤ R.cells ∧ u.2 + q.2.2.2.2.2.2.1.2 ≤ R.slots) (hd : decode cc pc = .ok (.invokestatic b, 3)) (hnar : as'.length = q.2.2.2.2.2.1)
    (hMet : vx_Met l q.1 (dWs q) (dRm d q.2.2.2.2.2.2.1.1 q.2.2.2.2.2.2.1.2) (dPc G fr as' σ) (dQc G fr Q') (dXC G fr Q') q.2.2.2.2.2.2.1.1 q.2.2.2.2.2.2.1.2 (rg G)) :
    vx_Run p l e R s m args below meth c H locs u.1 u.2 q.2.2.2.2.2.2.1.1 q.2.2.2.2.2.2.1.2 (F0 m pc la ((as'.map (dv G)).reverse ++ r.map (dv G))) (r.map (dv G)) (dQc G fr Q' (as'.map (dv G)).toArray) (dXC G fr Q') (rg G) := by
  refine vx_runS (As := as'.map (dv G)) (rest := r.map (dv G)) ⟨hx, hb, hml, hown, hts⟩ hMet ⟨q_callB hts okm hlink rfl hRf hRl, hts _ (okm.2.2.2.1 hkind)⟩ ⟨dPc_blind, fun U hU hWm => ⟨rfl, by rw [hU]; exact hW, by rw [hU]; exact hE.warm hWm hS.2.1⟩⟩ rfl (by rw [List.length_map]; exact hnar) hla rfl ?_ hd hroom
  rw [dv_cats, wt_sum]
  show 2 * 0 + _ ≤ 8
  omega
theorem q_runI {own : String} {b d : Nat} {q : dM} {H : Heap} {locs : List Loc} {la : Array Slot} {t : Nat} {as' r : List dX} {Q' : dR → dS → Prop} (hx : p.tables.exec = Jvm.exec) (hb : c.code = cc) (hml : c.maxLocals = nL) (hts : ∀ w ∈ TBg, w.before args s = true) (hown : s.vm.findClass own = some m.cls) (hE : dEv G s s.heap) (hW : Wd G fr σ H) (hS : va_S (rg G) s.heap H locs) (okm : okM q) (hlink : Cond.methodLink own b q.1 ∈ TBg) (hkind : q.2.2.2.2.1 = 2) (hRf : d + 20 + 1 ≤ R.frames) (hRl : 60 * d + 460 ≤ R.locals)
    (hla : la.size = nL) (hwt : wt r ≤ 8) (hroom : u.1 + q.2.2.2.2.2.2.1.1 ≤ R.cells ∧ u.2 + q.2.2.2.2.2.2.1.2 ≤ R.slots) (hd : decode cc pc = .ok (.invokespecial b, 3)) (hnar : as'.length = q.2.2.2.2.2.1)
    (hMet : vx_Met l q.1 (dWs q) (dRm d q.2.2.2.2.2.2.1.1 q.2.2.2.2.2.2.1.2) (dPc G fr (.inr (.inr t) :: as') σ) (dQc G fr Q') (dXC G fr Q') q.2.2.2.2.2.2.1.1 q.2.2.2.2.2.2.1.2 (rg G)) :
    vx_Run p l e R s m args below meth c H locs u.1 u.2 q.2.2.2.2.2.2.1.1 q.2.2.2.2.2.2.1.2 (F0 m pc la ((as'.map (dv G)).reverse ++ .ref (adr G t) :: r.map (dv G))) (r.map (dv G)) (dQc G fr Q' ((Value.ref (adr G t) :: as'.map (dv G)).toArray)) (dXC G fr Q') (rg G) := by
  obtain ⟨hi, hnm, hrt⟩ := okm.2.2.2.2.1 hkind
  have hcb := q_callB (R := R) (d := d) hts okm hlink rfl hRf hRl
  rw [hrt] at hcb
  refine vx_runI (As := as'.map (dv G)) (rest := r.map (dv G)) ⟨hx, hb, hml, hown, hts⟩ hMet ⟨hcb, hnm, hts _ hi⟩ ⟨dPc_blind, fun U hU hWm => ⟨rfl, by rw [hU]; exact hW, by rw [hU]; exact hE.warm hWm hS.2.1⟩⟩ rfl (by rw [List.length_map]; exact hnar) hla rfl ?_ hd hroom
  rw [dv_cats, wt_sum]
  show 2 * 0 + _ ≤ 8
  omega
theorem r_call {C : dC} {B : Nat × Nat} {Q : dR → dS → Prop} {own : String} {b d kind : Nat} {tl : List Nat} {q : dM} {ins : Instr} (hx : p.tables.exec = Jvm.exec) (hb : c.code = cc) (hml : c.maxLocals = nL) (hts : ∀ w ∈ TBg, w.before args s = true) (hown : s.vm.findClass own = some m.cls) (hE : dEv G s s.heap) (ok : okK own b tl kind q) (hfr : q.2.2.2.2.2.2.2 = fr)
    (hM : dMet l G d (fun as σ Q => C (n0 tl 0) as σ Q) q) (hB : B.1 ≤ R.cells ∧ B.2 ≤ R.slots) (hRf : d + 20 + 1 ≤ R.frames) (hRl : 60 * d + 460 ≤ R.locals)
    (hd : decode cc pc = .ok (ins, 3)) (hins : kind = 0 ∧ ins = .invokevirtual b ∨ kind = 1 ∧ ins = .invokestatic b ∨ kind = 2 ∧ ins = .invokespecial b) {ci : Nat} (hci : kind = 0 ∧ ci = n0 tl 2 ∧ ci ≠ 999 ∨ kind = 1 ∧ ci = 0 ∨ kind = 2 ∧ ci = 999)
    (hthr : ∀ (x : Nat) (σ' : dS) (H1 : Heap) (locs1 : List Loc) (ce : Cell) (q9 : Addr) (la : Array Slot) (rest : List Value) (u' : Nat × Nat), u'.1 ≤ B.1 → u'.2 ≤ B.2 → Q (.inr x) σ' → Wd G fr σ' H1 → va_S (rg G) s.heap H1 locs1 → H1[q9]? = some ce → ce.vm = .none → s.vm.findClass (exn x) = some ce.cls → vx_W p l e R s m args below meth c H1 locs1 u'.1 u'.2 Qm (F0 m pc la rest) q9)
    (k : s_call fr C B Q (n0 tl 0) (n0 tl 1) ci (n0 tl 3) (n0 tl 4) (VW p l e R s m args below meth c Qm G fr nL (pc + 3)) u ls st σ) : VW p l e R s m args below meth c Qm G fr nL pc u ls st σ := by
  intro hn w1 w2 H locs la hW hS hl
  obtain ⟨okm, hlink, hkind, hnar, hmc, hms, hcls⟩ := ok
  unfold s_call at k
  split at k
  · rename_i as r hp
    obtain ⟨hwt, hb1, hb2, hrec, hC⟩ := k
    obtain ⟨pp, hp1, hp2, hp3⟩ := popN_spec _ _ _ _ _ hp
    rw [List.append_nil] at hp3
    have was : wfs as := fun v hv => w2 v (by rw [hp2]; rw [hp3] at hv; exact List.mem_append_left _ (List.mem_reverse.mp hv))
    have wr0 : wfs r := fun v hv => w2 v (by rw [hp2]; exact List.mem_append_right _ hv)
    have hMet := hM as σ _ was hC
    rw [hfr] at hMet
    have hroom : u.1 + q.2.2.2.2.2.2.1.1 ≤ R.cells ∧ u.2 + q.2.2.2.2.2.2.1.2 ≤ R.slots := by rw [← hmc, ← hms]; omega
    have hst2 : st.map (dv G) = (as.map (dv G)).reverse ++ r.map (dv G) := by
      rw [hp2, hp3, List.map_append, List.map_reverse, List.reverse_reverse]
    have hlen : as.length = n0 tl 1 := by rw [hp3, List.length_reverse]; exact hp1
    generalize hQ' : (fun (res : dR) (σ' : dS) => match res with
      | .inl (some v) => VW p l e R s m args below meth c Qm G fr nL (pc + 3) (u.1 + n0 tl 3, u.2 + n0 tl 4) ls (v :: r) σ'
      | .inl none => VW p l e R s m args below meth c Qm G fr nL (pc + 3) (u.1 + n0 tl 3, u.2 + n0 tl 4) ls r σ'
      | .inr e => Q (.inr e) σ') = Q' at hMet
    have hrun : vx_Run p l e R s m args below meth c H locs u.1 u.2 q.2.2.2.2.2.2.1.1 q.2.2.2.2.2.2.1.2 (F0 m pc la (st.map (dv G))) (r.map (dv G)) (dQc G fr Q' (as.map (dv G)).toArray) (dXC G fr Q') (rg G) := by
      rw [hst2]
      rcases hins with ⟨hk0, rfl⟩ | ⟨hk0, rfl⟩ | ⟨hk0, rfl⟩
      · subst hk0
        have hci : ci = n0 tl 2 ∧ ci ≠ 999 := by
          rcases hci with h | h | h
          · exact h.2
          · exact absurd h.1 (by decide)
          · exact absurd h.1 (by decide)
        obtain ⟨hci, hci9⟩ := hci
        obtain ⟨w, hw1, hw2, hw3⟩ := hcls rfl
        rcases hrec with hrec | hrec
        · omega
        · split at hrec
          · rename_i t as'
            rcases hrec with hrec | hrec
            · exact absurd hrec hci9
            split at hrec
            · rename_i c0 fs hs
              obtain ⟨hc0, hT⟩ := hrec
              have hq := q_runV (R := R) (e := e) (below := below) (meth := meth) (la := la) (as' := as') (r := r) (u := u) hx hb hml hts hown hE hW hS okm hlink hkind hRf hRl hl.1 hwt hroom hd hs hT (by rw [show c0 = n0 tl 2 - 1 by omega]; exact hw2) hw3 (by simp at hlen hnar; omega) hMet
              have e9 : ((Sum.inr (Sum.inr t) :: as' : List dX).map (dv G)).reverse ++ r.map (dv G) = (as'.map (dv G)).reverse ++ .ref (adr G t) :: r.map (dv G) := by
                rw [List.map_cons, List.reverse_cons, List.append_assoc]
                rfl
              rw [e9]
              exact hq
            · exact hrec.elim
          · exact hrec.elim
      · subst hk0
        exact q_runS hx hb hml hts hown hE hW hS okm hlink hkind hRf hRl hl.1 hwt hroom hd (by simp at hnar; omega) hMet
      · subst hk0
        have hci : ci = 999 := by
          rcases hci with h | h | h
          · exact absurd h.1 (by decide)
          · exact absurd h.1 (by decide)
          · exact h.2
        have h9 : ∃ (t : Nat) (as' : List dX), as = .inr (.inr t) :: as' := by
          rcases hrec with hrec | hrec
          · omega
          · split at hrec
            · rename_i t as'
              exact ⟨t, as', rfl⟩
            · exact hrec.elim
        obtain ⟨t, as', rfl⟩ := h9
        have hq := q_runI (R := R) (e := e) (below := below) (meth := meth) (la := la) (t := t) (as' := as') (r := r) (u := u) hx hb hml hts hown hE hW hS okm hlink hkind hRf hRl hl.1 hwt hroom hd (by simp at hlen hnar; omega) hMet
        have e9 : ((Sum.inr (Sum.inr t) :: as' : List dX).map (dv G)).reverse ++ r.map (dv G) = (as'.map (dv G)).reverse ++ .ref (adr G t) :: r.map (dv G) := by
          rw [List.map_cons, List.reverse_cons, List.append_assoc]
          rfl
        rw [e9]
        exact hq
    subst hQ'
    refine q_run hrun hS ?_ ?_
    · intro res σ' H1 locs1 hwf hQ hW1 hS1
      rw [← hmc, ← hms]
      rcases res with _ | v
      · exact hQ hn w1 wr0 H1 locs1 la hW1 hS1 hl
      · exact hQ hn w1 (wfs_c (hwf v rfl) wr0) H1 locs1 la hW1 hS1 hl
    · intro x σ' H1 locs1 ce q9 hQ hW1 hS1 h1 h2 h3
      rw [← hmc, ← hms]
      exact hthr x σ' H1 locs1 ce q9 la _ (u.1 + n0 tl 3, u.2 + n0 tl 4) hb1 hb2 hQ hW1 hS1 h1 h2 h3
  · exact k.elim
end DR7
end
section
/-! MORE IS OWED, MORE HOLDS: an item is monotone in what is owed behind it -/
section MONO
variable {fr : Bool} {B : Nat × Nat} {C C' : dC} {P P' : Nat → dK} {Q Q' : dR → dS → Prop} {k k' : dK} {u : Nat × Nat} {ls : dL} {st : List dX} {σ : dS}
theorem s_push_m {v : dX} (hk : ∀ u ls st σ, k u ls st σ → k' u ls st σ) (h : s_push v k u ls st σ) : s_push v k' u ls st σ := hk _ _ _ _ h
theorem s_iload_m {i : Nat} (hk : ∀ u ls st σ, k u ls st σ → k' u ls st σ) (h : s_iload i k u ls st σ) : s_iload i k' u ls st σ := by
  unfold s_iload at h ⊢
  split at h
  · exact hk _ _ _ _ h
  · exact h.elim
theorem s_lload_m {i : Nat} (hk : ∀ u ls st σ, k u ls st σ → k' u ls st σ) (h : s_lload i k u ls st σ) : s_lload i k' u ls st σ := by
  unfold s_lload at h ⊢
  split at h
  · exact hk _ _ _ _ h
  · exact h.elim
theorem s_aload_m {i : Nat} (hk : ∀ u ls st σ, k u ls st σ → k' u ls st σ) (h : s_aload i k u ls st σ) : s_aload i k' u ls st σ := by
  unfold s_aload at h ⊢
  split at h
  · exact hk _ _ _ _ h
  · exact h.elim
theorem s_istore_m {i : Nat} (hk : ∀ u ls st σ, k u ls st σ → k' u ls st σ) (h : s_istore i k u ls st σ) : s_istore i k' u ls st σ := by
  unfold s_istore at h ⊢
  split at h
  · exact ⟨h.1, hk _ _ _ _ h.2⟩
  · exact h.elim
theorem s_astore_m {i : Nat} (hk : ∀ u ls st σ, k u ls st σ → k' u ls st σ) (h : s_astore i k u ls st σ) : s_astore i k' u ls st σ := by
  unfold s_astore at h ⊢
  split at h
  · exact ⟨h.1, hk _ _ _ _ h.2⟩
  · exact h.elim
theorem s_lstore_m {i : Nat} (hk : ∀ u ls st σ, k u ls st σ → k' u ls st σ) (h : s_lstore i k u ls st σ) : s_lstore i k' u ls st σ := by
  unfold s_lstore at h ⊢
  split at h
  · exact ⟨h.1, h.2.1, hk _ _ _ _ h.2.2⟩
  · exact h.elim
theorem s_iinc_m {i : Nat} {a : Int} (hk : ∀ u ls st σ, k u ls st σ → k' u ls st σ) (h : s_iinc i a k u ls st σ) : s_iinc i a k' u ls st σ := by
  unfold s_iinc at h ⊢
  split at h
  · exact ⟨h.1, hk _ _ _ _ h.2⟩
  · exact h.elim
theorem s_bin_m {f : Int → Int → Int} (hk : ∀ u ls st σ, k u ls st σ → k' u ls st σ) (h : s_bin f k u ls st σ) : s_bin f k' u ls st σ := by
  unfold s_bin at h ⊢
  split at h
  · exact hk _ _ _ _ h
  · exact h.elim
theorem s_div_m {f : Int → Int → Int} (hk : ∀ u ls st σ, k u ls st σ → k' u ls st σ) (h : s_div f k u ls st σ) : s_div f k' u ls st σ := by
  unfold s_div at h ⊢
  split at h
  · exact ⟨h.1, hk _ _ _ _ h.2⟩
  · exact h.elim
theorem s_un_m {f : Int → Int} (hk : ∀ u ls st σ, k u ls st σ → k' u ls st σ) (h : s_un f k u ls st σ) : s_un f k' u ls st σ := by
  unfold s_un at h ⊢
  split at h
  · exact hk _ _ _ _ h
  · exact h.elim
theorem s_i2l_m  (hk : ∀ u ls st σ, k u ls st σ → k' u ls st σ) (h : s_i2l  k u ls st σ) : s_i2l  k' u ls st σ := by
  unfold s_i2l at h ⊢
  split at h
  · exact hk _ _ _ _ h
  · exact h.elim
theorem s_lbin_m {f : Int → Int → Int} (hk : ∀ u ls st σ, k u ls st σ → k' u ls st σ) (h : s_lbin f k u ls st σ) : s_lbin f k' u ls st σ := by
  unfold s_lbin at h ⊢
  split at h
  · exact hk _ _ _ _ h
  · exact h.elim
theorem s_lshl_m  (hk : ∀ u ls st σ, k u ls st σ → k' u ls st σ) (h : s_lshl  k u ls st σ) : s_lshl  k' u ls st σ := by
  unfold s_lshl at h ⊢
  split at h
  · exact hk _ _ _ _ h
  · exact h.elim
theorem s_lcmp_m  (hk : ∀ u ls st σ, k u ls st σ → k' u ls st σ) (h : s_lcmp  k u ls st σ) : s_lcmp  k' u ls st σ := by
  unfold s_lcmp at h ⊢
  split at h
  · exact hk _ _ _ _ h
  · exact h.elim
theorem s_dup_m  (hk : ∀ u ls st σ, k u ls st σ → k' u ls st σ) (h : s_dup  k u ls st σ) : s_dup  k' u ls st σ := by
  unfold s_dup at h ⊢
  split at h
  · exact ⟨h.1, hk _ _ _ _ h.2⟩
  · exact h.elim
theorem s_pop_m  (hk : ∀ u ls st σ, k u ls st σ → k' u ls st σ) (h : s_pop  k u ls st σ) : s_pop  k' u ls st σ := by
  unfold s_pop at h ⊢
  split at h
  · exact ⟨h.1, hk _ _ _ _ h.2⟩
  · exact h.elim
theorem s_dup2_m  (hk : ∀ u ls st σ, k u ls st σ → k' u ls st σ) (h : s_dup2  k u ls st σ) : s_dup2  k' u ls st σ := by
  unfold s_dup2 at h ⊢
  split at h
  · exact ⟨h.1, h.2.1, hk _ _ _ _ h.2.2⟩
  · exact h.elim
theorem s_objI_m  (hk : ∀ u ls st σ, k u ls st σ → k' u ls st σ) (h : s_objI  k u ls st σ) : s_objI  k' u ls st σ := by
  unfold s_objI at h ⊢
  split at h
  · exact ⟨h.1, hk _ _ _ _ h.2⟩
  · exact h.elim
theorem s_if_m {c : Int → Prop} {j j' : dK} (hj : ∀ u ls st σ, j u ls st σ → j' u ls st σ) (hk : ∀ u ls st σ, k u ls st σ → k' u ls st σ) (h : s_if c j k u ls st σ) : s_if c j' k' u ls st σ := by
  unfold s_if at h ⊢
  split at h
  · exact ⟨fun q => hj _ _ _ _ (h.1 q), fun q => hk _ _ _ _ (h.2 q)⟩
  · exact h.elim
theorem s_icmp_m {c : Int → Int → Prop} {j j' : dK} (hj : ∀ u ls st σ, j u ls st σ → j' u ls st σ) (hk : ∀ u ls st σ, k u ls st σ → k' u ls st σ) (h : s_icmp c j k u ls st σ) : s_icmp c j' k' u ls st σ := by
  unfold s_icmp at h ⊢
  split at h
  · exact ⟨fun q => hj _ _ _ _ (h.1 q), fun q => hk _ _ _ _ (h.2 q)⟩
  · exact h.elim
theorem s_getf_m {ci j : Nat} (hk : ∀ u ls st σ, k u ls st σ → k' u ls st σ) (h : s_getf fr ci j k u ls st σ) : s_getf fr ci j k' u ls st σ := by
  unfold s_getf at h ⊢
  split at h
  · split at h
    · rename_i c fs hs

      obtain ⟨h1, h2, h⟩ := h
      refine ⟨h1, h2, ?_⟩
      split at h
      · exact hk _ _ _ _ h
      · exact hk _ _ _ _ h
      · exact ⟨h.1, hk _ _ _ _ h.2⟩
      · exact h.elim
    · exact h.elim
  · exact h.elim
theorem s_putf_m {ci j z : Nat} (hk : ∀ u ls st σ, k u ls st σ → k' u ls st σ) (h : s_putf fr ci j z k u ls st σ) : s_putf fr ci j z k' u ls st σ := by
  unfold s_putf at h ⊢
  split at h
  · split at h
    · rename_i c fs hs

      obtain ⟨h1, h2, h⟩ := h
      refine ⟨h1, h2, ?_⟩
      split at h
      · exact ⟨h.1, hk _ _ _ _ h.2⟩
      · exact ⟨h.1, h.2.1, hk _ _ _ _ h.2.2⟩
      · exact ⟨h.1, h.2.1, h.2.2.1, hk _ _ _ _ h.2.2.2⟩
      · exact h.elim
    · exact h.elim
  · exact h.elim
theorem s_ald_m {kind : Nat} (hk : ∀ u ls st σ, k u ls st σ → k' u ls st σ) (h : s_ald fr kind k u ls st σ) : s_ald fr kind k' u ls st σ := by
  unfold s_ald at h ⊢
  split at h
  · split at h
    · rename_i hs

      exact ⟨h.1, h.2.1, h.2.2.1, h.2.2.2.1, hk _ _ _ _ h.2.2.2.2⟩
    · exact h.elim
  · exact h.elim
theorem s_ast_m {kind : Nat} (hk : ∀ u ls st σ, k u ls st σ → k' u ls st σ) (h : s_ast fr kind k u ls st σ) : s_ast fr kind k' u ls st σ := by
  unfold s_ast at h ⊢
  split at h
  · split at h
    · rename_i hs

      exact ⟨h.1, h.2.1, h.2.2.1, h.2.2.2.1, h.2.2.2.2.1, hk _ _ _ _ h.2.2.2.2.2⟩
    · exact h.elim
  · exact h.elim
theorem s_lald_m (hk : ∀ u ls st σ, k u ls st σ → k' u ls st σ) (h : s_lald k u ls st σ) : s_lald k' u ls st σ := by
  unfold s_lald at h ⊢
  split at h
  · split at h
    · rename_i hs

      exact ⟨h.1, h.2.1, h.2.2.1, hk _ _ _ _ h.2.2.2⟩
    · exact h.elim
  · exact h.elim
theorem s_last_m (hk : ∀ u ls st σ, k u ls st σ → k' u ls st σ) (h : s_last k u ls st σ) : s_last k' u ls st σ := by
  unfold s_last at h ⊢
  split at h
  · split at h
    · rename_i hs

      exact ⟨h.1, h.2.1, h.2.2.1, h.2.2.2.1, hk _ _ _ _ h.2.2.2.2⟩
    · exact h.elim
  · exact h.elim
theorem s_alen_m (hk : ∀ u ls st σ, k u ls st σ → k' u ls st σ) (h : s_alen fr k u ls st σ) : s_alen fr k' u ls st σ := by
  unfold s_alen at h ⊢
  split at h
  · split at h
    · rename_i hs

      exact ⟨h.1, hk _ _ _ _ h.2⟩
    · exact h.elim
  · exact h.elim
theorem s_call_m {y n ci mc ms : Nat} (hC : ∀ y as σ Q Q', (∀ r σ, Q r σ → Q' r σ) → C y as σ Q → C' y as σ Q') (hQ : ∀ r σ, Q r σ → Q' r σ) (hk : ∀ u ls st σ, k u ls st σ → k' u ls st σ) (h : s_call fr C B Q y n ci mc ms k u ls st σ) : s_call fr C' B Q' y n ci mc ms k' u ls st σ := by
  unfold s_call at h ⊢
  split at h
  · obtain ⟨h1, h2, h3, h4, h5⟩ := h
    refine ⟨h1, h2, h3, h4, hC _ _ _ _ _ (fun r σ' h => ?_) h5⟩
    rcases r with (_ | v) | e
    · exact hk _ _ _ _ h
    · exact hk _ _ _ _ h
    · exact hQ _ _ h
  · exact h.elim
theorem s_new_m {ci N : Nat} (hk : ∀ u ls st σ, k u ls st σ → k' u ls st σ) (h : s_new fr B ci N k u ls st σ) : s_new fr B ci N k' u ls st σ := by
  unfold s_new at h ⊢
  split at h
  · rename_i hs

    exact ⟨h.1, h.2.1, h.2.2.1, h.2.2.2.1, hk _ _ _ _ h.2.2.2.2⟩
  · exact h.elim
theorem s_newa_m {kind : Nat} (hk : ∀ u ls st σ, k u ls st σ → k' u ls st σ) (h : s_newa fr B kind k u ls st σ) : s_newa fr B kind k' u ls st σ := by
  unfold s_newa at h ⊢
  split at h
  · split at h
    · rename_i hs

      exact ⟨h.1, h.2.1, h.2.2.1, h.2.2.2.1, h.2.2.2.2.1, h.2.2.2.2.2.1, hk _ _ _ _ h.2.2.2.2.2.2⟩
    · exact h.elim
  · exact h.elim
theorem s_iret_m {z : Nat} (hQ : ∀ r σ, Q r σ → Q' r σ) (h : s_iret B Q z u ls st σ) : s_iret B Q' z u ls st σ := by
  unfold s_iret at h ⊢
  split at h
  · exact ⟨h.1, h.2.1, h.2.2.1, hQ _ _ h.2.2.2⟩
  · exact h.elim
theorem s_lret_m (hQ : ∀ r σ, Q r σ → Q' r σ) (h : s_lret B Q u ls st σ) : s_lret B Q' u ls st σ := by
  unfold s_lret at h ⊢
  split at h
  · exact ⟨h.1, h.2.1, hQ _ _ h.2.2⟩
  · exact h.elim
theorem s_vret_m (hQ : ∀ r σ, Q r σ → Q' r σ) (h : s_vret B Q u ls st σ) : s_vret B Q' u ls st σ := by
  unfold s_vret at h ⊢
  split at h
  · exact ⟨h.1, h.2.1, hQ _ _ h.2.2⟩
  · exact h.elim
theorem swT_m (hP : ∀ lb u ls st σ, P lb u ls st σ → P' lb u ls st σ) {d : Nat} {x : Int} {r : List dX} : ∀ (tl : List Nat) (a : Int), swT P d x u ls r σ a tl → swT P' d x u ls r σ a tl
  | [], _, h => hP _ _ _ _ _ h
  | _ :: tl, a, h => ⟨fun q => hP _ _ _ _ _ (h.1 q), fun q => swT_m hP tl (a + 1) (h.2 q)⟩
theorem swL_m (hP : ∀ lb u ls st σ, P lb u ls st σ → P' lb u ls st σ) {d : Nat} {x : Int} {r : List dX} : ∀ (tl : List Nat), swL P d x u ls r σ tl → swL P' d x u ls r σ tl
  | [], h => hP _ _ _ _ _ h
  | [_], h => hP _ _ _ _ _ h
  | _ :: _ :: tl, h => ⟨fun q => hP _ _ _ _ _ (h.1 q), fun q => swL_m hP tl (h.2 q)⟩
theorem s_tsw_m (hP : ∀ lb u ls st σ, P lb u ls st σ → P' lb u ls st σ) {d : Nat} {a : Int} {tl : List Nat} (h : s_tsw P d a tl u ls st σ) : s_tsw P' d a tl u ls st σ := by
  unfold s_tsw at h ⊢
  split at h
  · exact swT_m hP _ _ h
  · exact h.elim
theorem s_lsw_m (hP : ∀ lb u ls st σ, P lb u ls st σ → P' lb u ls st σ) {d : Nat} {tl : List Nat} (h : s_lsw P d tl u ls st σ) : s_lsw P' d tl u ls st σ := by
  unfold s_lsw at h ⊢
  split at h
  · exact swL_m hP _ h
  · exact h.elim
theorem s_throw_m {e : Nat} (hQ : ∀ r σ, Q r σ → Q' r σ) (h : s_throw B Q e u ls st σ) : s_throw B Q' e u ls st σ := ⟨h.1, h.2.1, h.2.2.1, hQ _ _ h.2.2.2⟩
theorem stp_m {op : Nat} {a : Int} {b : Nat} {tl : List Nat} (hC : ∀ y as σ Q Q', (∀ r σ, Q r σ → Q' r σ) → C y as σ Q → C' y as σ Q') (hP : ∀ lb u ls st σ, P lb u ls st σ → P' lb u ls st σ) (hQ : ∀ r σ, Q r σ → Q' r σ) (hk : ∀ u ls st σ, k u ls st σ → k' u ls st σ) (h : stp fr B C P Q op a b tl k u ls st σ) : stp fr B C' P' Q' op a b tl k' u ls st σ := by
  unfold stp at h ⊢
  split at h
  · exact s_push_m hk h
  · exact s_push_m hk h
  · exact s_push_m hk h
  · exact s_push_m hk h
  · exact s_push_m hk h
  · exact s_iload_m hk h
  · exact s_iload_m hk h
  · exact s_aload_m hk h
  · exact s_aload_m hk h
  · exact s_lload_m hk h
  · exact s_lload_m hk h
  · exact s_istore_m hk h
  · exact s_istore_m hk h
  · exact s_astore_m hk h
  · exact s_astore_m hk h
  · exact s_lstore_m hk h
  · exact s_lstore_m hk h
  · exact s_iinc_m hk h
  · exact s_bin_m hk h
  · exact s_bin_m hk h
  · exact s_bin_m hk h
  · exact s_div_m hk h
  · exact s_div_m hk h
  · exact s_un_m hk h
  · exact s_bin_m hk h
  · exact s_bin_m hk h
  · exact s_bin_m hk h
  · exact s_bin_m hk h
  · exact s_bin_m hk h
  · exact s_bin_m hk h
  · exact s_i2l_m hk h
  · exact s_un_m hk h
  · exact s_lcmp_m hk h
  · exact s_push_m hk h
  · exact s_lbin_m hk h
  · exact s_lbin_m hk h
  · exact s_lshl_m hk h
  · exact s_lbin_m hk h
  · exact s_push_m hk h
  · exact s_dup_m hk h
  · exact s_pop_m hk h
  · exact s_dup2_m hk h
  · exact hP _ _ _ _ _ h
  · exact s_if_m (hP _) hk h
  · exact s_if_m (hP _) hk h
  · exact s_if_m (hP _) hk h
  · exact s_if_m (hP _) hk h
  · exact s_if_m (hP _) hk h
  · exact s_if_m (hP _) hk h
  · exact s_icmp_m (hP _) hk h
  · exact s_icmp_m (hP _) hk h
  · exact s_icmp_m (hP _) hk h
  · exact s_icmp_m (hP _) hk h
  · exact s_icmp_m (hP _) hk h
  · exact s_icmp_m (hP _) hk h
  · exact s_getf_m hk h
  · exact s_putf_m hk h
  · exact s_ald_m hk h
  · exact s_ast_m hk h
  · exact s_ald_m hk h
  · exact s_ast_m hk h
  · exact s_lald_m hk h
  · exact s_last_m hk h
  · exact s_alen_m hk h
  · exact s_call_m hC hQ hk h
  · exact s_call_m hC hQ hk h
  · exact s_call_m hC hQ hk h
  · exact s_objI_m hk h
  · exact s_new_m hk h
  · exact s_newa_m hk h
  · exact s_iret_m hQ h
  · exact s_lret_m hQ h
  · exact s_vret_m hQ h
  · exact s_tsw_m hP h
  · exact s_lsw_m hP h
  · exact s_throw_m hQ h
  · exact hP _ _ _ _ _ h
  · exact s_putf_m hk h
  · exact h.elim
theorem ex_m (hC : ∀ y as σ Q Q', (∀ r σ, Q r σ → Q' r σ) → C y as σ Q → C' y as σ Q') (hP : ∀ lb u ls st σ, P lb u ls st σ → P' lb u ls st σ) (hQ : ∀ r σ, Q r σ → Q' r σ) : ∀ (is : List dI) (u : Nat × Nat) (ls : dL) (st : List dX) (σ : dS), ex fr B C P Q is u ls st σ → ex fr B C' P' Q' is u ls st σ
  | [], _, _, _, _, h => h.elim
  | (op, a, b, tl) :: is, _, _, _, _, h => stp_m (op := op) (a := a) (b := b) (tl := tl) hC hP hQ (ex_m hC hP hQ is) h
end MONO
/-- the least one is closed .. -/
theorem lfp_in {F : (Nat → dK) → Nat → dK} (hF : ∀ P P' : Nat → dK, (∀ lb u ls st σ, P lb u ls st σ → P' lb u ls st σ) → ∀ lb u ls st σ, F P lb u ls st σ → F P' lb u ls st σ) {lb : Nat} {u : Nat × Nat} {ls : dL} {st : List dX} {σ : dS} (h : F (lfp F) lb u ls st σ) : lfp F lb u ls st σ :=
  fun P hP => hP _ _ _ _ _ (hF _ _ (fun lb u ls st σ q => q P hP) _ _ _ _ _ h)
/-- .. and no more than what it says -/
theorem lfp_out {F : (Nat → dK) → Nat → dK} (hF : ∀ P P' : Nat → dK, (∀ lb u ls st σ, P lb u ls st σ → P' lb u ls st σ) → ∀ lb u ls st σ, F P lb u ls st σ → F P' lb u ls st σ) {lb : Nat} {u : Nat × Nat} {ls : dL} {st : List dX} {σ : dS} (h : lfp F lb u ls st σ) : F (lfp F) lb u ls st σ :=
  h (F (lfp F)) (fun _ _ _ _ _ q => hF _ _ (fun _ _ _ _ _ z => lfp_in hF z) _ _ _ _ _ q)
theorem wpm_m (blk : Nat → Nat → List dI) (inf : Nat → Nat × Bool × (Nat × Nat)) : ∀ (d : Nat) (y : Nat) (as : List dX) (σ : dS) (Q Q' : dR → dS → Prop), (∀ r σ, Q r σ → Q' r σ) → wpm blk inf d y as σ Q → wpm blk inf d y as σ Q'
  | 0, _, _, _, _, _, _, h => h.elim
  | d + 1, y, as, σ, Q, Q', hQ, h => ⟨h.1, fun P hP => h.2 P (fun lb u ls st σ q => hP lb u ls st σ (ex_m (fun y as σ Q Q' => wpm_m blk inf d y as σ Q Q') (fun _ _ _ _ _ z => z) hQ _ _ _ _ _ q))⟩
/-- deeper is no less -/
theorem wpm_d (blk : Nat → Nat → List dI) (inf : Nat → Nat × Bool × (Nat × Nat)) : ∀ (d : Nat) (y : Nat) (as : List dX) (σ : dS) (Q : dR → dS → Prop), wpm blk inf d y as σ Q → wpm blk inf (d + 1) y as σ Q
  | 0, _, _, _, _, h => h.elim
  | d + 1, y, as, σ, Q, h => ⟨h.1, fun P hP => h.2 P (fun lb u ls st σ q => hP lb u ls st σ (ex_m (fun y as σ Q Q' hQ z => wpm_m blk inf (d + 1) y as σ Q Q' hQ (wpm_d blk inf d y as σ Q z)) (fun _ _ _ _ _ z => z) (fun _ _ z => z) _ _ _ _ _ q))⟩
end
section
/-! THE CHECK: items against the bytes of a method; what the tables owe an item -/
def dcd (cc : ByteArray) (pc : Nat) (i : Instr) (n : Nat) : Bool := decide (decode cc pc = .ok (i, n))
def rngI (a : Int) : Bool := decide (-2147483648 ≤ a) && decide (a < 2147483648)
def jmp (pcs : List Nat) (pc : Nat) (a : Int) (lb : Nat) : Bool := match pcs[lb]? with
  | some t => decide ((pc : Int) + a = (t : Int))
  | none => false
def jmps (pcs : List Nat) (pc : Nat) : List Int → List Nat → Bool
  | [], [] => true
  | o :: os, lb :: tl => jmp pcs pc o lb && jmps pcs pc os tl
  | _, _ => false
def jmpL (pcs : List Nat) (pc : Nat) : List (Int × Int) → List Nat → Bool
  | [], [] => true
  | (k, o) :: os, a :: lb :: tl => decide (k = (a : Int)) && (jmp pcs pc o lb && jmpL pcs pc os tl)
  | _, _ => false
def chkT (cc : ByteArray) (pcs : List Nat) (pc : Nat) (a : Int) (b : Nat) (tl : List Nat) : Bool := match decode cc pc with
  | .ok (.tableswitch d lo hi offs, _) => decide (lo = a) && (decide (hi = a + (tl.length : Int) - 1) && (rngI a && (rngI hi && (jmp pcs pc d b && jmps pcs pc offs.toList tl))))
  | _ => false
def chkL (cc : ByteArray) (pcs : List Nat) (pc : Nat) (b : Nat) (tl : List Nat) : Bool := match decode cc pc with
  | .ok (.lookupswitch d ps, _) => (ps.toList.zip (ps.toList.drop 1)).all (fun (a, next) => a.1 < next.1) && (jmp pcs pc d b && jmpL pcs pc ps.toList tl)
  | _ => false
/-- 'new; dup; ldc; <init>; athrow': tl = [class, new's index, the text's, <init>'s, 0 ldc 1 ldc_w] -/
def chkX (cc : ByteArray) (pc : Nat) (tl : List Nat) : Bool := dcd cc pc (.new (n0 tl 1)) 3 && (dcd cc (pc + 3) .dup 1 && (if n0 tl 4 = 0
  then dcd cc (pc + 4) (.ldc (n0 tl 2)) 2 && (dcd cc (pc + 6) (.invokespecial (n0 tl 3)) 3 && dcd cc (pc + 9) .athrow 1)
  else dcd cc (pc + 4) (.ldc_w (n0 tl 2)) 3 && (dcd cc (pc + 7) (.invokespecial (n0 tl 3)) 3 && dcd cc (pc + 10) .athrow 1)))
def aTy : Nat → ArrayType
  | 0 => .int
  | 1 => .boolean
  | _ => .long
def chkI (cc : ByteArray) (pcs : List Nat) (pc op : Nat) (a : Int) (b : Nat) (tl : List Nat) : Bool := match op with
  | 0 => dcd cc pc (.iconst a) 1 && rngI a
  | 1 => dcd cc pc (.bipush a) 2 && (decide ((Int8.ofInt a).toInt32 = Int32.ofInt a) && rngI a)
  | 2 => dcd cc pc (.sipush a) 3 && (decide ((Int16.ofInt a).toInt32 = Int32.ofInt a) && rngI a)
  | 3 => dcd cc pc (.ldc b) 2 && rngI a
  | 4 => dcd cc pc (.ldc_w b) 3 && rngI a
  | 5 => dcd cc pc (.iload b) 2
  | 6 => if h : b < 4 then dcd cc pc (.iload_n ⟨b, h⟩) 1 else false
  | 7 => dcd cc pc (.aload b) 2
  | 8 => if h : b < 4 then dcd cc pc (.aload_n ⟨b, h⟩) 1 else false
  | 9 => dcd cc pc (.lload b) 2
  | 10 => if h : b < 4 then dcd cc pc (.lload_n ⟨b, h⟩) 1 else false
  | 11 => dcd cc pc (.istore b) 2
  | 12 => if h : b < 4 then dcd cc pc (.istore_n ⟨b, h⟩) 1 else false
  | 13 => dcd cc pc (.astore b) 2
  | 14 => if h : b < 4 then dcd cc pc (.astore_n ⟨b, h⟩) 1 else false
  | 15 => dcd cc pc (.lstore b) 2
  | 16 => if h : b < 4 then dcd cc pc (.lstore_n ⟨b, h⟩) 1 else false
  | 17 => dcd cc pc (.iinc b a) 3
  | 18 => dcd cc pc .iadd 1
  | 19 => dcd cc pc .isub 1
  | 20 => dcd cc pc .imul 1
  | 21 => dcd cc pc .idiv 1
  | 22 => dcd cc pc .irem 1
  | 23 => dcd cc pc .ineg 1
  | 24 => dcd cc pc .ishl 1
  | 25 => dcd cc pc .ishr 1
  | 26 => dcd cc pc .iushr 1
  | 27 => dcd cc pc .iand 1
  | 28 => dcd cc pc .ior 1
  | 29 => dcd cc pc .ixor 1
  | 30 => dcd cc pc .i2l 1
  | 32 => dcd cc pc .i2c 1
  | 33 => dcd cc pc .lcmp 1
  | 34 => if a = 0 then dcd cc pc (.lconst 0) 1 else if a = 1 then dcd cc pc (.lconst 1) 1 else false
  | 35 => dcd cc pc .ladd 1
  | 36 => dcd cc pc .lsub 1
  | 37 => dcd cc pc .lshl 1
  | 38 => dcd cc pc .lor 1
  | 39 => dcd cc pc (.ldc2_w b) 3 && rngI a
  | 40 => dcd cc pc .dup 1
  | 41 => dcd cc pc .pop 1
  | 42 => dcd cc pc .dup2 1
  | 43 => dcd cc pc (.goto a) 3 && jmp pcs pc a b
  | 44 => dcd cc pc (.ifCond .eq a) 3 && jmp pcs pc a b
  | 45 => dcd cc pc (.ifCond .ne a) 3 && jmp pcs pc a b
  | 46 => dcd cc pc (.ifCond .lt a) 3 && jmp pcs pc a b
  | 47 => dcd cc pc (.ifCond .ge a) 3 && jmp pcs pc a b
  | 48 => dcd cc pc (.ifCond .gt a) 3 && jmp pcs pc a b
  | 49 => dcd cc pc (.ifCond .le a) 3 && jmp pcs pc a b
  | 50 => dcd cc pc (.if_icmp .eq a) 3 && jmp pcs pc a b
  | 51 => dcd cc pc (.if_icmp .ne a) 3 && jmp pcs pc a b
  | 52 => dcd cc pc (.if_icmp .lt a) 3 && jmp pcs pc a b
  | 53 => dcd cc pc (.if_icmp .ge a) 3 && jmp pcs pc a b
  | 54 => dcd cc pc (.if_icmp .gt a) 3 && jmp pcs pc a b
  | 55 => dcd cc pc (.if_icmp .le a) 3 && jmp pcs pc a b
  | 56 => dcd cc pc (.getfield b) 3
  | 57 => dcd cc pc (.putfield b) 3
  | 58 => dcd cc pc .iaload 1
  | 59 => dcd cc pc .iastore 1
  | 60 => dcd cc pc .baload 1
  | 61 => dcd cc pc .bastore 1
  | 62 => dcd cc pc .laload 1
  | 63 => dcd cc pc .lastore 1
  | 64 => dcd cc pc .arraylength 1
  | 65 => dcd cc pc (.invokevirtual b) 3
  | 66 => dcd cc pc (.invokestatic b) 3
  | 67 => dcd cc pc (.invokespecial b) 3
  | 68 => dcd cc pc (.invokespecial b) 3
  | 69 => dcd cc pc (.new b) 3
  | 70 => dcd cc pc (.newarray (aTy (n0 tl 0))) 2 && decide (n0 tl 0 ≤ 2)
  | 71 => dcd cc pc .ireturn 1
  | 72 => dcd cc pc .lreturn 1
  | 73 => dcd cc pc .return_ 1
  | 74 => chkT cc pcs pc a b tl
  | 75 => chkL cc pcs pc b tl
  | 76 => chkX cc pc tl
  | 78 => match pcs[b]? with | some t => decide (t = pc) | none => false
  | 79 => dcd cc pc (.putfield b) 3
  | _ => false
def lenI (op : Nat) : Nat := match op with
  | 1 => 2
  | 2 => 3
  | 3 => 2
  | 4 => 3
  | 5 => 2
  | 7 => 2
  | 9 => 2
  | 11 => 2
  | 13 => 2
  | 15 => 2
  | 17 => 3
  | 39 => 3
  | 43 => 3
  | 44 => 3
  | 45 => 3
  | 46 => 3
  | 47 => 3
  | 48 => 3
  | 49 => 3
  | 50 => 3
  | 51 => 3
  | 52 => 3
  | 53 => 3
  | 54 => 3
  | 55 => 3
  | 56 => 3
  | 57 => 3
  | 65 => 3
  | 66 => 3
  | 67 => 3
  | 68 => 3
  | 69 => 3
  | 70 => 2
  | 79 => 3
  | _ => 1
def chk (cc : ByteArray) (pcs : List Nat) : Nat → List dI → Bool
  | _, [] => true
  | pc, (op, a, b, tl) :: is => chkI cc pcs pc op a b tl && chk cc pcs (pc + lenI op) is
/-- what the tables owe an item of a method of own, that returns ret (init: a constructor) -/
def okI (own : String) (ret : Option FieldType) (init : Bool) (fr : Bool) (op : Nat) (a : Int) (b : Nat) (tl : List Nat) : Prop := match op with
  | 3 => Cond.constant own b (Int32.ofInt a) ∈ TBg
  | 4 => Cond.constant own b (Int32.ofInt a) ∈ TBg
  | 39 => Cond.constantLong own b (Int64.ofInt a) ∈ TBg
  | 56 => okF own b (n0 tl 0) (n0 tl 1)
  | 57 => okP own b (n0 tl 0) (n0 tl 1) (n0 tl 2) false
  | 79 => init = true ∧ okP own b (n0 tl 0) (n0 tl 1) (n0 tl 2) true
  | 62 => fr = false
  | 63 => fr = false
  | 65 => ∃ q : dM, MT[n0 tl 0]? = some q ∧ okK own b tl 0 q ∧ q.2.2.2.2.2.2.2 = fr ∧ n0 tl 2 ≠ 999
  | 66 => ∃ q : dM, MT[n0 tl 0]? = some q ∧ okK own b tl 1 q ∧ q.2.2.2.2.2.2.2 = fr
  | 67 => ∃ q : dM, MT[n0 tl 0]? = some q ∧ okK own b tl 2 q ∧ q.2.2.2.2.2.2.2 = fr
  | 68 => Cond.methodLink own b Lib.objectInit ∈ TBg ∧ Cond.instanceMethod Lib.objectInit ∈ TBg ∧ Cond.code Lib.objectInit ⟨#[0xb1]⟩ 1 none ∈ TBg
  | 69 => okN own b (n0 tl 0) (n0 tl 1)
  | 70 => Cond.arrayClass (newarray.typeOf (aTy (n0 tl 0))) ∈ TBg
  | 71 => n0 tl 0 = 0 ∧ ret = some .int ∨ n0 tl 0 = 1 ∧ ret = some .boolean
  | 72 => ret = some .long
  | 73 => ret = none
  | 76 => fr = false ∧ own = "WingTrams" ∧ ∃ tx : String, (own, n0 tl 2, tx) ∈ STs ∧ (n0 tl 0 = 0 ∧ n0 tl 1 = 203 ∧ n0 tl 3 = 207 ∨ n0 tl 0 = 1 ∧ n0 tl 1 = 112 ∧ n0 tl 3 = 116)
  | _ => True
theorem rngI_R {a : Int} (h : rngI a = true) : iR a := by
  unfold rngI at h
  simp only [Bool.and_eq_true, decide_eq_true_eq] at h
  exact h
theorem jmp_at {pcs : List Nat} {pc : Nat} {a : Int} {lb : Nat} (h : jmp pcs pc a lb = true) : ∃ t, pcs[lb]? = some t ∧ (pc : Int) + a = (t : Int) := by
  unfold jmp at h
  split at h
  · rename_i t ht
    exact ⟨t, ht, by simpa using h⟩
  · cases h
theorem dcd_at {cc : ByteArray} {pc : Nat} {i : Instr} {n : Nat} (h : dcd cc pc i n = true) : decode cc pc = .ok (i, n) := by
  unfold dcd at h
  simpa using h
section DSW
variable {p : Program} {l : Launch} {e : Env} {R : Room} {s : State} {m : MethodId} {args : Array Value} {below : List Frame} {meth : Method} {c : Code} {Qm : State → Prop} {G : dG} {fr : Bool} {nL pc : Nat} {cc : ByteArray} {u : Nat × Nat} {ls : dL} {st : List dX} {σ : dS} {pcs : List Nat} {P : Nat → dK}
theorem swT_in {d : Nat} {x : Int} {r : List dX} : ∀ (tl : List Nat) (a : Int), swT P d x u ls r σ a tl → (x < a ∨ a + (tl.length : Int) - 1 < x → P d u ls r σ) ∧ (∀ (j : Nat) (lb : Nat), tl[j]? = some lb → x = a + (j : Int) → P lb u ls r σ)
  | [], a, h => ⟨fun _ => h, fun j lb hj => by simp at hj⟩
  | lb0 :: tl, a, h => by
    obtain ⟨h1, h2⟩ := h
    refine ⟨fun hx => ?_, fun j lb hj hx => ?_⟩
    · have hne : ¬ x = a := by
        simp only [List.length_cons] at hx
        omega
      exact (swT_in tl (a + 1) (h2 hne)).1 (by simp only [List.length_cons] at hx; omega)
    · cases j with
      | zero =>
        simp only [List.getElem?_cons_zero, Option.some.injEq] at hj
        subst hj
        exact h1 (by omega)
      | succ j =>
        rw [List.getElem?_cons_succ] at hj
        exact (swT_in tl (a + 1) (h2 (by omega))).2 j lb hj (by omega)
theorem jmps_at : ∀ (os : List Int) (tl : List Nat), jmps pcs pc os tl = true → os.length = tl.length ∧ ∀ (j : Nat) (o : Int), os[j]? = some o → ∃ lb t, tl[j]? = some lb ∧ pcs[lb]? = some t ∧ (pc : Int) + o = (t : Int)
  | [], [], _ => ⟨rfl, fun j o h => by simp at h⟩
  | [], _ :: _, h => by simp [jmps] at h
  | _ :: _, [], h => by simp [jmps] at h
  | o :: os, lb :: tl, h => by
    simp only [jmps, Bool.and_eq_true] at h
    obtain ⟨h1, h2⟩ := h
    obtain ⟨g1, g2⟩ := jmps_at os tl h2
    refine ⟨by simp only [List.length_cons, g1], fun j o' hj => ?_⟩
    cases j with
    | zero =>
      simp only [List.getElem?_cons_zero, Option.some.injEq] at hj
      subst hj
      obtain ⟨t, a1, a2⟩ := jmp_at h1
      exact ⟨lb, t, rfl, a1, a2⟩
    | succ j =>
      rw [List.getElem?_cons_succ] at hj
      obtain ⟨lb', t, a1, a2, a3⟩ := g2 j o' hj
      exact ⟨lb', t, by rw [List.getElem?_cons_succ]; exact a1, a2, a3⟩
theorem r_tsw (hx : p.tables.exec = Jvm.exec) (hb : c.code = cc) {a : Int} {b : Nat} {tl : List Nat} (hc : chkT cc pcs pc a b tl = true) (hP : ∀ lb t, pcs[lb]? = some t → ∀ u ls st σ, P lb u ls st σ → VW p l e R s m args below meth c Qm G fr nL t u ls st σ) (k : s_tsw P b a tl u ls st σ) : VW p l e R s m args below meth c Qm G fr nL pc u ls st σ := by
  intro hn w1 w2 H locs la hW hS hl
  unfold chkT at hc
  split at hc
  · rename_i d lo hi offs n hd
    simp only [Bool.and_eq_true, decide_eq_true_eq] at hc
    obtain ⟨rfl, rfl, hr1, hr2, hj, hjs⟩ := hc
    unfold s_tsw at k
    split at k
    · rename_i x r
      obtain ⟨k1, k2⟩ := swT_in tl lo k
      have hxR : iR x := wfs_h w2
      have ti := ti_oi hxR
      obtain ⟨t0, j1, j2⟩ := jmp_at hj
      obtain ⟨g1, g2⟩ := jmps_at offs.toList tl hjs
      by_cases ho : x < lo ∨ lo + (tl.length : Int) - 1 < x
      · exact lv_tableOut hx hb hd (by rw [ti]; exact ho) j2 (hP b t0 j1 _ _ _ _ (k1 ho) hn w1 (wfs_t w2) H locs la hW hS hl)
      · have h3 : (x - lo).toNat < offs.toList.length := by rw [g1]; omega
        have h4 := List.getElem?_eq_getElem h3
        obtain ⟨lb, t, a1, a2, a3⟩ := g2 _ _ h4
        have h5 : offs[((Int32.ofInt x).toInt - lo).toNat]? = some offs.toList[(x - lo).toNat] := by rw [ti, ← Array.getElem?_toList]; exact h4
        exact lv_tableIn hx hb hd (by rw [ti]; omega) (by rw [ti]; omega) h5 a3 (hP lb t a2 _ _ _ _ (k2 _ lb a1 (by omega)) hn w1 (wfs_t w2) H locs la hW hS hl)
    · exact k.elim
  · cases hc
theorem swL_in {d : Nat} {x : Int} {r : List dX} : ∀ (os : List (Int × Int)) (tl : List Nat) (dflt : Int), jmpL pcs pc os tl = true → jmp pcs pc dflt d = true → swL P d x u ls r σ tl → ∃ (lb t : Nat), pcs[lb]? = some t ∧ (pc : Int) + Op.lookupswitch.offset os dflt x = (t : Int) ∧ P lb u ls r σ
  | [], [], dflt, _, hd, h => by
    obtain ⟨t, a1, a2⟩ := jmp_at hd
    exact ⟨d, t, a1, a2, h⟩
  | [], _ :: _, _, h, _, _ => by simp [jmpL] at h
  | (_, _) :: _, [], _, h, _, _ => by simp [jmpL] at h
  | (_, _) :: _, [_], _, h, _, _ => by simp [jmpL] at h
  | (kk, o) :: os, a :: lb :: tl, dflt, h, hd, hs => by
    simp only [jmpL, Bool.and_eq_true, decide_eq_true_eq] at h
    obtain ⟨rfl, h1, h2⟩ := h
    obtain ⟨s1, s2⟩ := hs
    by_cases hxa : x = (a : Int)
    · obtain ⟨t, a1, a2⟩ := jmp_at h1
      refine ⟨lb, t, a1, ?_, s1 hxa⟩
      rw [show Op.lookupswitch.offset (((a : Int), o) :: os) dflt x = o from by simp [Op.lookupswitch.offset, hxa]]
      exact a2
    · obtain ⟨lb', t, a1, a2, a3⟩ := swL_in os tl dflt h2 hd (s2 hxa)
      refine ⟨lb', t, a1, ?_, a3⟩
      rw [show Op.lookupswitch.offset (((a : Int), o) :: os) dflt x = Op.lookupswitch.offset os dflt x from by
        have : ¬ (a : Int) = x := fun q => hxa q.symm
        simp [Op.lookupswitch.offset, this, hxa]]
      exact a2
theorem r_lsw (hx : p.tables.exec = Jvm.exec) (hb : c.code = cc) {b : Nat} {tl : List Nat} (hc : chkL cc pcs pc b tl = true) (hP : ∀ lb t, pcs[lb]? = some t → ∀ u ls st σ, P lb u ls st σ → VW p l e R s m args below meth c Qm G fr nL t u ls st σ) (k : s_lsw P b tl u ls st σ) : VW p l e R s m args below meth c Qm G fr nL pc u ls st σ := by
  intro hn w1 w2 H locs la hW hS hl
  unfold chkL at hc
  split at hc
  · rename_i d ps n hd
    rw [Bool.and_eq_true, Bool.and_eq_true] at hc
    obtain ⟨hp, hj, hjs⟩ := hc
    unfold s_lsw at k
    split at k
    · rename_i x r
      obtain ⟨lb, t, a1, a2, a3⟩ := swL_in ps.toList tl d hjs hj k
      exact lv_lookup hx hb hd hp (by rw [ti_oi (wfs_h w2)]) a2 (hP lb t a1 _ _ _ _ a3 hn w1 (wfs_t w2) H locs la hW hS hl)
    · exact k.elim
  · cases hc
end DSW
end
section
/-! SOUND: what the items say, the machine does -/
section SND
variable {p : Program} {l : Launch} {e : Env} {R : Room} {s : State} {m : MethodId} {args : Array Value} {below : List Frame} {meth : Method} {c : Code} {Qm : State → Prop} {G : dG} {fr : Bool} {nL : Nat} {cc : ByteArray} {pcs : List Nat} {P : Nat → dK} {C : dC} {B : Nat × Nat} {Q : dR → dS → Prop} {own : String} {ret : Option FieldType} {init : Bool} {d : Nat}
/-- a throw ends the method, or is caught -/
def okThr (p : Program) (l : Launch) (e : Env) (R : Room) (s : State) (m : MethodId) (args : Array Value) (below : List Frame) (meth : Method) (c : Code) (Qm : State → Prop) (G : dG) (fr : Bool) (B : Nat × Nat) (Q : dR → dS → Prop) : Prop :=
  ∀ (pc x : Nat) (σ' : dS) (H1 : Heap) (locs1 : List Loc) (ce : Cell) (q9 : Addr) (la : Array Slot) (rest : List Value) (u' : Nat × Nat), u'.1 ≤ B.1 → u'.2 ≤ B.2 → Q (.inr x) σ' → Wd G fr σ' H1 → va_S (rg G) s.heap H1 locs1 → H1[q9]? = some ce → ce.vm = .none → s.vm.findClass (exn x) = some ce.cls → vx_W p l e R s m args below meth c H1 locs1 u'.1 u'.2 Qm (F0 m pc la rest) q9
/-- the ends: returns, and throws made here -/
def okEnd (p : Program) (l : Launch) (e : Env) (R : Room) (s : State) (m : MethodId) (args : Array Value) (below : List Frame) (meth : Method) (c : Code) (Qm : State → Prop) (G : dG) (fr : Bool) (nL : Nat) (cc : ByteArray) (B : Nat × Nat) (Q : dR → dS → Prop) (own : String) (ret : Option FieldType) : Prop :=
  (∀ (pc z : Nat) (u : Nat × Nat) (ls : dL) (st : List dX) (σ : dS), decode cc pc = .ok (.ireturn, 1) → (z = 0 ∧ ret = some .int ∨ z = 1 ∧ ret = some .boolean) → s_iret B Q z u ls st σ → VW p l e R s m args below meth c Qm G fr nL pc u ls st σ) ∧
  (∀ (pc : Nat) (u : Nat × Nat) (ls : dL) (st : List dX) (σ : dS), decode cc pc = .ok (.lreturn, 1) → ret = some .long → s_lret B Q u ls st σ → VW p l e R s m args below meth c Qm G fr nL pc u ls st σ) ∧
  (∀ (pc : Nat) (u : Nat × Nat) (ls : dL) (st : List dX) (σ : dS), decode cc pc = .ok (.return_, 1) → ret = none → s_vret B Q u ls st σ → VW p l e R s m args below meth c Qm G fr nL pc u ls st σ) ∧
  (∀ (pc b : Nat) (a : Int) (tl : List Nat) (u : Nat × Nat) (ls : dL) (st : List dX) (σ : dS), chkX cc pc tl = true → okI own ret false fr 76 a b tl → s_throw B Q (n0 tl 0) u ls st σ → VW p l e R s m args below meth c Qm G fr nL pc u ls st σ)
theorem snd_item (hx : p.tables.exec = Jvm.exec) (hb : c.code = cc) (hml : c.maxLocals = nL) (hts : ∀ w ∈ TBg, w.before args s = true) (hown : s.vm.findClass own = some m.cls) (hE : dEv G s s.heap) (hinit : init = true → meth.name = "<init>") (hB : B.1 ≤ R.cells ∧ B.2 ≤ R.slots) (hRf : d + 20 + 1 ≤ R.frames) (hRl : 60 * d + 460 ≤ R.locals)
    (hM : ∀ (y : Nat) (q : dM), MT[y]? = some q → dMet l G d (fun as σ Q => C y as σ Q) q) (hT : okThr p l e R s m args below meth c Qm G fr B Q) (hEnd : okEnd p l e R s m args below meth c Qm G fr nL cc B Q own ret)
    (hP : ∀ lb t, pcs[lb]? = some t → ∀ u ls st σ, P lb u ls st σ → VW p l e R s m args below meth c Qm G fr nL t u ls st σ)
    {op : Nat} {a : Int} {b : Nat} {tl : List Nat} {pc : Nat} (hc : chkI cc pcs pc op a b tl = true) (ho : okI own ret init fr op a b tl) {u : Nat × Nat} {ls : dL} {st : List dX} {σ : dS} (k : stp fr B C P Q op a b tl (VW p l e R s m args below meth c Qm G fr nL (pc + lenI op)) u ls st σ) : VW p l e R s m args below meth c Qm G fr nL pc u ls st σ := by
  have hK := hE.1
  have hRl1 : 100 ≤ R.locals := Nat.le_trans (Nat.le_of_ble_eq_true rfl) (Nat.le_trans (Nat.le_add_left _ _) hRl)
  unfold stp at k
  split at k
  · simp only [chkI, Bool.and_eq_true, decide_eq_true_eq] at hc
    exact r_iconst hx hb (dcd_at hc.1) (rngI_R hc.2) k
  · simp only [chkI, Bool.and_eq_true, decide_eq_true_eq] at hc
    exact r_bipush hx hb (dcd_at hc.1) hc.2.1 (rngI_R hc.2.2) k
  · simp only [chkI, Bool.and_eq_true, decide_eq_true_eq] at hc
    exact r_sipush hx hb (dcd_at hc.1) hc.2.1 (rngI_R hc.2.2) k
  · simp only [chkI, Bool.and_eq_true, decide_eq_true_eq] at hc
    exact r_ldc hx hb hown (hts _ ho) (dcd_at hc.1) (rngI_R hc.2) k
  · simp only [chkI, Bool.and_eq_true, decide_eq_true_eq] at hc
    exact r_ldcw hx hb hown (hts _ ho) (dcd_at hc.1) (rngI_R hc.2) k
  · exact r_iload hx hb (dcd_at hc) k
  · simp only [chkI] at hc
    split at hc
    · exact r_iload_n hx hb rfl (dcd_at hc) k
    · cases hc
  · exact r_aload hx hb (dcd_at hc) k
  · simp only [chkI] at hc
    split at hc
    · exact r_aload_n hx hb rfl (dcd_at hc) k
    · cases hc
  · exact r_lload hx hb (dcd_at hc) k
  · simp only [chkI] at hc
    split at hc
    · exact r_lload_n hx hb rfl (dcd_at hc) k
    · cases hc
  · exact r_istore hx hb (dcd_at hc) k
  · simp only [chkI] at hc
    split at hc
    · exact r_istore_n hx hb rfl (dcd_at hc) k
    · cases hc
  · exact r_astore hx hb (dcd_at hc) k
  · simp only [chkI] at hc
    split at hc
    · exact r_astore_n hx hb rfl (dcd_at hc) k
    · cases hc
  · exact r_lstore hx hb (dcd_at hc) k
  · simp only [chkI] at hc
    split at hc
    · exact r_lstore_n hx hb rfl (dcd_at hc) k
    · cases hc
  · exact r_iinc hx hb (dcd_at hc) k
  · exact r_iadd hx hb (dcd_at hc) k
  · exact r_isub hx hb (dcd_at hc) k
  · exact r_imul hx hb (dcd_at hc) k
  · exact r_idiv hx hb (dcd_at hc) k
  · exact r_irem hx hb (dcd_at hc) k
  · exact r_ineg hx hb (dcd_at hc) k
  · exact r_ishl hx hb (dcd_at hc) k
  · exact r_ishr hx hb (dcd_at hc) k
  · exact r_iushr hx hb (dcd_at hc) k
  · exact r_iand hx hb (dcd_at hc) k
  · exact r_ior hx hb (dcd_at hc) k
  · exact r_ixor hx hb (dcd_at hc) k
  · exact r_i2l hx hb (dcd_at hc) k
  · exact r_i2c hx hb (dcd_at hc) k
  · exact r_lcmp hx hb (dcd_at hc) k
  · simp only [chkI] at hc
    split at hc
    · rename_i h9
      exact r_lconst hx hb (dcd_at hc) (by rw [h9]; rfl) (by rw [h9]; unfold lR; omega) k
    · split at hc
      · rename_i h9
        exact r_lconst hx hb (dcd_at hc) (by rw [h9]; rfl) (by rw [h9]; unfold lR; omega) k
      · cases hc
  · exact r_ladd hx hb (dcd_at hc) k
  · exact r_lsub hx hb (dcd_at hc) k
  · exact r_lshl hx hb (dcd_at hc) k
  · exact r_lor hx hb (dcd_at hc) k
  · simp only [chkI, Bool.and_eq_true, decide_eq_true_eq] at hc
    exact r_ldc2 hx hb hown (hts _ ho) (dcd_at hc.1) (iR_l (rngI_R hc.2)) k
  · exact r_dup hx hb (dcd_at hc) k
  · exact r_pop hx hb (dcd_at hc) k
  · exact r_dup2 hx hb (dcd_at hc) k
  · simp only [chkI, Bool.and_eq_true, decide_eq_true_eq] at hc
    obtain ⟨t, j1, j2⟩ := jmp_at hc.2
    exact r_goto hx hb (dcd_at hc.1) j2 (hP _ t j1 _ _ _ _ k)
  · simp only [chkI, Bool.and_eq_true, decide_eq_true_eq] at hc
    obtain ⟨t, j1, j2⟩ := jmp_at hc.2
    exact r_if_eq hx hb (dcd_at hc.1) j2 (s_if_m (hP _ t j1) (fun _ _ _ _ z => z) k)
  · simp only [chkI, Bool.and_eq_true, decide_eq_true_eq] at hc
    obtain ⟨t, j1, j2⟩ := jmp_at hc.2
    exact r_if_ne hx hb (dcd_at hc.1) j2 (s_if_m (hP _ t j1) (fun _ _ _ _ z => z) k)
  · simp only [chkI, Bool.and_eq_true, decide_eq_true_eq] at hc
    obtain ⟨t, j1, j2⟩ := jmp_at hc.2
    exact r_if_lt hx hb (dcd_at hc.1) j2 (s_if_m (hP _ t j1) (fun _ _ _ _ z => z) k)
  · simp only [chkI, Bool.and_eq_true, decide_eq_true_eq] at hc
    obtain ⟨t, j1, j2⟩ := jmp_at hc.2
    exact r_if_ge hx hb (dcd_at hc.1) j2 (s_if_m (hP _ t j1) (fun _ _ _ _ z => z) k)
  · simp only [chkI, Bool.and_eq_true, decide_eq_true_eq] at hc
    obtain ⟨t, j1, j2⟩ := jmp_at hc.2
    exact r_if_gt hx hb (dcd_at hc.1) j2 (s_if_m (hP _ t j1) (fun _ _ _ _ z => z) k)
  · simp only [chkI, Bool.and_eq_true, decide_eq_true_eq] at hc
    obtain ⟨t, j1, j2⟩ := jmp_at hc.2
    exact r_if_le hx hb (dcd_at hc.1) j2 (s_if_m (hP _ t j1) (fun _ _ _ _ z => z) k)
  · simp only [chkI, Bool.and_eq_true, decide_eq_true_eq] at hc
    obtain ⟨t, j1, j2⟩ := jmp_at hc.2
    exact r_icmp_eq hx hb (dcd_at hc.1) j2 (s_icmp_m (hP _ t j1) (fun _ _ _ _ z => z) k)
  · simp only [chkI, Bool.and_eq_true, decide_eq_true_eq] at hc
    obtain ⟨t, j1, j2⟩ := jmp_at hc.2
    exact r_icmp_ne hx hb (dcd_at hc.1) j2 (s_icmp_m (hP _ t j1) (fun _ _ _ _ z => z) k)
  · simp only [chkI, Bool.and_eq_true, decide_eq_true_eq] at hc
    obtain ⟨t, j1, j2⟩ := jmp_at hc.2
    exact r_icmp_lt hx hb (dcd_at hc.1) j2 (s_icmp_m (hP _ t j1) (fun _ _ _ _ z => z) k)
  · simp only [chkI, Bool.and_eq_true, decide_eq_true_eq] at hc
    obtain ⟨t, j1, j2⟩ := jmp_at hc.2
    exact r_icmp_ge hx hb (dcd_at hc.1) j2 (s_icmp_m (hP _ t j1) (fun _ _ _ _ z => z) k)
  · simp only [chkI, Bool.and_eq_true, decide_eq_true_eq] at hc
    obtain ⟨t, j1, j2⟩ := jmp_at hc.2
    exact r_icmp_gt hx hb (dcd_at hc.1) j2 (s_icmp_m (hP _ t j1) (fun _ _ _ _ z => z) k)
  · simp only [chkI, Bool.and_eq_true, decide_eq_true_eq] at hc
    obtain ⟨t, j1, j2⟩ := jmp_at hc.2
    exact r_icmp_le hx hb (dcd_at hc.1) j2 (s_icmp_m (hP _ t j1) (fun _ _ _ _ z => z) k)
  · exact r_getf hx hb hts hown hK ho (dcd_at hc) k
  · exact r_putf hx hb hts hown hK ho (fun q => by cases q) (dcd_at hc) k
  · exact r_iald hx hb hK (dcd_at hc) k
  · exact r_iast hx hb hK (dcd_at hc) k
  · exact r_zald hx hb hK (dcd_at hc) k
  · exact r_zast hx hb hK (dcd_at hc) k
  · exact r_lald hx hb ho hK (dcd_at hc) k
  · exact r_last hx hb ho hK (dcd_at hc) k
  · exact r_alen hx hb hK (dcd_at hc) (fun _ _ _ => spx_kd) k
  · obtain ⟨q, hq, ok, hfr, h9⟩ := ho
    exact r_call hx hb hml hts hown hE ok hfr (hM _ q hq) hB hRf hRl (dcd_at hc) (Or.inl ⟨rfl, rfl⟩) (Or.inl ⟨rfl, rfl, h9⟩) (hT pc) k
  · obtain ⟨q, hq, ok, hfr⟩ := ho
    exact r_call hx hb hml hts hown hE ok hfr (hM _ q hq) hB hRf hRl (dcd_at hc) (Or.inr (Or.inl ⟨rfl, rfl⟩)) (Or.inr (Or.inl ⟨rfl, rfl⟩)) (hT pc) k
  · obtain ⟨q, hq, ok, hfr⟩ := ho
    exact r_call hx hb hml hts hown hE ok hfr (hM _ q hq) hB hRf hRl (dcd_at hc) (Or.inr (Or.inr ⟨rfl, rfl⟩)) (Or.inr (Or.inr ⟨rfl, rfl⟩)) (hT pc) k
  · exact r_objI hx hb hml hown (hts _ ho.1) (hts _ ho.2.1) (hts _ ho.2.2) (Nat.le_trans (Nat.le_add_left _ _) hRf) hRl1 (dcd_at hc) k
  · exact r_new hx hb hts hown hK ho hB (dcd_at hc) k
  · simp only [chkI, Bool.and_eq_true, decide_eq_true_eq] at hc
    refine r_newa hx hb hts hK ?_ ho hB (dcd_at hc.1) k
    have h9 := hc.2
    revert h9
    generalize n0 tl 0 = z
    intro h9
    rcases (show z = 0 ∨ z = 1 ∨ z = 2 by omega) with rfl | rfl | rfl
    · exact Or.inl ⟨rfl, rfl⟩
    · exact Or.inr (Or.inl ⟨rfl, rfl⟩)
    · exact Or.inr (Or.inr ⟨rfl, rfl⟩)
  · exact hEnd.1 _ _ _ _ _ _ (dcd_at hc) ho k
  · exact hEnd.2.1 _ _ _ _ _ (dcd_at hc) ho k
  · exact hEnd.2.2.1 _ _ _ _ _ (dcd_at hc) ho k
  · exact r_tsw hx hb hc hP k
  · exact r_lsw hx hb hc hP k
  · exact hEnd.2.2.2 pc b a tl _ _ _ _ hc ho k
  · simp only [chkI] at hc
    split at hc
    · rename_i t ht
      simp only [decide_eq_true_eq] at hc
      subst hc
      exact hP _ _ ht _ _ _ _ k
    · cases hc
  · exact r_putf hx hb hts hown hK ho.2 (fun _ => hinit ho.1) (dcd_at hc) k
  · exact k.elim
theorem snd_items (hx : p.tables.exec = Jvm.exec) (hb : c.code = cc) (hml : c.maxLocals = nL) (hts : ∀ w ∈ TBg, w.before args s = true) (hown : s.vm.findClass own = some m.cls) (hE : dEv G s s.heap) (hinit : init = true → meth.name = "<init>") (hB : B.1 ≤ R.cells ∧ B.2 ≤ R.slots) (hRf : d + 20 + 1 ≤ R.frames) (hRl : 60 * d + 460 ≤ R.locals)
    (hCm : ∀ y as σ Q Q', (∀ r σ, Q r σ → Q' r σ) → C y as σ Q → C y as σ Q')
    (hM : ∀ (y : Nat) (q : dM), MT[y]? = some q → dMet l G d (fun as σ Q => C y as σ Q) q) (hT : okThr p l e R s m args below meth c Qm G fr B Q) (hEnd : okEnd p l e R s m args below meth c Qm G fr nL cc B Q own ret)
    (hP : ∀ lb t, pcs[lb]? = some t → ∀ u ls st σ, P lb u ls st σ → VW p l e R s m args below meth c Qm G fr nL t u ls st σ) :
    ∀ (is : List dI) (pc : Nat), chk cc pcs pc is = true → (∀ it ∈ is, okI own ret init fr it.1 it.2.1 it.2.2.1 it.2.2.2) → ∀ (u : Nat × Nat) (ls : dL) (st : List dX) (σ : dS), ex fr B C P Q is u ls st σ → VW p l e R s m args below meth c Qm G fr nL pc u ls st σ
  | [], _, _, _, _, _, _, _, k => k.elim
  | (op, a, b, tl) :: is, pc, hc, ho, u, ls, st, σ, k => by
    simp only [chk, Bool.and_eq_true] at hc
    have ih := snd_items hx hb hml hts hown hE hinit hB hRf hRl hCm hM hT hEnd hP is (pc + lenI op) hc.2 (fun it h => ho it (List.mem_cons_of_mem _ h))
    exact snd_item hx hb hml hts hown hE hinit hB hRf hRl hM hT hEnd hP hc.1 (ho (op, a, b, tl) List.mem_cons_self) (stp_m hCm (fun _ _ _ _ _ z => z) (fun _ _ z => z) ih k)
end SND
end
section
/-! AN EXCEPTION MADE, where its constructor's link to its super's lies at any place (NoSuchElementException of this JDK: 13): turned from vx_ctorMadeS and vx_makeS of kit/laws/EXCEPTIONS.to-paste -/
def dx_atoms (own : String) (ic : Nat) (X : String) (ix : Nat) (rx : ByteArray) (Y1 : String) (names : List String) : List Cond :=
  Bundle.throwableAtoms ++ Bundle.throwableSAtoms ++ (Bundle.passSAtoms X Y1 ix rx ++ Bundle.chainSAtoms Y1 names) ++
  [.methodLink own ic (Bundle.initS X), .instantiable X 6, .castable X X, .selects X Bundle.tFill0 Bundle.tFill0, .selects X Bundle.tFill Bundle.tFill,
   .lays X Bundle.tN "cause" "Ljava/lang/Throwable;", .lays X Bundle.tN "stackTrace" Bundle.steD, .lays X Bundle.tN "suppressedExceptions" Bundle.listD, .lays X Bundle.tN "detailMessage" "Ljava/lang/String;",
   .isRef (.static Bundle.tN "UNASSIGNED_STACK" Bundle.steD), .isRef (.static Bundle.tN "SUPPRESSED_SENTINEL" Bundle.listD),
   .fieldLink Bundle.tN 198 Bundle.tN "backtrace" "Ljava/lang/Object;", .lays Bundle.tN Bundle.tN "backtrace" "Ljava/lang/Object;", .lays X Bundle.tN "backtrace" "Ljava/lang/Object;"]
section DXM
variable {p : Program} {l : Launch} {e : Env} {R : Room} {s : State} {m₀ : MethodId} {args : Array Value} {below : List Frame} {meth : Method} {c : Code} {W : State} {locs : List Loc} {cells slots : Nat}
set_option maxHeartbeats 1000000 in
theorem dx_ctorMadeS (X : Stand p l e R s m₀ args below meth c W locs cells slots) (hexec : p.tables.exec = Jvm.exec) (htr : e.platform.stackTraces = false) {own cls Y1 : String} {names : List String} {ic ix : Nat} {rx : ByteArray} (x0 : decode rx 0 = .ok (.aload_n 0, 1)) (x1 : decode rx 1 = .ok (.aload_n 1, 1)) (x2 : decode rx 2 = .ok (.invokespecial ix, 3)) (x5 : decode rx 5 = .ok (.return_, 1))
    (hown : s.vm.findClass own = some m₀.cls) (hcls : Bundle.fit cls = true) (hY1 : Bundle.fit Y1 = true) (hnames : ∀ n ∈ names, Bundle.fit n = true)
    (h : ∀ a ∈ dx_atoms own ic cls ix rx Y1 names, a.before args s = true)
    (hlocs : ∀ x ∈ locs, ∀ cell, s.heap[x.base]? = some cell → cell.vm.isStatics = false)
    {a : Addr} {cX : ClassId} {kX : Class} (hfoundX : s.vm.findClass cls = some cX) (hkX : s.vm.classes[cX]? = some kX) (hcell : W.heap[a]? = some (freshCell cX kX)) (hnew : s.heap.size ≤ a)
    {msg : Value} (hmsg : msg.isRef = true)
    {g : JFrame} (hg : g.method = m₀) (hsize : g.locals.size = c.maxLocals) {rest : List Value} (hstack : g.stack = msg :: .ref a :: .ref a :: rest)
    (hd6 : decode c.code g.pc = .ok (.invokespecial ic, 3))
    (hRframes : names.length + 4 < R.frames) (hRlocals : 2 * g.monitorRoom + ((Value.ref a :: rest).map fun v => v.category).sum + (13 * (names.length + 2) + 42) ≤ R.locals) :
    ∃ (V : State) (ce : Cell) (L : List Loc), Stand p l e R s m₀ args below meth c (V.setCell a ce) (locs ++ L) cells slots ∧ (∀ y ∈ L, y.base = a) ∧ a < V.heap.size ∧ ce.cls = cX ∧ ce.vm = .none ∧
      ∀ target, Steps p.tables e below ((V.setCell a ce).setTop { g with stack := .ref a :: rest, pc := g.pc + 3 }) target → Steps p.tables e below (W.setTop g) target := by
  have howns : e.platform.frameOwnsMonitors = true := by rw [X.admits.platform]
  have hfin : e.platform.finalization = false := by rw [X.admits.platform]
  have hpl : e.platform.magicAccessors = ({} : Platform).magicAccessors := by rw [X.admits.platform]
  have a' : ∀ x, x ∈ dx_atoms own ic cls ix rx Y1 names → x.holds args s none s [] = true := fun x hx => h x hx
  obtain ⟨T, Z0, L, -, Y⟩ := ThrowableC.of_atoms (args := args) howns hfin hpl (fun x hx => h x (by simp [dx_atoms, hx]))
  obtain ⟨Z, M, LZ, LM, hnZ⟩ := Init0T.ofS_atoms (args := args) hpl L Y (fun x hx => h x (by simp [dx_atoms, hx]))
  obtain ⟨P1, L1, hP1m, hP1s⟩ := PassC.ofS_atoms (args := args) (s := s) hpl (X := cls) (Y := Y1) (Bundle.fit_spec hcls).1 (Bundle.fit_spec hY1).2 x0 x1 x2 x5 (fun x hx => h x (by simp [dx_atoms, hx]))
  obtain ⟨P2, Ps, hlen, L2, hL, hP2m, hlink2, hlink⟩ := Bundle.chainS (args := args) hpl hnZ names Y1 hY1 hnames (fun x hx => h x (by simp [dx_atoms, hx]))
  have hlink1 : P1.sup = P2.m := Option.some.inj (hP1s.symm.trans hP2m)
  have hfound : s.vm.findClass cls = some P1.m.cls := findClass_of_methodNamed hP1m
  cases Option.some.inj (hfoundX.symm.trans hfound)
  obtain ⟨c1, kX', hc1, hk, hord, -, -, hn6⟩ := Cond.instantiable_spec (a' (.instantiable cls 6) (by simp [dx_atoms]))
  cases Option.some.inj (hc1.symm.trans hfound)
  cases Option.some.inj (hkX.symm.trans hk)
  have hsel0 : selectMethod e.platform s.vm P1.m.cls T.fill0 = .method T.fill0 := by
    obtain ⟨c2, r2, m2, q1, q2, q3, q4, -⟩ := Cond.selects_spec (a' (.selects cls Bundle.tFill0 Bundle.tFill0) (by simp [dx_atoms]))
    cases Option.some.inj (q1.symm.trans hfound)
    cases Option.some.inj (q2.symm.trans (State.methodFound?_of_named Y.fill0 (by decide)))
    cases Option.some.inj (q3.symm.trans Y.fill0)
    rw [Launch.admits_selectMethod X.admits]; exact q4
  have hselF : selectMethod e.platform s.vm P1.m.cls T.fill = .method T.fill := by
    obtain ⟨c2, r2, m2, q1, q2, q3, q4, -⟩ := Cond.selects_spec (a' (.selects cls Bundle.tFill Bundle.tFill) (by simp [dx_atoms]))
    cases Option.some.inj (q1.symm.trans hfound)
    cases Option.some.inj (q2.symm.trans (State.methodFound?_of_named Y.fill (by decide)))
    cases Option.some.inj (q3.symm.trans Y.fill)
    rw [Launch.admits_selectMethod X.admits]; exact q4
  obtain ⟨cellS0, hcS0, hiss⟩ := Y.statics
  obtain ⟨u0, hu0⟩ := Cond.staticRefV Y.unassigned L.unassignedStatic L.statics hcS0 hiss (a' (.isRef (.static Bundle.tN "UNASSIGNED_STACK" Bundle.steD)) (by simp [dx_atoms]))
  obtain ⟨sen, hsen⟩ := Cond.staticRefV Y.sentinel L.sentinelStatic L.statics hcS0 hiss (a' (.isRef (.static Bundle.tN "SUPPRESSED_SENTINEL" Bundle.listD)) (by simp [dx_atoms]))
  obtain ⟨ci198, i198, fB, hk198, hg198, ha198, hsB, -, hnB, htB, hffB⟩ := Cond.ownField (t := .object "java/lang/Object") Y.found L.cls (by decide +kernel) (a' (.fieldLink Bundle.tN 198 Bundle.tN "backtrace" "Ljava/lang/Object;") (by simp [dx_atoms])) (a' (.lays Bundle.tN Bundle.tN "backtrace" "Ljava/lang/Object;") (by simp [dx_atoms])) e.platform hpl
  obtain ⟨cellS, hcS', heS, -, hkeep⟩ := X.same.2.2.2.2.2 T.aS cellS0 hcS0
  have hcellS : W.heap[T.aS]? = some cellS := hcS'
  have hout' : ∀ i, (⟨T.aS, i⟩ : Loc) ∉ locs := fun i hmem => by
    have := hlocs _ hmem cellS0 hcS0
    rw [hiss] at this; cases this
  have hknownS : cellS.vm ≠ .unknown := by
    rw [heS]; intro hu
    rw [show cellS0.vm = .unknown from hu] at hiss
    cases hiss
  have hneS : T.aS ≠ a := Nat.ne_of_lt (Nat.lt_of_lt_of_le (Array.getElem?_eq_some_iff.mp hcS0).1 hnew)
  obtain ⟨iM, hffM⟩ := Y.msg
  obtain ⟨tyC, dC, hdC, hdnC⟩ := Cond.laysAt hfound hk Y.cause (a' (.lays cls Bundle.tN "cause" "Ljava/lang/Throwable;") (by simp [dx_atoms]))
  obtain ⟨tyS, dS, hdS, hdnS⟩ := Cond.laysAt hfound hk Y.stack (a' (.lays cls Bundle.tN "stackTrace" Bundle.steD) (by simp [dx_atoms]))
  obtain ⟨tyP, dP, hdP, hdnP⟩ := Cond.laysAt hfound hk Y.supp (a' (.lays cls Bundle.tN "suppressedExceptions" Bundle.listD) (by simp [dx_atoms]))
  obtain ⟨tyM, dM, hdM, hdnM⟩ := Cond.laysAt hfound hk hffM (a' (.lays cls Bundle.tN "detailMessage" "Ljava/lang/String;") (by simp [dx_atoms]))
  obtain ⟨tyB, dB, hdB, hdnB⟩ := Cond.laysAt hfound hk hffB (a' (.lays cls Bundle.tN "backtrace" "Ljava/lang/Object;") (by simp [dx_atoms]))
  have bC := Cond.laysApart hdB hdC hdnB hdnC (by rw [hnB, Y.causeName]; decide)
  have bS := Cond.laysApart hdB hdS hdnB hdnS (by rw [hnB, Y.stackName]; decide)
  have bP := Cond.laysApart hdB hdP hdnB hdnP (by rw [hnB, Y.suppName]; decide)
  have hskip : SkipFacts T e.platform s (fun u => u) u0 ((preparedCellV T.toThrowableT (freshCell P1.m.cls kX) a u0 sen).withEntry W.cur) :=
    ⟨{ ci198 := ci198, i198 := i198, fBack := fB }, ⟨hk198, hg198, ha198, hsB⟩, by
      have := fresh_default (c := P1.m.cls) tyB
      rw [htB] at this
      simpa [preparedCellV, Cell.setSlot, Cell.withEntry, Array.getElem?_setIfInBounds, bC, bS, bP, bC.symm, bS.symm, bP.symm, defaultValue] using this, fun _ _ => rfl⟩
  obtain ⟨tm, methC, cdC, kC, vm₁, hnC, -, -, -, -, -, -, -, hW₁, st1⟩ := Steps.initColdS (tb := p.tables) (e := e) (below := below) (s := s) (U := W) X.here hexec X.warmed hpl hown (t := Bundle.initS cls) rfl rfl (Bundle.fit_spec hcls).2
    (a' (.methodLink own ic (Bundle.initS cls)) (by simp [dx_atoms])) (h (.instanceMethod (Bundle.initS cls)) (by simp [dx_atoms, Bundle.passSAtoms])) (bytes := rx) (maxL := 2) (h (.code (Bundle.initS cls) rx 2 none) (by simp [dx_atoms, Bundle.passSAtoms]))
    (f := g) hg (a := a) (msg := msg) (rest := .ref a :: rest) hstack hd6
  cases Option.some.inj (hnC.symm.trans hP1m)
  have X₁ := X.noted hW₁
  obtain ⟨vm₂, X₂, st2⟩ := X₁.ctorMessageOffV hexec (g := { g with stack := .ref a :: rest }) hg hsize T L Z LZ M LM (P1 :: P2 :: Ps)
    (fun P hP => by
      rcases List.mem_cons.mp hP with rfl | hP
      · exact L1
      · rcases List.mem_cons.mp hP with rfl | hP
        · exact L2
        · exact hL P hP) ⟨hlink1, hlink2, hlink⟩ (u0 := u0) (sen := sen) (self := a) hmsg (cell := freshCell P1.m.cls kX) (cellS := cellS)
    hcell (fun _ => by simp) (by simp) rfl rfl hsel0 hselF hcellS hneS hknownS (by rw [hkeep _ (hout' _)]; exact hu0) (by rw [hkeep _ (hout' _)]; exact hsen)
    (Takes.of_laid hk hord tyC (by rw [Y.causeType]; rfl)) (Takes.of_laid hk hord tyS (by rw [Y.stackType]; exact fits_refV_array _ u0)) (Takes.of_laid hk hord tyP (by rw [Y.suppType]; exact fits_refV_object _ sen))
    (Takes.of_laid hk hord tyM (by rw [Y.msgType]; exact fits_refV_object _ ⟨msg, hmsg⟩)) Y.objLocals hskip htr [] hd6
    (by simp only [List.length_cons, hlen]; omega) (by simp only [List.length_cons, hlen]; exact hRlocals)
  have hlt : a < ((W.setVm vm₁).setVm vm₂).heap.size := (Array.getElem?_eq_some_iff.mp hcell).1
  refine ⟨(W.setVm vm₁).setVm vm₂, _, _, X₂, fun y hy => ?_, hlt, rfl, rfl, fun target hwalk => st1 _ (fun acts => ?_)⟩
  · simp only [List.mem_cons, List.not_mem_nil, or_false] at hy
    rcases hy with rfl | rfl | rfl | rfl | rfl <;> rfl
  · rw [doInvoke_state]
    exact st2 _ hwalk
end DXM
section DXM2
variable {p : Program} {l : Launch} {e : Env} {R : Room} {s : State} {m : MethodId} {args : Array Value} {below : List Frame} {meth : Method} {c : Code} {H : Heap} {locs : List Loc} {cells slots : Nat} {Q : State → Prop}
variable {ls : Array Slot} {rest : List Value}
set_option maxHeartbeats 1000000 in
theorem dx_makeS {cc : ByteArray} {pc : Nat} (hexec : p.tables.exec = Jvm.exec) (hb : c.code = cc) (hl : l.stackTraces = false) {own cls Y1 text : String} {names : List String} {ik is ic ix sa nw : Nat} {rx : ByteArray} (x0 : decode rx 0 = .ok (.aload_n 0, 1)) (x1 : decode rx 1 = .ok (.aload_n 1, 1)) (x2 : decode rx 2 = .ok (.invokespecial ix, 3)) (x5 : decode rx 5 = .ok (.return_, 1)) {A : Nat → Prop}
    (hown : s.vm.findClass own = some m.cls) (hcls : Bundle.fit cls = true) (hY1 : Bundle.fit Y1 = true) (hnames : ∀ n ∈ names, Bundle.fit n = true)
    (hk : (Cond.classLink own ik cls).before args s = true) (hini : (Cond.initialized cls).before args s = true) (hstr : vk_R own is text sa s) (hat : ∀ w ∈ (dx_atoms own ic cls ix rx Y1 names).filter vx_no, w.before args s = true)
    (hgood : ∀ w ∈ Cond.classLink own ik cls :: Cond.initialized cls :: (dx_atoms own ic cls ix rx Y1 names).filter vx_no, vx_ot w = true)
    (hU : vx_Zq Bundle.tN "UNASSIGNED_STACK" Bundle.steD A s s.heap) (hN : vx_Zq Bundle.tN "SUPPRESSED_SENTINEL" Bundle.listD A s s.heap) (hS : va_S A s.heap H locs) (hsize : ls.size = c.maxLocals)
    (d0 : decode cc pc = .ok (.new ik, 3)) (d3 : decode cc (pc + 3) = .ok (.dup, 1)) (d4 : nw = 2 ∧ decode cc (pc + 4) = .ok (.ldc is, 2) ∨ nw = 3 ∧ decode cc (pc + 4) = .ok (.ldc_w is, 3)) (d6 : decode cc (pc + 4 + nw) = .ok (.invokespecial ic, 3))
    (hRframes : names.length + 4 < R.frames) (hRlocals : (rest.map fun v => v.category).sum + (13 * (names.length + 2) + 43) ≤ R.locals) (hRcells : cells + 1 ≤ R.cells) (hRslots : slots + 6 ≤ R.slots)
    (kk : ∀ (q : Nat) (ce : Cell) (H1 : Heap), H1[q]? = some ce → ce.vm = .none → s.vm.findClass cls = some ce.cls → H.size ≤ H1.size → (∀ x : Nat, x < H.size → H1[x]? = H[x]?) → va_S A s.heap H1 locs → W p l e R s m args below meth c H1 locs (cells + 1) (slots + 6) Q (F0 m (pc + 4 + nw + 3) ls (.ref q :: rest))) :
    W p l e R s m args below meth c H locs cells slots Q (F0 m pc ls rest) := by
  intro T hT X
  subst hT
  have htr : e.platform.stackTraces = false := (show e.platform.stackTraces = l.stackTraces by rw [X.admits.platform]).trans hl
  have Y := vx_rebase X (R' := { frames := R.frames, locals := R.locals, cells := 1, slots := 6 }) (Nat.le_refl _) (Nat.le_refl _) hRcells hRslots
  obtain ⟨s', hA'⟩ : ∃ z, z = (T.setVm s.vm).setFrames (.invoking m args :: below) := ⟨_, rfl⟩
  rw [← hA'] at Y
  have hvm : s'.vm = s.vm := by rw [hA']; rfl
  have hhp : s'.heap = T.heap := by rw [hA']; rfl
  have hW0 : s.WarmedH s'.vm := by rw [hvm]; exact State.WarmedH.refl s
  have hat' : ∀ w ∈ (dx_atoms own ic cls ix rx Y1 names).filter vx_no, w.before args s' = true := fun w hw => vx_ot_at hW0 hvm.symm (hgood w (List.mem_cons_of_mem _ (List.mem_cons_of_mem _ hw))) (hat w hw)
  have hk' : (Cond.classLink own ik cls).before args s' = true := vx_ot_at hW0 hvm.symm (hgood _ List.mem_cons_self) hk
  have hini' : (Cond.initialized cls).before args s' = true := vx_ot_at hW0 hvm.symm (hgood _ (List.mem_cons_of_mem _ List.mem_cons_self)) hini
  have hU' : vx_Zq Bundle.tN "UNASSIGNED_STACK" Bundle.steD A s' s'.heap := by rw [hhp]; exact vx_Zq.moved hW0.alike (hU.kept hS.2.1)
  have hN' : vx_Zq Bundle.tN "SUPPRESSED_SENTINEL" Bundle.listD A s' s'.heap := by rw [hhp]; exact vx_Zq.moved hW0.alike (hN.kept hS.2.1)
  have h : ∀ w ∈ dx_atoms own ic cls ix rx Y1 names, w.before args s' = true := vx_own hat' (vx_isRefq hU'.1) (vx_isRefq hN'.1) hU'.2.word hN'.2.word
  have hown' : s'.vm.findClass own = some m.cls := by rw [hvm]; exact hown
  have hins : (Cond.instantiable cls 6).before args s' = true := h _ (by simp [dx_atoms])
  obtain ⟨vm₁, cX, kX, hfX, hkX, -, -, X₁, st1⟩ := Y.newCold hexec (own := own) (C := cls) (index := ik) (n := 6) hown' hk' hins hini'
    (g := F0 m pc ls rest) rfl (by rw [hb]; exact d0) (Nat.le_refl _) (Nat.le_refl _)
  generalize hT1 : (T.setVm vm₁).pushCell { cls := cX, slots := kX.instanceTypes.map defaultValue, vm := .none } = T1 at X₁ st1
  have hcat : (Value.ref T.heap.size).category = 1 := rfl
  have hcellA : T1.heap[T.heap.size]? = some (freshCell cX kX) := by rw [← hT1]; exact State.heap_pushCell_size _ _
  have d3' : decode c.code (pc + 3) = .ok (.dup, 1) := by rw [hb]; exact d3
  have hstr' : vk_R own is text sa s' := vk_R.warm hW0 hstr
  obtain ⟨V, ce, L, Z, hL, hlt, hcl9, hvm9, st⟩ := dx_ctorMadeS X₁ hexec htr x0 x1 x2 x5 (own := own) (cls := cls) (names := names) (ic := ic) hown' hcls hY1 hnames h (fun x hx => nomatch hx) hfX hkX hcellA (by rw [hhp]; exact Nat.le_refl _) (msg := .ref sa) rfl
    (g := { method := m, pc := pc + 4 + nw, locals := ls, stack := .ref sa :: .ref T.heap.size :: .ref T.heap.size :: rest, locked := none }) rfl hsize (rest := rest) rfl
    (by rw [hb]; exact d6) hRframes (by simp only [List.map_cons, List.sum_cons, hcat]; omega)
  have Z0 := Stand.forget (locs := []) Z (fun y hy => by rw [hL y hy, hhp]; exact Nat.le_refl _)
  obtain ⟨f1, f2⟩ := vx_frame Z0.same
  rw [hhp] at f1 f2
  have hcid : s.vm.findClass cls = some ce.cls := by
    rw [hcl9, ← hvm]
    exact hfX
  have hh : (V.setCell T.heap.size ce).heap[T.heap.size]? = some ce := heapAt_setCell_self (s := V) ce hlt
  subst hA'
  have X5 := vx_back9 X Y Z0
  have X6 : Stand p l e R s m args below meth c (V.setCell T.heap.size ce) locs (cells + 1) (slots + 6) := { X5 with same := X5.same.mono (by omega) (by omega) }
  obtain ⟨t, a1, b1⟩ := kk T.heap.size ce (V.setCell T.heap.size ce).heap hh hvm9 hcid f1 (fun x hx => f2 x hx (fun z hz => nomatch hz)) ⟨Nat.le_trans hS.1 f1, fun q h1 h2 => (f2 q (Nat.lt_of_lt_of_le h1 hS.1) (fun z hz => nomatch hz)).trans (hS.2.1 q h1 h2), hS.2.2⟩ _ rfl X6
  refine ⟨t, st1 _ ?_, b1⟩
  show Steps p.tables e below (T1.setTop { method := m, pc := pc + 3, locals := ls, stack := .ref T.heap.size :: rest, locked := none }) _
  jvm_step X₁.here [X₁.here.top, hexec, d3', Value.category]
  rcases d4 with ⟨rfl, d4⟩ | ⟨rfl, d4⟩
  · have d4' : decode c.code (pc + 4) = .ok (.ldc is, 2) := by rw [hb]; exact d4
    exact X₁.ldcString hexec (own := own) (text := text) (index := is) (a := sa) hown' hstr'.1 hstr'.2
      (g := { method := m, pc := pc + 4, locals := ls, stack := .ref T.heap.size :: .ref T.heap.size :: rest, locked := none }) rfl d4' _ (st _ a1)
  · have d4' : decode c.code (pc + 4) = .ok (.ldc_w is, 3) := by rw [hb]; exact d4
    exact X₁.ldcStringW hexec (own := own) (text := text) (index := is) (a := sa) hown' hstr'.1 hstr'.2
      (g := { method := m, pc := pc + 4, locals := ls, stack := .ref T.heap.size :: .ref T.heap.size :: rest, locked := none }) rfl d4' _ (st _ a1)
end DXM2
end
section
/-! EVERY METHOD KEEPS ITS CONTRACT, if its items fit its bytes and the tables -/
theorem dx_ofW {l : Launch} {y : MethodName} {ws ws' : List Cond} {rm : Room} {Pc : Array Value → State → Prop} {Qc : Array Value → State → Outcome → State → Prop} {XC : String → State → State → Prop} {mc ms : Nat} {free : Addr → Prop} {cc : ByteArray} {maxL : Nat} {ret : Option FieldType}
    (hy : plainFor y = true) (hw : ws = Cond.code y cc maxL ret :: ws')
    (body : ∀ p e s m args below meth c s₁, BodyLoose p l y (headSpec ws rm) cc maxL ret e s m args below meth c s₁ → c.maxLocals = maxL → (∀ x ∈ c.exceptionTable.toList, False) → Pc args s →
      W p l e (headSpec ws rm).room s m args below meth c s.heap [] 0 0 (vx_MQ below Qc XC args s mc ms free) (entryFrame m args maxL)) : vx_Met l y ws rm Pc Qc XC mc ms free := by
  refine MetFree.of_bodySF (code := cc) (maxLocals := maxL) (ret := ret) hy (fun args s m h hn => ?_) (fun p e s m args below meth c s₁ B hml hP _ => ?_)
  · obtain ⟨meth, c, h1, h2, h3, h4, h5, h6, -, -⟩ := Cond.code_spec hn (atoms_spec (ws := ws) h _ (by rw [hw]; exact List.mem_cons_self))
    exact ⟨meth, c, h1, h2, h3, h4, h5, h6⟩
  · have hno : ∀ x ∈ c.exceptionTable.toList, False := by
      obtain ⟨methN, cN, g1, g2, -, -, -, -, g7, -⟩ := Cond.code_spec B.named (atoms_spec (ws := ws) B.pre _ (by rw [hw]; exact List.mem_cons_self))
      cases Option.some.inj (g1.symm.trans B.method)
      cases Option.some.inj (g2.symm.trans (Stand.of_body B).code)
      intro x hx
      rw [Array.isEmpty_iff.mp g7] at hx
      cases hx
    obtain ⟨t, a1, o, b1, b2, b3⟩ := body p e s m args below meth c s₁ B hml hno hP s₁ (by rw [B.state]; rfl) (Stand.of_body B)
    exact ⟨t, o, a1, b1, b2, b3⟩
section MTH
variable {p : Program} {l : Launch} {e : Env} {R : Room} {s : State} {m : MethodId} {args : Array Value} {below : List Frame} {meth : Method} {c : Code} {G : dG} {fr : Bool} {nL pc : Nat} {cc : ByteArray} {u : Nat × Nat} {ls : dL} {st : List dX} {σ : dS} {B : Nat × Nat} {Q : dR → dS → Prop} {ret : Option FieldType}
theorem e_iret (hx : p.tables.exec = Jvm.exec) (hb : c.code = cc) (hr : meth.sig.returnType = ret) (hlocks : meth.locks = false) {z : Nat} (d : decode cc pc = .ok (.ireturn, 1)) (hz : z = 0 ∧ ret = some .int ∨ z = 1 ∧ ret = some .boolean) (k : s_iret B Q z u ls st σ) : VW p l e R s m args below meth c (vx_MQ below (dQc G fr Q) (dXC G fr Q) args s B.1 B.2 (rg G)) G fr nL pc u ls st σ := by
  intro hn w1 w2 H locs la hW hS hl
  unfold s_iret at k
  split at k
  · rename_i x
    obtain ⟨h1, h2, h3, k⟩ := k
    refine vx_ret (W.widen (k := B.1) (n := B.2) h1 h2 ?_)
    have hq : ∀ t : State, t.heap = H → s.WarmedH t.vm → dQc G fr Q args s (.returned (some (.int (Int32.ofInt x)))) t := fun t ht _ => ⟨⟨some (.inl x), σ, rfl, fun v hv => by cases hv; exact wfs_h w2, k, by rw [ht]; exact hW⟩, hS.F ht⟩
    have hf : ∀ q ∈ locs, rg G q.base := hS.2.2
    rcases hz with ⟨rfl, rfl⟩ | ⟨rfl, rfl⟩
    · exact W.iret hx hb hr hq hf d hlocks
    · exact W.zret hx hb hr (nz_b (h3 rfl)).1 hq hf d hlocks
  · exact k.elim
theorem e_lret (hx : p.tables.exec = Jvm.exec) (hb : c.code = cc) (hr : meth.sig.returnType = ret) (hlocks : meth.locks = false) (d : decode cc pc = .ok (.lreturn, 1)) (hz : ret = some .long) (k : s_lret B Q u ls st σ) : VW p l e R s m args below meth c (vx_MQ below (dQc G fr Q) (dXC G fr Q) args s B.1 B.2 (rg G)) G fr nL pc u ls st σ := by
  intro hn w1 w2 H locs la hW hS hl
  unfold s_lret at k
  split at k
  · rename_i x
    obtain ⟨h1, h2, k⟩ := k
    subst hz
    refine vx_ret (W.widen (k := B.1) (n := B.2) h1 h2 ?_)
    exact W.lret hx hb hr (fun t ht _ => ⟨⟨some (.inr (.inl x)), σ, rfl, fun v hv => by cases hv; exact wfs_h w2, k, by rw [ht]; exact hW⟩, hS.F ht⟩) hS.2.2 d hlocks
  · exact k.elim
theorem e_vret (hx : p.tables.exec = Jvm.exec) (hb : c.code = cc) (hr : meth.sig.returnType = ret) (hlocks : meth.locks = false) (d : decode cc pc = .ok (.return_, 1)) (hz : ret = none) (k : s_vret B Q u ls st σ) : VW p l e R s m args below meth c (vx_MQ below (dQc G fr Q) (dXC G fr Q) args s B.1 B.2 (rg G)) G fr nL pc u ls st σ := by
  intro hn w1 w2 H locs la hW hS hl
  unfold s_vret at k
  split at k
  · obtain ⟨h1, h2, k⟩ := k
    subst hz
    refine vx_ret (W.widen (k := B.1) (n := B.2) h1 h2 ?_)
    exact W.vret hx hb hr (fun t ht _ => ⟨⟨none, σ, rfl, fun v hv => (by cases hv), k, by rw [ht]; exact hW⟩, hS.F ht⟩) hS.2.2 d hlocks
  · exact k.elim
theorem e_thr (hno : ∀ x ∈ c.exceptionTable.toList, False) (hlocks : meth.locks = false) : okThr p l e R s m args below meth c (vx_MQ below (dQc G fr Q) (dXC G fr Q) args s B.1 B.2 (rg G)) G fr B Q :=
  fun _ x σ' _ _ _ _ _ _ _ h1 h2 hQ hW hS hc hv hcl => vx_out (fun z hz => (hno z hz).elim) hlocks hc hv hcl (fun t ht _ => ⟨x, σ', rfl, hQ, by rw [ht]; exact hW, hS.F ht⟩) hS.2.2 h1 h2
end MTH
def rx13 : ByteArray := ⟨#[0x2a, 0x2b, 0xb7, 0x00, 0x0d, 0xb1]⟩
def exA (e : Nat) : List Cond := if e = 0 then (dx_atoms "WingTrams" 207 (exn 0) 13 rx13 "java/lang/RuntimeException" ["java/lang/Exception"]).filter vx_no else (dx_atoms "WingTrams" 116 (exn 1) 7 Bundle.six "java/lang/RuntimeException" ["java/lang/Exception"]).filter vx_no
theorem exA_chk : ([0, 1].all (fun e => (exA e).all (fun w => lw_tbl.contains w && goodWord w || NWs.contains w))) = true := by decide +kernel
theorem exA_ot : ([0, 1].all (fun e => (Cond.classLink "WingTrams" (if e = 0 then 203 else 112) (exn e) :: Cond.initialized (exn e) :: exA e).all vx_ot)) = true := by decide +kernel
theorem exA_l : ([0, 1].all (fun e => [Cond.classLink "WingTrams" (if e = 0 then 203 else 112) (exn e), Cond.initialized (exn e)].all (fun w => lw_tbl.contains w && goodWord w))) = true := by decide +kernel
theorem mem_g {w : Cond} (h : (lw_tbl.contains w && goodWord w) = true) : w ∈ TBg := by
  rw [Bool.and_eq_true] at h
  exact List.mem_filter.mpr ⟨List.contains_iff_mem.mp h.1, h.2⟩
theorem Wd.kept {G : dG} {σ : dS} {H H1 : Heap} (h : Wd G false σ H) (hz : H.size ≤ H1.size) (hk : ∀ q : Nat, q < H.size → H1[q]? = H[q]?) : Wd G false σ H1 := by
  obtain ⟨h1, h2, h3, h4, -⟩ := h
  exact ⟨h1.kept (fun k q hq => hk q.1 (h1 k q hq).lt), h2, h3, Nat.le_trans h4 hz, fun q => by cases q⟩
section THR
variable {p : Program} {l : Launch} {e : Env} {R : Room} {s : State} {m : MethodId} {args : Array Value} {below : List Frame} {meth : Method} {c : Code} {G : dG} {fr : Bool} {nL pc : Nat} {cc : ByteArray} {u : Nat × Nat} {ls : dL} {st : List dX} {σ : dS} {B : Nat × Nat} {Q : dR → dS → Prop} {ret : Option FieldType}
theorem e_throw1 (hx : p.tables.exec = Jvm.exec) (hb : c.code = cc) (hml : c.maxLocals = nL) (hl0 : l.stackTraces = false) (hts : ∀ w ∈ TBg, w.before args s = true) (hown : s.vm.findClass "WingTrams" = some m.cls) (hE : dEv G s s.heap) (hno : ∀ x ∈ c.exceptionTable.toList, False) (hlocks : meth.locks = false) (hB : B.1 ≤ R.cells ∧ B.2 ≤ R.slots) (hRf : 20 ≤ R.frames) (hRl : 400 ≤ R.locals)
    {ex ik is ic ix nw : Nat} {tx : String} {rx : ByteArray} (x0 : decode rx 0 = .ok (.aload_n 0, 1)) (x1 : decode rx 1 = .ok (.aload_n 1, 1)) (x2 : decode rx 2 = .ok (.invokespecial ix, 3)) (x5 : decode rx 5 = .ok (.return_, 1)) (hfit : Bundle.fit (exn ex) = true)
    (hk : Cond.classLink "WingTrams" ik (exn ex) ∈ TBg) (hi : Cond.initialized (exn ex) ∈ TBg) (hat : ∀ w ∈ (dx_atoms "WingTrams" ic (exn ex) ix rx "java/lang/RuntimeException" ["java/lang/Exception"]).filter vx_no, w ∈ TBg ∨ w ∈ NWs) (hot : ∀ w ∈ Cond.classLink "WingTrams" ik (exn ex) :: Cond.initialized (exn ex) :: (dx_atoms "WingTrams" ic (exn ex) ix rx "java/lang/RuntimeException" ["java/lang/Exception"]).filter vx_no, vx_ot w = true)
    (hst : ("WingTrams", is, tx) ∈ STs) (d0 : decode cc pc = .ok (.new ik, 3)) (d3 : decode cc (pc + 3) = .ok (.dup, 1)) (d4 : nw = 2 ∧ decode cc (pc + 4) = .ok (.ldc is, 2) ∨ nw = 3 ∧ decode cc (pc + 4) = .ok (.ldc_w is, 3)) (d6 : decode cc (pc + 4 + nw) = .ok (.invokespecial ic, 3)) (d9 : decode cc (pc + 4 + nw + 3) = .ok (.athrow, 1)) (k : s_throw B Q ex u ls st σ) : VW p l e R s m args below meth c (vx_MQ below (dQc G false Q) (dXC G false Q) args s B.1 B.2 (rg G)) G false nL pc u ls st σ := by
  intro hn w1 w2 H locs la hW hS hl
  obtain ⟨h1, h2, h3, k⟩ := k
  obtain ⟨sa, hstr⟩ := hE.2.2.2.2 _ hst
  refine dx_makeS hx hb hl0 x0 x1 x2 x5 (sa := sa) (nw := nw) (text := tx) hown hfit (by decide +kernel) (by decide +kernel) (hts _ hk) (hts _ hi) hstr (fun w hw => ?_) hot hE.2.1 hE.2.2.1 hS (hl.1.trans hml.symm) d0 d3 d4 d6 (by show 1 + 4 < R.frames; omega) ?_ (by omega) (by omega) (fun q ce H1 g1 g2 g3 g4 g5 g6 => ?_)
  · rcases hat w hw with h | h
    · exact hts _ h
    · have hw2 := hE.2.2.2.1 w h
      have hon : w.onTables = true := by
        revert w
        unfold NWs
        intro w _ h _
        simp only [List.mem_cons, List.not_mem_nil, or_false] at h
        rcases h with rfl | rfl | rfl | rfl | rfl <;> rfl
      exact va_Nw.use hon hw2
  · rw [dv_cats, wt_sum]
    show _ + (13 * (1 + 2) + 43) ≤ _
    omega
  · refine vx_athrow hx hb d9 ?_
    exact vx_out (fun z hz => (hno z hz).elim) hlocks g1 g2 g3 (fun t ht _ => ⟨ex, σ, rfl, k, by rw [ht]; exact hW.kept g4 g5, g6.F ht⟩) g6.2.2 h1 h2
theorem e_throw (hx : p.tables.exec = Jvm.exec) (hb : c.code = cc) (hml : c.maxLocals = nL) (hl0 : l.stackTraces = false) (hts : ∀ w ∈ TBg, w.before args s = true) {own : String} (hown : s.vm.findClass own = some m.cls) (hE : dEv G s s.heap) (hno : ∀ x ∈ c.exceptionTable.toList, False) (hlocks : meth.locks = false) (hB : B.1 ≤ R.cells ∧ B.2 ≤ R.slots) (hRf : 20 ≤ R.frames) (hRl : 400 ≤ R.locals)
    {b : Nat} {a : Int} {tl : List Nat} (hc : chkX cc pc tl = true) (ho : okI own ret false fr 76 a b tl) (k : s_throw B Q (n0 tl 0) u ls st σ) : VW p l e R s m args below meth c (vx_MQ below (dQc G fr Q) (dXC G fr Q) args s B.1 B.2 (rg G)) G fr nL pc u ls st σ := by
  obtain ⟨rfl, rfl, tx, hst, ho⟩ := ho
  unfold chkX at hc
  rw [Bool.and_eq_true, Bool.and_eq_true] at hc
  obtain ⟨d0, d3, hc⟩ := hc
  have hc2 : ∃ nw : Nat, (nw = 2 ∧ decode cc (pc + 4) = .ok (.ldc (n0 tl 2), 2) ∨ nw = 3 ∧ decode cc (pc + 4) = .ok (.ldc_w (n0 tl 2), 3)) ∧ decode cc (pc + 4 + nw) = .ok (.invokespecial (n0 tl 3), 3) ∧ decode cc (pc + 4 + nw + 3) = .ok (.athrow, 1) := by
    split at hc
    · rw [Bool.and_eq_true, Bool.and_eq_true] at hc
      exact ⟨2, Or.inl ⟨rfl, dcd_at hc.1⟩, dcd_at hc.2.1, dcd_at hc.2.2⟩
    · rw [Bool.and_eq_true, Bool.and_eq_true] at hc
      exact ⟨3, Or.inr ⟨rfl, dcd_at hc.1⟩, dcd_at hc.2.1, dcd_at hc.2.2⟩
  obtain ⟨nw, d4, d6, d9⟩ := hc2
  have q1 := List.all_eq_true.mp exA_chk
  have q2 := List.all_eq_true.mp exA_ot
  have q3 := List.all_eq_true.mp exA_l
  rcases ho with ⟨e1, e2, e3⟩ | ⟨e1, e2, e3⟩
  · rw [e1] at k
    rw [e2] at d0
    rw [e3] at d6
    have a1 := List.all_eq_true.mp (q1 0 (by simp))
    have a2 := List.all_eq_true.mp (q2 0 (by simp))
    have a3 := List.all_eq_true.mp (q3 0 (by simp))
    exact e_throw1 hx hb hml hl0 hts hown hE hno hlocks hB hRf hRl (rx := rx13) (ix := 13) (by decide +kernel) (by decide +kernel) (by decide +kernel) (by decide +kernel) (by decide +kernel) (mem_g (a3 _ (by simp))) (mem_g (a3 _ (by simp)))
      (fun w hw => by
        have := a1 w hw
        rw [Bool.or_eq_true] at this
        exact this.imp mem_g List.contains_iff_mem.mp) (fun w hw => a2 w hw) hst (dcd_at d0) (dcd_at d3) d4 d6 d9 k
  · rw [e1] at k
    rw [e2] at d0
    rw [e3] at d6
    have a1 := List.all_eq_true.mp (q1 1 (by simp))
    have a2 := List.all_eq_true.mp (q2 1 (by simp))
    have a3 := List.all_eq_true.mp (q3 1 (by simp))
    exact e_throw1 hx hb hml hl0 hts hown hE hno hlocks hB hRf hRl (rx := Bundle.six) (ix := 7) (by decide +kernel) (by decide +kernel) (by decide +kernel) (by decide +kernel) (by decide +kernel) (mem_g (a3 _ (by simp))) (mem_g (a3 _ (by simp)))
      (fun w hw => by
        have := a1 w hw
        rw [Bool.or_eq_true] at this
        exact this.imp mem_g List.contains_iff_mem.mp) (fun w hw => a2 w hw) hst (dcd_at d0) (dcd_at d3) d4 d6 d9 k
end THR
/-- what is to be checked of a method's table -/
def okY (blk : Nat → Nat → List dI) (inf : Nat → Nat × Bool × (Nat × Nat)) (y : Nat) (q : dM) : Prop :=
  inf y = (q.2.2.1, q.2.2.2.2.2.2.2, q.2.2.2.2.2.2.1) ∧ plainFor q.1 = true ∧ ∃ pcs : List Nat, pcs[0]? = some 0 ∧ ∀ lb t, pcs[lb]? = some t → chk q.2.1 pcs t (blk y lb) = true ∧ ∀ it ∈ blk y lb, okI q.1.cls q.2.2.2.1 (q.1.name == "<init>") q.2.2.2.2.2.2.2 it.1 it.2.1 it.2.2.1 it.2.2.2
theorem lg_len (G : dG) : ∀ (as : List dX) , (lg_sl (as.map (dv G))).length = (as.map (fun x => if c1 x = true then 1 else 2)).sum
  | [] => rfl
  | v :: as => by
    have ih := lg_len G as
    rcases v with x | x | t <;> simp_all [lg_sl, dv, c1, Value.category] <;> omega
theorem kl_args (G : dG) : ∀ (as : List dX) (j k : Nat), (∀ v ∈ as, c1 v = true) → lv_args j (as.map (dv G)) = kl G j (as.map some ++ List.replicate k none)
  | [], j, k, _ => by
    have : ∀ (k j : Nat), kl G j (List.replicate k none) = [] := by
      intro k
      induction k with
      | zero => intro j; rfl
      | succ k ih => intro j; rw [List.replicate_succ]; exact ih (j + 1)
    simp [lv_args, this]
  | v :: as, j, k, h => by
    have h1 := h v List.mem_cons_self
    have ih := kl_args G as (j + 1) k (fun w hw => h w (List.mem_cons_of_mem _ hw))
    rcases v with x | x | t
    · simp_all [lv_args, dv, Value.category, kl]
    · simp [c1] at h1
    · simp_all [lv_args, dv, Value.category, kl]
theorem c1_sum : ∀ (as : List dX), (∀ v ∈ as, c1 v = true) → (as.map (fun x => if c1 x = true then 1 else 2)).sum = as.length
  | [], _ => rfl
  | v :: as, h => by
    rw [List.map_cons, List.sum_cons, c1_sum as (fun w hw => h w (List.mem_cons_of_mem _ hw)), if_pos (h v List.mem_cons_self), List.length_cons]
    omega
theorem dMet_all {l : Launch} {G : dG} (hl0 : l.stackTraces = false) {blk : Nat → Nat → List dI} {inf : Nat → Nat × Bool × (Nat × Nat)} (hok : ∀ (y : Nat) (q : dM), MT[y]? = some q → okY blk inf y q) : ∀ (d y : Nat) (q : dM), MT[y]? = some q → dMet l G d (fun as σ Q => wpm blk inf d y as σ Q) q
  | 0, _, _, _ => fun _ _ _ _ h => h.elim
  | d + 1, y, q, hq => by
    intro as σ Q was h
    obtain ⟨hinf, hpf, pcs, hp0, hchk⟩ := hok y q hq
    have okm : okM q := MT_ok q (List.mem_of_getElem? hq)
    obtain ⟨⟨hall, hlen⟩, hw⟩ := h
    rw [hinf] at hlen hw
    refine dx_ofW (cc := q.2.1) (maxL := q.2.2.1) (ret := q.2.2.2.1) hpf rfl ?_
    intro p e s m args below meth c s₁ BL hml hno hv
    obtain ⟨rfl, hW, hE⟩ := hv
    have hx := BL.exec
    have hb := BL.bytes
    have hr := BL.returns
    have hts0 := atoms_spec (ws := dWs q) BL.pre
    have hts : ∀ w ∈ TBg, w.before ((as.map (dv G)).toArray) s = true := fun w hw => hts0 w (List.mem_cons_of_mem _ hw)
    have hown : s.vm.findClass q.1.cls = some m.cls := findClass_of_methodNamed BL.named
    have hnm : meth.name = q.1.name := (name_of_methodNamed BL.named BL.method).1
    have hlocks := BL.notSynchronized
    have hc1 : ∀ v ∈ as, c1 v = true := fun v hv => List.all_eq_true.mp hall v hv
    have hsl : (lg_sl (as.map (dv G))).length = as.length := by
      rw [lg_len]
      exact c1_sum as hc1
    have hl := lv_entry (as.map (dv G)) (n := q.2.2.1) (by rw [hsl]; exact hlen)
    rw [lg_entry_eq]
    rw [kl_args G as 0 (q.2.2.1 - as.length) hc1] at hl
    generalize (lg_sl (as.map (dv G)) ++ List.replicate (q.2.2.1 - (lg_sl (as.map (dv G))).length) Slot.unset).toArray = la at hl ⊢
    have hP : ∀ (lb t : Nat), pcs[lb]? = some t → ∀ (u : Nat × Nat) (ls : dL) (st : List dX) (σ : dS), (∀ t : Nat, pcs[lb]? = some t → VW p l e (headSpec (dWs q) (dRm (d + 1) q.2.2.2.2.2.2.1.1 q.2.2.2.2.2.2.1.2)).room s m (as.map (dv G)).toArray below meth c (vx_MQ below (dQc G q.2.2.2.2.2.2.2 Q) (dXC G q.2.2.2.2.2.2.2 Q) (as.map (dv G)).toArray s q.2.2.2.2.2.2.1.1 q.2.2.2.2.2.2.1.2 (rg G)) G q.2.2.2.2.2.2.2 q.2.2.1 t u ls st σ) → VW p l e (headSpec (dWs q) (dRm (d + 1) q.2.2.2.2.2.2.1.1 q.2.2.2.2.2.2.1.2)).room s m (as.map (dv G)).toArray below meth c (vx_MQ below (dQc G q.2.2.2.2.2.2.2 Q) (dXC G q.2.2.2.2.2.2.2 Q) (as.map (dv G)).toArray s q.2.2.2.2.2.2.1.1 q.2.2.2.2.2.2.1.2 (rg G)) G q.2.2.2.2.2.2.2 q.2.2.1 t u ls st σ := fun lb t ht u ls st σ k => k t ht
    have hRf : d + 20 + 1 ≤ (headSpec (dWs q) (dRm (d + 1) q.2.2.2.2.2.2.1.1 q.2.2.2.2.2.2.1.2)).room.frames := by show d + 20 + 1 ≤ d + 1 + 20; omega
    have hRl : 60 * d + 460 ≤ (headSpec (dWs q) (dRm (d + 1) q.2.2.2.2.2.2.1.1 q.2.2.2.2.2.2.1.2)).room.locals := by show 60 * d + 460 ≤ 60 * (d + 1) + 400; exact Nat.le_of_eq (by rw [Nat.mul_add, Nat.add_assoc])
    have hB : (q.2.2.2.2.2.2.1).1 ≤ (headSpec (dWs q) (dRm (d + 1) q.2.2.2.2.2.2.1.1 q.2.2.2.2.2.2.1.2)).room.cells ∧ (q.2.2.2.2.2.2.1).2 ≤ (headSpec (dWs q) (dRm (d + 1) q.2.2.2.2.2.2.1.1 q.2.2.2.2.2.2.1.2)).room.slots := ⟨Nat.le_refl _, Nat.le_refl _⟩
    have hEnd : okEnd p l e (headSpec (dWs q) (dRm (d + 1) q.2.2.2.2.2.2.1.1 q.2.2.2.2.2.2.1.2)).room s m (as.map (dv G)).toArray below meth c (vx_MQ below (dQc G q.2.2.2.2.2.2.2 Q) (dXC G q.2.2.2.2.2.2.2 Q) (as.map (dv G)).toArray s q.2.2.2.2.2.2.1.1 q.2.2.2.2.2.2.1.2 (rg G)) G q.2.2.2.2.2.2.2 q.2.2.1 q.2.1 q.2.2.2.2.2.2.1 Q q.1.cls q.2.2.2.1 :=
      ⟨fun pc z u ls st σ d0 hz k => e_iret hx hb hr hlocks d0 hz k, fun pc u ls st σ d0 hz k => e_lret hx hb hr hlocks d0 hz k, fun pc u ls st σ d0 hz k => e_vret hx hb hr hlocks d0 hz k,
       fun pc b a tl u ls st σ hc ho k => e_throw hx hb hml hl0 hts hown hE hno hlocks hB (Nat.le_trans (by omega) hRf) (Nat.le_trans (Nat.le_trans (Nat.le_of_ble_eq_true rfl) (Nat.le_add_left 460 _)) hRl) hc ho k⟩
    have key := hw (fun lb u ls st σ => ∀ t : Nat, pcs[lb]? = some t → VW p l e (headSpec (dWs q) (dRm (d + 1) q.2.2.2.2.2.2.1.1 q.2.2.2.2.2.2.1.2)).room s m (as.map (dv G)).toArray below meth c (vx_MQ below (dQc G q.2.2.2.2.2.2.2 Q) (dXC G q.2.2.2.2.2.2.2 Q) (as.map (dv G)).toArray s q.2.2.2.2.2.2.1.1 q.2.2.2.2.2.2.1.2 (rg G)) G q.2.2.2.2.2.2.2 q.2.2.1 t u ls st σ)
      (fun lb u ls st σ k t ht => snd_items hx hb hml hts hown hE (init := q.1.name == "<init>") (fun hi => by rw [hnm]; exact eq_of_beq hi) hB hRf hRl (wpm_m blk inf d) (dMet_all hl0 hok d) (e_thr hno hlocks) hEnd hP (blk y lb) t (hchk lb t ht).1 (hchk lb t ht).2 u ls st σ k)
      0 hp0
    refine key ?_ ?_ (fun v hv => absurd hv List.not_mem_nil) s.heap [] la hW va_S.rf hl
    · rw [List.length_append, List.length_map, List.length_replicate]
      omega
    · intro i v hv
      by_cases hi : i < (as.map some).length
      · rw [List.getElem?_append_left hi, List.getElem?_map] at hv
        cases ha : as[i]? with
        | none => rw [ha] at hv; cases hv
        | some w =>
          rw [ha] at hv
          simp only [Option.map_some, Option.some.injEq] at hv
          subst hv
          exact was w (List.mem_of_getElem? ha)
      · rw [List.getElem?_append_right (by omega)] at hv
        have := List.mem_of_getElem? hv
        rw [List.mem_replicate] at this
        cases this.2
end
