/-! TEXTS: the JDK's own methods over the two literals, by contract; the items that read them (wip/whole/gen/gstr.py) -/
theorem dx_ofW {l : Launch} {y : MethodName} {ws ws' : List Cond} {rm : Room} {Pc : Array Value → State → Prop} {Qc : Array Value → State → Outcome → State → Prop} {XC : String → State → State → Prop} {mc ms : Nat} {free : Addr → Prop} {cc : ByteArray} {maxL : Nat} {ret : Option FieldType}
    (hy : plainFor y = true) (hw : ws = Cond.code y cc maxL ret :: ws')
    (body : ∀ p e s m args below meth c s₁, BodyLoose p l y (headSpec ws rm) cc maxL ret e s m args below meth c s₁ → c.maxLocals = maxL → (∀ x ∈ c.exceptionTable.toList, False) → Pc args s →
      W p l e (headSpec ws rm).room s m args below meth c s.heap [] 0 0 (vx_MQ below Qc XC args s mc ms free) (entryFrame m args maxL)) : vx_Met l y ws rm Pc Qc XC mc ms free := by
  refine MetFree.of_bodySF (code := cc) (maxLocals := maxL) (ret := ret) hy (fun args s m h hn => ?_) (fun p e s m args below meth c s₁ B hml hP _ => ?_)
  · obtain ⟨meth, c, h1, h2, h3, h4, h5, h6, -, -⟩ := Cond.code_spec hn (atoms_spec (ws := ws) h _ (by rw [hw]; exact List.mem_cons_self))
    exact ⟨meth, c, h1, h2, h3, h4, h5, h6⟩
  · have hno : ∀ x ∈ c.exceptionTable.toList, False := by
      obtain ⟨methN, cN, g1, g2, -, -, -, -, g7, -⟩ := Cond.code_spec B.named (atoms_spec (ws := ws) B.pre _ (by rw [hw]; exact List.mem_cons_self))
      cases Option.some.inj (g1.symm.trans B.method)
      cases Option.some.inj (g2.symm.trans (Stand.of_body B).code)
      intro x hx
      rw [Array.isEmpty_iff.mp g7] at hx
      cases hx
    obtain ⟨t, a1, o, b1, b2, b3⟩ := body p e s m args below meth c s₁ B hml hno hP s₁ (by rw [B.state]; rfl) (Stand.of_body B)
    exact ⟨t, o, a1, b1, b2, b3⟩
theorem lg_len (G : dG) : ∀ (as : List dX) , (lg_sl (as.map (dv G))).length = (as.map (fun x => if c1 x = true then 1 else 2)).sum
  | [] => rfl
  | v :: as => by
    have ih := lg_len G as
    rcases v with x | x | t <;> simp_all [lg_sl, dv, c1, Value.category] <;> omega
theorem kl_args (G : dG) : ∀ (as : List dX) (j k : Nat), (∀ v ∈ as, c1 v = true) → lv_args j (as.map (dv G)) = kl G j (as.map some ++ List.replicate k none)
  | [], j, k, _ => by
    have : ∀ (k j : Nat), kl G j (List.replicate k none) = [] := by
      intro k
      induction k with
      | zero => intro j; rfl
      | succ k ih => intro j; rw [List.replicate_succ]; exact ih (j + 1)
    simp [lv_args, this]
  | v :: as, j, k, h => by
    have h1 := h v List.mem_cons_self
    have ih := kl_args G as (j + 1) k (fun w hw => h w (List.mem_cons_of_mem _ hw))
    rcases v with x | x | t
    · simp_all [lv_args, dv, Value.category, kl]
    · simp [c1] at h1
    · simp_all [lv_args, dv, Value.category, kl]
theorem c1_sum : ∀ (as : List dX), (∀ v ∈ as, c1 v = true) → (as.map (fun x => if c1 x = true then 1 else 2)).sum = as.length
  | [], _ => rfl
  | v :: as, h => by
    rw [List.map_cons, List.sum_cons, c1_sum as (fun w hw => h w (List.mem_cons_of_mem _ hw)), if_pos (h v List.mem_cons_self), List.length_cons]
    omega
/-- java/lang/String.coder()B -/
def jm_cod : dM := (⟨"java/lang/String", "coder", "()B"⟩, prog_24_method_152_code, 1, some .byte, 0, 0, (0, 0), false)
theorem jk_cod : okM jm_cod := ⟨tg4 89 (by decide +kernel) rfl, tg1 18 (by decide +kernel) rfl, fun _ => ⟨tg4 87 (by decide +kernel) rfl, tg4 88 (by decide +kernel) rfl⟩, fun h => absurd h (by decide), fun h => absurd h (by decide), by decide +kernel, by decide +kernel, by decide⟩
/-- java/lang/String.isLatin1()Z -/
def jm_isl : dM := (⟨"java/lang/String", "isLatin1", "()Z"⟩, prog_24_method_154_code, 1, some .boolean, 0, 0, (0, 0), false)
theorem jk_isl : okM jm_isl := ⟨tg4 99 (by decide +kernel) rfl, tg1 18 (by decide +kernel) rfl, fun _ => ⟨tg4 97 (by decide +kernel) rfl, tg4 98 (by decide +kernel) rfl⟩, fun h => absurd h (by decide), fun h => absurd h (by decide), by decide +kernel, by decide +kernel, by decide⟩
/-- java/lang/String.length()I -/
def jm_len : dM := (⟨"java/lang/String", "length", "()I"⟩, prog_24_method_54_code, 1, some .int, 0, 0, (0, 0), false)
theorem jk_len : okM jm_len := ⟨tg4 85 (by decide +kernel) rfl, tg1 18 (by decide +kernel) rfl, fun _ => ⟨tg4 83 (by decide +kernel) rfl, tg4 84 (by decide +kernel) rfl⟩, fun h => absurd h (by decide), fun h => absurd h (by decide), by decide +kernel, by decide +kernel, by decide⟩
/-- java/lang/String.checkIndex(II)V -/
def jm_chk : dM := (⟨"java/lang/String", "checkIndex", "(II)V"⟩, prog_24_method_155_code, 2, none, 1, 2, (0, 0), false)
theorem jk_chk : okM jm_chk := ⟨tg4 105 (by decide +kernel) rfl, tg1 18 (by decide +kernel) rfl, fun h => absurd h (by decide), fun _ => tg4 104 (by decide +kernel) rfl, fun h => absurd h (by decide), by decide +kernel, by decide +kernel, by decide⟩
/-- jdk/internal/util/Preconditions.checkIndex(IILjava/util/function/BiFunction;)I -/
def jm_pch : dM := (⟨"jdk/internal/util/Preconditions", "checkIndex", "(IILjava/util/function/BiFunction;)I"⟩, prog_31_method_11_code, 3, some .int, 1, 3, (0, 0), false)
theorem jk_pch : okM jm_pch := ⟨tg4 110 (by decide +kernel) rfl, tg1 20 (by decide +kernel) rfl, fun h => absurd h (by decide), fun _ => tg4 109 (by decide +kernel) rfl, fun h => absurd h (by decide), by decide +kernel, by decide +kernel, by decide⟩
/-- java/lang/StringLatin1.charAt([BI)C -/
def jm_lch : dM := (⟨"java/lang/StringLatin1", "charAt", "([BI)C"⟩, prog_25_method_2_code, 2, some .char, 1, 2, (0, 0), false)
theorem jk_lch : okM jm_lch := ⟨tg4 102 (by decide +kernel) rfl, tg1 19 (by decide +kernel) rfl, fun h => absurd h (by decide), fun _ => tg4 101 (by decide +kernel) rfl, fun h => absurd h (by decide), by decide +kernel, by decide +kernel, by decide⟩
/-- java/lang/String.charAt(I)C -/
def jm_sch : dM := (⟨"java/lang/String", "charAt", "(I)C"⟩, prog_24_method_56_code, 2, some .char, 0, 1, (0, 0), false)
theorem jk_sch : okM jm_sch := ⟨tg4 95 (by decide +kernel) rfl, tg1 18 (by decide +kernel) rfl, fun _ => ⟨tg4 93 (by decide +kernel) rfl, tg4 94 (by decide +kernel) rfl⟩, fun h => absurd h (by decide), fun h => absurd h (by decide), by decide +kernel, by decide +kernel, by decide⟩
/-- java/lang/StringLatin1.canEncode(I)Z -/
def jm_can : dM := (⟨"java/lang/StringLatin1", "canEncode", "(I)Z"⟩, prog_25_method_4_code, 1, some .boolean, 1, 1, (0, 0), false)
theorem jk_can : okM jm_can := ⟨tg4 159 (by decide +kernel) rfl, tg1 19 (by decide +kernel) rfl, fun h => absurd h (by decide), fun _ => tg4 158 (by decide +kernel) rfl, fun h => absurd h (by decide), by decide +kernel, by decide +kernel, by decide⟩
/-- java/lang/StringLatin1.indexOfChar([BIII)I -/
def jm_ioc : dM := (⟨"java/lang/StringLatin1", "indexOfChar", "([BIII)I"⟩, prog_25_method_23_code, 6, some .int, 1, 4, (0, 0), false)
theorem jk_ioc : okM jm_ioc := ⟨tg4 164 (by decide +kernel) rfl, tg1 19 (by decide +kernel) rfl, fun h => absurd h (by decide), fun _ => tg4 163 (by decide +kernel) rfl, fun h => absurd h (by decide), by decide +kernel, by decide +kernel, by decide⟩
/-- java/lang/StringLatin1.indexOf([BIII)I -/
def jm_lix : dM := (⟨"java/lang/StringLatin1", "indexOf", "([BIII)I"⟩, prog_25_method_22_code, 4, some .int, 1, 4, (0, 0), false)
theorem jk_lix : okM jm_lix := ⟨tg4 156 (by decide +kernel) rfl, tg1 19 (by decide +kernel) rfl, fun h => absurd h (by decide), fun _ => tg4 155 (by decide +kernel) rfl, fun h => absurd h (by decide), by decide +kernel, by decide +kernel, by decide⟩
/-- java/lang/String.indexOf(II)I -/
def jm_six : dM := (⟨"java/lang/String", "indexOf", "(II)I"⟩, prog_24_method_80_code, 3, some .int, 0, 2, (0, 0), false)
theorem jk_six : okM jm_six := ⟨tg4 152 (by decide +kernel) rfl, tg1 18 (by decide +kernel) rfl, fun _ => ⟨tg4 150 (by decide +kernel) rfl, tg4 151 (by decide +kernel) rfl⟩, fun h => absurd h (by decide), fun h => absurd h (by decide), by decide +kernel, by decide +kernel, by decide⟩
/-- java/lang/String.indexOf(I)I -/
def jm_sx1 : dM := (⟨"java/lang/String", "indexOf", "(I)I"⟩, prog_24_method_79_code, 2, some .int, 0, 1, (0, 0), false)
theorem jk_sx1 : okM jm_sx1 := ⟨tg4 148 (by decide +kernel) rfl, tg1 18 (by decide +kernel) rfl, fun _ => ⟨tg4 146 (by decide +kernel) rfl, tg4 147 (by decide +kernel) rfl⟩, fun h => absurd h (by decide), fun h => absurd h (by decide), by decide +kernel, by decide +kernel, by decide⟩
theorem jl_1 : Cond.methodLink "java/lang/String" 335 jm_cod.1 ∈ TBg := tg4 86 (by decide +kernel) rfl
theorem jl_2 : Cond.methodLink "java/lang/String" 492 jm_isl.1 ∈ TBg := tg4 96 (by decide +kernel) rfl
theorem jl_3 : Cond.methodLink "java/lang/String" 495 jm_lch.1 ∈ TBg := tg4 100 (by decide +kernel) rfl
theorem jl_4 : Cond.methodLink "java/lang/StringLatin1" 9 jm_chk.1 ∈ TBg := tg4 103 (by decide +kernel) rfl
theorem jl_5 : Cond.methodLink "java/lang/String" 1059 jm_pch.1 ∈ TBg := tg4 108 (by decide +kernel) rfl
theorem jl_6 : Cond.methodLink "java/lang/String" 505 jm_len.1 ∈ TBg := tg4 153 (by decide +kernel) rfl
theorem jl_7 : Cond.methodLink "java/lang/String" 637 jm_lix.1 ∈ TBg := tg4 154 (by decide +kernel) rfl
theorem jl_8 : Cond.methodLink "java/lang/StringLatin1" 88 jm_can.1 ∈ TBg := tg4 157 (by decide +kernel) rfl
theorem jl_9 : Cond.methodLink "java/lang/StringLatin1" 95 jm_ioc.1 ∈ TBg := tg4 162 (by decide +kernel) rfl
theorem jl_10 : Cond.methodLink "java/lang/String" 633 jm_six.1 ∈ TBg := tg4 149 (by decide +kernel) rfl
theorem jl_11 : Cond.methodLink "WingTrams$Tokens" 71 jm_len.1 ∈ TBg := tg4 82 (by decide +kernel) rfl
theorem jl_12 : Cond.methodLink "WingTrams$Tokens" 75 jm_sch.1 ∈ TBg := tg4 92 (by decide +kernel) rfl
theorem jl_13 : Cond.methodLink "WingTrams$Tokens" 60 jm_sx1.1 ∈ TBg := tg4 145 (by decide +kernel) rfl
theorem jl_mx : Cond.methodLink "java/lang/StringLatin1" 92 Lib.Math.max.name ∈ TBg := tg4 160 (by decide +kernel) rfl
theorem jl_mn : Cond.methodLink "java/lang/StringLatin1" 38 Lib.Math.min.name ∈ TBg := tg4 161 (by decide +kernel) rfl
theorem jl_smax : Cond.static Lib.Math.max.name ∈ TBg := tg3 104 (by decide +kernel) rfl
theorem jl_cmax : Cond.code Lib.Math.max.name Lib.Math.max.code 2 (some .int) ∈ TBg := tg3 105 (by decide +kernel) rfl
theorem jl_smin : Cond.static Lib.Math.min.name ∈ TBg := tg3 101 (by decide +kernel) rfl
theorem jl_cmin : Cond.code Lib.Math.min.name Lib.Math.min.code 2 (some .int) ∈ TBg := tg3 102 (by decide +kernel) rfl
theorem jl_im : Cond.initialized "java/lang/Math" ∈ TBg := tg1 22 (by decide +kernel) rfl
theorem jf_v : Cond.fieldLink "java/lang/String" 9 "java/lang/String" "value" "[B" ∈ TBg := tg9 141 (by decide +kernel) rfl
theorem jf_c : Cond.fieldLink "java/lang/String" 15 "java/lang/String" "coder" "B" ∈ TBg := tg9 142 (by decide +kernel) rfl
theorem jf_z : Cond.fieldLink "java/lang/String" 38 "java/lang/String" "COMPACT_STRINGS" "Z" ∈ TBg := tg4 90 (by decide +kernel) rfl
theorem jf_f : Cond.fieldLink "java/lang/String" 1053 "jdk/internal/util/Preconditions" "SIOOBE_FORMATTER" "Ljava/util/function/BiFunction;" ∈ TBg := tg4 106 (by decide +kernel) rfl
theorem tx_lenE : ∀ n : Nat, n < 2 → Int32.ofNat (([9, 91] : List Nat).getD n 0) = Int32.ofInt (tx_len n) ∧ tx_len n = ((([9, 91] : List Nat).getD n 0 : Nat) : Int) ∧ ([9, 91] : List Nat).getD n 0 < 2 ^ 31 := by decide +kernel
theorem tx_bE (n j : Nat) : (tx_b.getD n []).getD j 0 = Int32.ofInt ((tx_t n).getD j 0) := by
  have h : tx_b.getD n [] = (tx_t n).map Int32.ofInt := by
    unfold tx_b tx_t
    rw [List.getD_eq_getElem?_getD, List.getD_eq_getElem?_getD, List.getElem?_map]
    cases tx_l[n]? <;> rfl
  rw [h, List.getD_eq_getElem?_getD, List.getD_eq_getElem?_getD, List.getElem?_map]
  cases (tx_t n)[j]? <;> rfl
def i2bI (x : Int) : Int := (Int32.ofInt x).toInt8.toInt32.toInt
theorem tx_byte : ∀ c : Fin 256, ∀ b ∈ tx_t 0, (b = i2bI ((c.val : Nat) : Int) ↔ b = ((c.val : Nat) : Int)) := by decide +kernel
theorem tx_char : ∀ n : Nat, n < 2 → ∀ b ∈ tx_t n, (0 ≤ b ∧ b < 128) ∧ i2c (ian b 255) = b := by decide +kernel
theorem na_char : ∀ c : Fin 128, narrow .char (.int (Int32.ofInt ((c.val : Nat) : Int))) = .int (Int32.ofInt ((c.val : Nat) : Int)) := by decide +kernel
theorem tx_mem {n : Nat} {x : Int} (h0 : 0 ≤ x) (h1 : x < tx_len n) : tx_ch n x ∈ tx_t n := by
  unfold tx_ch
  unfold tx_len at h1
  have hl : x.toNat < (tx_t n).length := by omega
  rw [List.getD_eq_getElem?_getD, List.getElem?_eq_getElem hl]
  exact List.getElem_mem hl
def sQ (res : Option dX) (σ : dS) : dR → dS → Prop := fun r σ' => r = .inl res ∧ σ' = σ
def sRm (k : Nat) : Room := { frames := k, cells := 0, slots := 0, locals := 60 * k }
/-- a method of the JDK that answers res for as, and changes nothing; its calls k deep -/
def sMet (l : Launch) (G : dG) (k : Nat) (q : dM) (as : List dX) (res : Option dX) : Prop := ∀ (fr : Bool) (σ : dS), vx_Met l q.1 (dWs q) (sRm k) (dPc G fr as σ) (dQc G fr (sQ res σ)) (dXC G fr (sQ res σ)) 0 0 (rg G)
section JDK
variable {p : Program} {l : Launch} {e : Env} {R : Room} {s : State} {m : MethodId} {args : Array Value} {below : List Frame} {meth : Method} {c : Code} {Qm : State → Prop} {G : dG} {fr : Bool} {nL pc : Nat} {cc : ByteArray} {u : Nat × Nat} {ls : dL} {st : List dX} {σ : dS}
theorem adr_tk {n : Nat} : adr G (100001 + n) = G.2.1 (1 + n) := by
  unfold adr
  rw [if_neg (by omega), show 100001 + n - 100000 = 1 + n by omega]
theorem adr_tv {n : Nat} : adr G (100011 + n) = G.2.1 (11 + n) := by
  unfold adr
  rw [if_neg (by omega), show 100011 + n - 100000 = 11 + n by omega]
theorem js_open {q : dM} {as : List dX} {rm : Room} {Q : dR → dS → Prop} (hpf : plainFor q.1 = true) (hc1 : ∀ v ∈ as, c1 v = true) (hlen : as.length ≤ q.2.2.1) (was : wfs as)
    (body : ∀ (p : Program) (e : Env) (s : State) (m : MethodId) (below : List Frame) (meth : Method) (c : Code), p.tables.exec = Jvm.exec → c.code = q.2.1 → c.maxLocals = q.2.2.1 → meth.sig.returnType = q.2.2.2.1 → meth.locks = false → (∀ w ∈ TBg, w.before (as.map (dv G)).toArray s = true) → s.vm.findClass q.1.cls = some m.cls → dEv G s s.heap →
      VW p l e (headSpec (dWs q) rm).room s m (as.map (dv G)).toArray below meth c (vx_MQ below (dQc G fr Q) (dXC G fr Q) (as.map (dv G)).toArray s 0 0 (rg G)) G fr q.2.2.1 0 (0, 0) (as.map some ++ List.replicate (q.2.2.1 - as.length) none) [] σ) :
    vx_Met l q.1 (dWs q) rm (dPc G fr as σ) (dQc G fr Q) (dXC G fr Q) 0 0 (rg G) := by
  refine dx_ofW (cc := q.2.1) (maxL := q.2.2.1) (ret := q.2.2.2.1) hpf rfl ?_
  intro p e s m args below meth c s₁ BL hml hno hv
  obtain ⟨rfl, hW, hE⟩ := hv
  have hts0 := atoms_spec (ws := dWs q) BL.pre
  have hsl : (lg_sl (as.map (dv G))).length = as.length := by
    rw [lg_len]
    exact c1_sum as hc1
  have hl := lv_entry (as.map (dv G)) (n := q.2.2.1) (by rw [hsl]; exact hlen)
  rw [lg_entry_eq]
  rw [kl_args G as 0 (q.2.2.1 - as.length) hc1] at hl
  generalize (lg_sl (as.map (dv G)) ++ List.replicate (q.2.2.1 - (lg_sl (as.map (dv G))).length) Slot.unset).toArray = la at hl ⊢
  refine body p e s m below meth c BL.exec BL.bytes hml BL.returns BL.notSynchronized (fun w hw => hts0 w (List.mem_cons_of_mem _ hw)) (findClass_of_methodNamed BL.named) hE ?_ ?_ (fun v hv => absurd hv List.not_mem_nil) s.heap [] la hW va_S.rf hl
  · rw [List.length_append, List.length_map, List.length_replicate]
    omega
  · intro i v hv
    by_cases hi : i < (as.map some).length
    · rw [List.getElem?_append_left hi, List.getElem?_map] at hv
      cases ha : as[i]? with
      | none => rw [ha] at hv; cases hv
      | some w =>
        rw [ha] at hv
        simp only [Option.map_some, Option.some.injEq] at hv
        subst hv
        exact was w (List.mem_of_getElem? ha)
    · rw [List.getElem?_append_right (by omega)] at hv
      have := List.mem_of_getElem? hv
      rw [List.mem_replicate] at this
      cases this.2
theorem s_callB {own : String} {b k : Nat} {q : dM} (hts : ∀ w ∈ TBg, w.before args s = true) (ok : okM q) (hlink : Cond.methodLink own b q.1 ∈ TBg) (hRf : k + 1 ≤ R.frames) (hRl : 60 * (k + 1) ≤ R.locals) :
    CallB R s args own b q.1 q.2.1 q.2.2.1 q.2.2.2.1 (dWs q) (sRm k) 0 0 q.2.2.2.2.2.1 := by
  obtain ⟨o1, o2, -, -, -, o6, o7, o8⟩ := ok
  have good : ∀ w ∈ TBg, ∀ (a' : Array Value) (U : State), s.WarmedH U.vm → w.before a' U = true := fun w hw a' U hW => word_at hW (good_of_word (List.mem_filter.mp hw).2) (hts w hw)
  refine ⟨rfl, rfl, hRf, ?_, fun w hw => ?_, List.mem_cons_self, hts _ o1, hts _ o2, o6, fun sig h => ?_, hts _ hlink⟩
  · show 8 + (q.2.2.1 + 11) + 60 * k ≤ R.locals
    omega
  · rcases List.mem_cons.mp hw with rfl | hw
    · exact good _ o1
    · exact good _ hw
  · rw [h] at o7
    exact (Option.some.inj o7).symm
theorem s_callE {H : Heap} {locs : List Loc} {la : Array Slot} {st0 : List Value} {r : List dX} {res : Option dX} {a : Array Value} (hres : ∀ v, res = some v → wfx v) (w2 : wfs r) (hn : ls.length = nL) (w1 : wfl ls) (hS : va_S (rg G) s.heap H locs) (hl : lv_has la nL (kl G 0 ls))
    (hrun : vx_Run p l e R s m args below meth c H locs u.1 u.2 0 0 (F0 m pc la st0) (r.map (dv G)) (dQc G fr (sQ res σ) a) (dXC G fr (sQ res σ)) (rg G)) (k : VW p l e R s m args below meth c Qm G fr nL (pc + 3) u ls (res.toList ++ r) σ) : W p l e R s m args below meth c H locs u.1 u.2 Qm (F0 m pc la st0) := by
  refine q_run (mc := 0) (ms := 0) hrun hS ?_ ?_
  · intro r' σ' H1 locs1 _ hQ hW1 hS1
    obtain ⟨h1, h2⟩ := hQ
    cases h1
    subst h2
    refine k hn w1 ?_ H1 locs1 la hW1 hS1 hl
    rcases res with _ | v
    · exact w2
    · exact wfs_c (hres v rfl) w2
  · intro x σ' H1 locs1 ce q9 hQ
    exact absurd hQ.1 (by intro z; cases z)
theorem s_callS {own : String} {q : dM} {k b : Nat} {as r : List dX} {res : Option dX} (hx : p.tables.exec = Jvm.exec) (hb : c.code = cc) (hml : c.maxLocals = nL) (hts : ∀ w ∈ TBg, w.before args s = true) (hown : s.vm.findClass own = some m.cls) (hE : dEv G s s.heap) (hM : sMet l G k q as res) (okm : okM q) (hkind : q.2.2.2.2.1 = 1) (hlink : Cond.methodLink own b q.1 ∈ TBg) (hnar : as.length = q.2.2.2.2.2.1) (hRf : k + 1 ≤ R.frames) (hRl : 60 * (k + 1) ≤ R.locals) (hwt : wt r ≤ 8) (hu : u.1 ≤ R.cells ∧ u.2 ≤ R.slots) (hres : ∀ v, res = some v → wfx v) (hst : st = as.reverse ++ r) (hd : decode cc pc = .ok (.invokestatic b, 3)) (kk : VW p l e R s m args below meth c Qm G fr nL (pc + 3) u ls (res.toList ++ r) σ) : VW p l e R s m args below meth c Qm G fr nL pc u ls st σ := by
  intro hn w1 w2 H locs la hW hS hl
  subst hst
  refine s_callE (a := (as.map (dv G)).toArray) hres (fun v hv => w2 v (List.mem_append_right _ hv)) hn w1 hS hl ?_ kk
  rw [List.map_append, List.map_reverse]
  refine vx_runS (As := as.map (dv G)) (rest := r.map (dv G)) ⟨hx, hb, hml, hown, hts⟩ (hM fr σ) ⟨s_callB hts okm hlink hRf hRl, hts _ (okm.2.2.2.1 hkind)⟩ ⟨dPc_blind, fun U hU hWm => ⟨rfl, by rw [hU]; exact hW, by rw [hU]; exact hE.warm hWm hS.2.1⟩⟩ rfl (by rw [List.length_map]; exact hnar) hl.1 rfl ?_ hd hu
  rw [dv_cats, wt_sum]
  show 2 * 0 + _ ≤ 8
  omega
theorem s_callV {own : String} {q : dM} {k b n : Nat} {as r : List dX} {res : Option dX} (hx : p.tables.exec = Jvm.exec) (hb : c.code = cc) (hml : c.maxLocals = nL) (hts : ∀ w ∈ TBg, w.before args s = true) (hown : s.vm.findClass own = some m.cls) (hE : dEv G s s.heap) (hn2 : n < 2) (hM : sMet l G k q (.inr (.inr (100001 + n)) :: as) res) (okm : okM q) (hkind : q.2.2.2.2.1 = 0) (hcls : q.1.cls = "java/lang/String") (hlink : Cond.methodLink own b q.1 ∈ TBg) (hnar : as.length = q.2.2.2.2.2.1) (hRf : k + 1 ≤ R.frames) (hRl : 60 * (k + 1) ≤ R.locals) (hwt : wt r ≤ 8) (hu : u.1 ≤ R.cells ∧ u.2 ≤ R.slots) (hres : ∀ v, res = some v → wfx v) (hst : st = as.reverse ++ .inr (.inr (100001 + n)) :: r) (hd : decode cc pc = .ok (.invokevirtual b, 3)) (kk : VW p l e R s m args below meth c Qm G fr nL (pc + 3) u ls (res.toList ++ r) σ) : VW p l e R s m args below meth c Qm G fr nL pc u ls st σ := by
  intro hn w1 w2 H locs la hW hS hl
  subst hst
  obtain ⟨hi, hse⟩ := okm.2.2.1 hkind
  have hrc := vk_recv (hE.2.2.2.2.2.1) hn2 hS
  rw [← hcls] at hrc
  refine s_callE (a := (Value.ref (adr G (100001 + n)) :: as.map (dv G)).toArray) hres (fun v hv => w2 v (List.mem_append_right _ (List.mem_cons_of_mem _ hv))) hn w1 hS hl ?_ kk
  rw [List.map_append, List.map_reverse]
  refine vx_runV (As := as.map (dv G)) (rest := r.map (dv G)) (b := adr G (100001 + n)) ⟨hx, hb, hml, hown, hts⟩ (hM fr σ) ⟨s_callB hts okm hlink hRf hRl, hts _ hi, hts _ hse⟩ ⟨dPc_blind, by rw [adr_tk]; exact hrc, fun U hU hWm => ⟨rfl, by rw [hU]; exact hW, by rw [hU]; exact hE.warm hWm hS.2.1⟩⟩ rfl (by rw [List.length_map]; exact hnar) hl.1 rfl ?_ hd hu
  rw [dv_cats, wt_sum]
  show 2 * 0 + _ ≤ 8
  omega
/-! rows over the texts -/
theorem r_sgv (hx : p.tables.exec = Jvm.exec) (hb : c.code = cc) (hts : ∀ w ∈ TBg, w.before args s = true) (hown : s.vm.findClass "java/lang/String" = some m.cls) (hE : dEv G s s.heap) {n : Nat} (hn2 : n < 2) (d : decode cc pc = .ok (.getfield 9, 3)) (k : VW p l e R s m args below meth c Qm G fr nL (pc + 3) u ls (.inr (.inr (100011 + n)) :: st) σ) : VW p l e R s m args below meth c Qm G fr nL pc u ls (.inr (.inr (100001 + n)) :: st) σ := by
  intro hn w1 w2 H locs la hW hS hl
  obtain ⟨-, -, h, -⟩ := hE.2.2.2.2.2.1.1 n hn2
  show W p l e R s m args below meth c H locs u.1 u.2 Qm (F0 m pc la (.ref (adr G (100001 + n)) :: st.map (dv G)))
  rw [adr_tk]
  refine vk_getf hx hb h hS hown (hts _ jf_v) (fun _ q => q) d ?_
  have := k hn w1 (wfs_c trivial (wfs_t w2)) H locs la hW hS hl
  have e9 : (.inr (.inr (100011 + n)) :: st : List dX).map (dv G) = .ref (G.2.1 (11 + n)) :: st.map (dv G) := by
    rw [← adr_tv (G := G) (n := n)]; rfl
  rw [e9] at this
  exact this
theorem r_sgc (hx : p.tables.exec = Jvm.exec) (hb : c.code = cc) (hts : ∀ w ∈ TBg, w.before args s = true) (hown : s.vm.findClass "java/lang/String" = some m.cls) (hE : dEv G s s.heap) {n : Nat} (hn2 : n < 2) (d : decode cc pc = .ok (.getfield 15, 3)) (k : VW p l e R s m args below meth c Qm G fr nL (pc + 3) u ls (.inl 0 :: st) σ) : VW p l e R s m args below meth c Qm G fr nL pc u ls (.inr (.inr (100001 + n)) :: st) σ := by
  intro hn w1 w2 H locs la hW hS hl
  obtain ⟨-, h, -, -⟩ := hE.2.2.2.2.2.1.1 n hn2
  show W p l e R s m args below meth c H locs u.1 u.2 Qm (F0 m pc la (.ref (adr G (100001 + n)) :: st.map (dv G)))
  rw [adr_tk]
  exact vk_getf hx hb h hS hown (hts _ jf_c) (fun _ q => q) d (k hn w1 (wfs_c (by show iR 0; unfold iR; omega) (wfs_t w2)) H locs la hW hS hl)
theorem r_gcs (hx : p.tables.exec = Jvm.exec) (hb : c.code = cc) (hts : ∀ w ∈ TBg, w.before args s = true) (hown : s.vm.findClass "java/lang/String" = some m.cls) (hE : dEv G s s.heap) (d : decode cc pc = .ok (.getstatic 38, 3)) (k : VW p l e R s m args below meth c Qm G fr nL (pc + 3) u ls (.inl 1 :: st) σ) : VW p l e R s m args below meth c Qm G fr nL pc u ls st σ := by
  intro hn w1 w2 H locs la hW hS hl
  exact va_gets hx hb hE.2.2.2.2.2.2.2.1 hS hown (hts _ jf_z) (fun _ q => q) d (k hn w1 (wfs_c (by show iR 1; unfold iR; omega) w2) H locs la hW hS hl)
theorem tx_lenR {n : Nat} (hn2 : n < 2) : iR (tx_len n) := by
  obtain ⟨-, h1, h2⟩ := tx_lenE n hn2
  unfold iR
  omega
theorem r_sal (hx : p.tables.exec = Jvm.exec) (hb : c.code = cc) (hE : dEv G s s.heap) {n : Nat} (hn2 : n < 2) (d : decode cc pc = .ok (.arraylength, 1)) (k : VW p l e R s m args below meth c Qm G fr nL (pc + 1) u ls (.inl (tx_len n) :: st) σ) : VW p l e R s m args below meth c Qm G fr nL pc u ls (.inr (.inr (100011 + n)) :: st) σ := by
  intro hn w1 w2 H locs la hW hS hl
  obtain ⟨-, -, -, h⟩ := hE.2.2.2.2.2.1.1 n hn2
  show W p l e R s m args below meth c H locs u.1 u.2 Qm (F0 m pc la (.ref (adr G (100011 + n)) :: st.map (dv G)))
  rw [adr_tv]
  exact va_tlen hx hb h hS (tx_lenE n hn2).1 d (k hn w1 (wfs_c (tx_lenR hn2) (wfs_t w2)) H locs la hW hS hl)
theorem r_sba (hx : p.tables.exec = Jvm.exec) (hb : c.code = cc) (hE : dEv G s s.heap) {n : Nat} (hn2 : n < 2) {x : Int} (h0 : 0 ≤ x) (h1 : x < tx_len n) (d : decode cc pc = .ok (.baload, 1)) (k : VW p l e R s m args below meth c Qm G fr nL (pc + 1) u ls (.inl (tx_ch n x) :: st) σ) : VW p l e R s m args below meth c Qm G fr nL pc u ls (.inl x :: .inr (.inr (100011 + n)) :: st) σ := by
  intro hn w1 w2 H locs la hW hS hl
  obtain ⟨-, -, -, h⟩ := hE.2.2.2.2.2.1.1 n hn2
  obtain ⟨-, e1, e2⟩ := tx_lenE n hn2
  have hc := (tx_char n hn2 _ (tx_mem h0 h1)).1
  show W p l e R s m args below meth c H locs u.1 u.2 Qm (F0 m pc la (.int (Int32.ofInt x) :: .ref (adr G (100011 + n)) :: st.map (dv G)))
  rw [adr_tv]
  refine va_tb hx hb h hS (oi_in h0 (by rw [← e1]; exact h1) e2) (v := .int (Int32.ofInt (tx_ch n x))) ?_ d (k hn w1 (wfs_c (by show iR _; unfold iR; omega) (wfs_t (wfs_t w2))) H locs la hW hS hl)
  rw [oi_cl h0 (by rw [← e1]; exact h1) e2, tx_bE]
  rfl
theorem r_i2b (hx : p.tables.exec = Jvm.exec) (hb : c.code = cc) {x : Int} (d : decode cc pc = .ok (.i2b, 1)) (k : VW p l e R s m args below meth c Qm G fr nL (pc + 1) u ls (.inl (i2bI x) :: st) σ) : VW p l e R s m args below meth c Qm G fr nL pc u ls (.inl x :: st) σ := by
  intro hn w1 w2 H locs la hW hS hl
  refine lv_i2b hx hb d (v := Int32.ofInt (i2bI x)) ?_ (k hn w1 (wfs_c (ti_R _) (wfs_t w2)) H locs la hW hS hl)
  unfold i2bI
  rw [oi_ti]
theorem v_al {n : Fin 4} {i t : Nat} (hx : p.tables.exec = Jvm.exec) (hb : c.code = cc) (hi : (n : Nat) = i) (hv : ls[i]? = some (some (.inr (.inr t)))) (d : decode cc pc = .ok (.aload_n n, 1)) (k : VW p l e R s m args below meth c Qm G fr nL (pc + 1) u ls (.inr (.inr t) :: st) σ) : VW p l e R s m args below meth c Qm G fr nL pc u ls st σ :=
  r_aload_n hx hb hi d (by unfold s_aload; rw [hv]; exact k)
theorem v_il {n : Fin 4} {i : Nat} {x : Int} (hx : p.tables.exec = Jvm.exec) (hb : c.code = cc) (hi : (n : Nat) = i) (hv : ls[i]? = some (some (.inl x))) (d : decode cc pc = .ok (.iload_n n, 1)) (k : VW p l e R s m args below meth c Qm G fr nL (pc + 1) u ls (.inl x :: st) σ) : VW p l e R s m args below meth c Qm G fr nL pc u ls st σ :=
  r_iload_n hx hb hi d (by unfold s_iload; rw [hv]; exact k)
theorem v_ilw {i : Nat} {x : Int} (hx : p.tables.exec = Jvm.exec) (hb : c.code = cc) (hv : ls[i]? = some (some (.inl x))) (d : decode cc pc = .ok (.iload i, 2)) (k : VW p l e R s m args below meth c Qm G fr nL (pc + 2) u ls (.inl x :: st) σ) : VW p l e R s m args below meth c Qm G fr nL pc u ls st σ :=
  r_iload hx hb d (by unfold s_iload; rw [hv]; exact k)
theorem r_ret {ty : FieldType} {x : Int} {Q : dR → dS → Prop} (hx : p.tables.exec = Jvm.exec) (hb : c.code = cc) (hr : meth.sig.returnType = some ty) (hlocks : meth.locks = false) (hnw : narrow ty (.int (Int32.ofInt x)) = .int (Int32.ofInt x)) (d : decode cc pc = .ok (.ireturn, 1)) (k : Q (.inl (some (.inl x))) σ) : VW p l e R s m args below meth c (vx_MQ below (dQc G fr Q) (dXC G fr Q) args s 0 0 (rg G)) G fr nL pc (0, 0) ls [.inl x] σ := by
  intro hn w1 w2 H locs la hW hS hl
  refine vx_ret ?_
  exact W.zret hx hb hr hnw (fun t ht _ => ⟨⟨some (.inl x), σ, rfl, fun v hv => by cases hv; exact wfs_h w2, k, by rw [ht]; exact hW⟩, hS.F ht⟩) hS.2.2 d hlocks
/-! the JDK's methods -/
theorem ws1 {v : dX} (h : wfx v) : wfs [v] := fun w hw => by rw [List.mem_singleton.mp hw]; exact h
theorem rs1 {v : dX} (h : wfx v) : ∀ w, some v = some w → wfx w := fun w hw => by cases hw; exact h
theorem js_cod {n : Nat} (hn : n < 2) : sMet l G 0 jm_cod [.inr (.inr (100001 + n))] (some (.inl 0)) := by
  intro fr σ
  refine js_open (q := jm_cod) (by decide) (fun v hv => by rw [List.mem_singleton.mp hv]; rfl) (Nat.le_refl 1) (ws1 trivial) ?_
  intro p e s m below meth c hx hb hml hr hlocks hts hown hE
  refine r_gcs hx hb hts hown hE (by decide +kernel) ?_
  refine r_if_eq hx hb (a := 10) (tgt := 13) (by decide +kernel) rfl ⟨fun q => absurd q (by decide), fun _ => ?_⟩
  refine v_al (n := 0) (t := 100001 + n) hx hb rfl rfl (by decide +kernel) ?_
  refine r_sgc hx hb hts hown hE hn (by decide +kernel) ?_
  refine r_goto hx hb (a := 4) (tgt := 14) (by decide +kernel) rfl ?_
  exact r_ret hx hb hr hlocks (by decide +kernel) (by decide +kernel) ⟨rfl, rfl⟩
theorem js_isl {n : Nat} (hn : n < 2) : sMet l G 0 jm_isl [.inr (.inr (100001 + n))] (some (.inl 1)) := by
  intro fr σ
  refine js_open (q := jm_isl) (by decide) (fun v hv => by rw [List.mem_singleton.mp hv]; rfl) (Nat.le_refl 1) (ws1 trivial) ?_
  intro p e s m below meth c hx hb hml hr hlocks hts hown hE
  refine r_gcs hx hb hts hown hE (by decide +kernel) ?_
  refine r_if_eq hx hb (a := 14) (tgt := 17) (by decide +kernel) rfl ⟨fun q => absurd q (by decide), fun _ => ?_⟩
  refine v_al (n := 0) (t := 100001 + n) hx hb rfl rfl (by decide +kernel) ?_
  refine r_sgc hx hb hts hown hE hn (by decide +kernel) ?_
  refine r_if_ne hx hb (a := 7) (tgt := 17) (by decide +kernel) rfl ⟨fun q => absurd rfl q, fun _ => ?_⟩
  refine r_iconst hx hb (a := 1) (by decide +kernel) (by unfold iR; omega) ?_
  refine r_goto hx hb (a := 4) (tgt := 18) (by decide +kernel) rfl ?_
  exact r_ret hx hb hr hlocks (by decide +kernel) (by decide +kernel) ⟨rfl, rfl⟩
theorem js_len {n : Nat} (hn : n < 2) : sMet l G 1 jm_len [.inr (.inr (100001 + n))] (some (.inl (tx_len n))) := by
  intro fr σ
  refine js_open (q := jm_len) (by decide) (fun v hv => by rw [List.mem_singleton.mp hv]; rfl) (Nat.le_refl 1) (ws1 trivial) ?_
  intro p e s m below meth c hx hb hml hr hlocks hts hown hE
  refine v_al (n := 0) (t := 100001 + n) hx hb rfl rfl (by decide +kernel) ?_
  refine r_sgv hx hb hts hown hE hn (by decide +kernel) ?_
  refine r_sal hx hb hE hn (by decide +kernel) ?_
  refine v_al (n := 0) (t := 100001 + n) hx hb rfl rfl (by decide +kernel) ?_
  refine s_callV (as := []) (r := [.inl (tx_len n)]) (n := n) hx hb hml hts hown hE hn (js_cod hn) jk_cod rfl rfl jl_1 rfl (Nat.le_refl 1) (Nat.le_refl 60) (Nat.le_of_ble_eq_true rfl) ⟨Nat.le_refl 0, Nat.le_refl 0⟩ (rs1 (by show iR 0; unfold iR; omega)) rfl (by decide +kernel) ?_
  refine r_ishr hx hb (by decide +kernel) ?_
  show VW _ _ _ _ _ _ _ _ _ _ _ _ _ _ _ _ _ [.inl (shr (tx_len n) 0)] _
  have e : ∀ n : Nat, n < 2 → shr (tx_len n) 0 = tx_len n := by decide +kernel
  rw [e n hn]
  exact r_ret hx hb hr hlocks rfl (by decide +kernel) ⟨rfl, rfl⟩
/-- its third argument may be null -/
theorem js_pch {i k : Int} {v : Value} (hv1 : v.category = 1) (i0 : 0 ≤ i) (i1 : i < k) (hi : iR i) (hk : iR k) {fr : Bool} {σ : dS} : vx_Met l jm_pch.1 (dWs jm_pch) (sRm 0) (fun a U => a = #[.int (Int32.ofInt i), .int (Int32.ofInt k), v] ∧ Wd G fr σ U.heap ∧ dEv G U U.heap) (dQc G fr (sQ (some (.inl i)) σ)) (dXC G fr (sQ (some (.inl i)) σ)) 0 0 (rg G) := by
  refine dx_ofW (cc := jm_pch.2.1) (maxL := 3) (ret := some .int) (by decide) rfl ?_
  intro p e s m args below meth c s₁ BL hml hno hv
  obtain ⟨rfl, hW, hE⟩ := hv
  have hx := BL.exec
  have hb := BL.bytes
  have hl := lv_entry [Value.int (Int32.ofInt i), .int (Int32.ofInt k), v] (n := 3) (by cases v <;> simp_all [lg_sl, Value.category])
  rw [lg_entry_eq]
  generalize (lg_sl [Value.int (Int32.ofInt i), .int (Int32.ofInt k), v] ++ List.replicate (3 - (lg_sl [Value.int (Int32.ofInt i), .int (Int32.ofInt k), v]).length) Slot.unset).toArray = la at hl ⊢
  have hl2 : lv_has la 3 (kl G 0 [some (.inl i), some (.inl k), none]) := lv_less hl (fun q hq => by
    simp only [kl, dv, List.mem_cons, List.not_mem_nil, or_false] at hq
    rcases hq with rfl | rfl <;> simp [lv_args, Value.category, hv1])
  have main : VW p l e (headSpec (dWs jm_pch) (sRm 0)).room s m #[.int (Int32.ofInt i), .int (Int32.ofInt k), v] below meth c (vx_MQ below (dQc G fr (sQ (some (.inl i)) σ)) (dXC G fr (sQ (some (.inl i)) σ)) #[.int (Int32.ofInt i), .int (Int32.ofInt k), v] s 0 0 (rg G)) G fr 3 0 (0, 0) [some (.inl i), some (.inl k), none] [] σ := by
    refine v_il (n := 0) hx hb rfl rfl (by decide +kernel) ?_
    refine r_if_lt hx hb (a := 8) (tgt := 9) (by decide +kernel) rfl ⟨fun q => absurd q (by omega), fun _ => ?_⟩
    refine v_il (n := 0) hx hb rfl rfl (by decide +kernel) ?_
    refine v_il (n := 1) hx hb rfl rfl (by decide +kernel) ?_
    refine r_icmp_lt hx hb (a := 10) (tgt := 16) (by decide +kernel) rfl ⟨fun _ => ?_, fun q => absurd i1 q⟩
    refine v_il (n := 0) hx hb rfl rfl (by decide +kernel) ?_
    exact r_ret hx hb BL.returns BL.notSynchronized rfl (by decide +kernel) ⟨rfl, rfl⟩
  refine main rfl ?_ (fun v hv => absurd hv List.not_mem_nil) s.heap [] la hW va_S.rf hl2
  intro j w hj
  rcases j with _ | _ | _ | j
  · cases hj; exact hi
  · cases hj; exact hk
  · cases hj
  · simp at hj
theorem js_chk {i k : Int} (i0 : 0 ≤ i) (i1 : i < k) (hi : iR i) (hk : iR k) : sMet l G 1 jm_chk [.inl i, .inl k] none := by
  intro fr σ
  refine js_open (q := jm_chk) (by decide) (fun v hv => by rcases List.mem_cons.mp hv with h | h; (· rw [h]; rfl); (· rw [List.mem_singleton.mp h]; rfl)) (Nat.le_refl 2) (wfs_c hi (ws1 hk)) ?_
  intro p e s m below meth c hx hb hml hr hlocks hts hown hE
  refine v_il (n := 0) hx hb rfl rfl (by decide +kernel) ?_
  refine v_il (n := 1) hx hb rfl rfl (by decide +kernel) ?_
  intro hn w1 w2 H locs la hW hS hl
  have go : ∀ v : Value, v.category = 1 → va_Z "jdk/internal/util/Preconditions" "SIOOBE_FORMATTER" "Ljava/util/function/BiFunction;" v (rg G) s s.heap → W p l e (headSpec (dWs jm_chk) (sRm 1)).room s m #[.int (Int32.ofInt i), .int (Int32.ofInt k)] below meth c H locs 0 0 (vx_MQ below (dQc G fr (sQ none σ)) (dXC G fr (sQ none σ)) #[.int (Int32.ofInt i), .int (Int32.ofInt k)] s 0 0 (rg G)) (F0 m 2 la [.int (Int32.ofInt k), .int (Int32.ofInt i)]) := by
    intro v hv hZ
    refine va_gets hx hb hZ hS hown (hts _ jf_f) (fun _ q => q) (by decide +kernel) ?_
    refine s_callE (fr := fr) (u := (0, 0)) (res := some (.inl i)) (r := []) (σ := σ) (a := #[.int (Int32.ofInt i), .int (Int32.ofInt k), v]) (rs1 hi) (fun v hv => absurd hv List.not_mem_nil) hn w1 hS hl ?_ ?_
    · refine vx_runS (As := [.int (Int32.ofInt i), .int (Int32.ofInt k), v]) (rest := []) ⟨hx, hb, hml, hown, hts⟩ (js_pch hv i0 i1 hi hk) ⟨s_callB hts jk_pch jl_5 (Nat.le_refl 1) (Nat.le_refl 60), hts _ (jk_pch.2.2.2.1 rfl)⟩ ⟨fun _ U _ _ h => ⟨h.1, h.2.1, h.2.2.same (s := U) rfl⟩, fun U hU hWm => ⟨rfl, by rw [hU]; exact hW, by rw [hU]; exact hE.warm hWm hS.2.1⟩⟩ rfl rfl hl.1 rfl (Nat.zero_le _) (show decode jm_chk.2.1 5 = .ok (.invokestatic 1059, 3) by decide +kernel) ⟨Nat.le_refl 0, Nat.le_refl 0⟩
    · refine r_pop hx hb (by decide +kernel) ⟨rfl, ?_⟩
      intro hn w1 w2 H locs la hW hS hl
      refine vx_ret ?_
      exact W.vret hx hb hr (fun t ht _ => ⟨⟨none, σ, rfl, fun v hv => (by cases hv), ⟨rfl, rfl⟩, by rw [ht]; exact hW⟩, hS.F ht⟩) hS.2.2 (by decide +kernel) hlocks
  rcases hE.2.2.2.2.2.2.2.2 with h | ⟨t, h⟩
  · exact go _ rfl h
  · exact go _ rfl h
theorem js_lch {n : Nat} (hn : n < 2) {x : Int} (x0 : 0 ≤ x) (x1 : x < tx_len n) : sMet l G 2 jm_lch [.inr (.inr (100011 + n)), .inl x] (some (.inl (tx_ch n x))) := by
  intro fr σ
  have hl := tx_lenR hn
  have hxR : iR x := by unfold iR at hl ⊢; omega
  obtain ⟨⟨b0, b1⟩, b2⟩ := tx_char n hn _ (tx_mem x0 x1)
  refine js_open (q := jm_lch) (by decide) (fun v hv => by rcases List.mem_cons.mp hv with h | h; (· rw [h]; rfl); (· rw [List.mem_singleton.mp h]; rfl)) (Nat.le_refl 2) (wfs_c trivial (ws1 hxR)) ?_
  intro p e s m below meth c hx hb hml hr hlocks hts hown hE
  refine v_il (n := 1) hx hb rfl rfl (by decide +kernel) ?_
  refine v_al (n := 0) (t := 100011 + n) hx hb rfl rfl (by decide +kernel) ?_
  refine r_sal hx hb hE hn (by decide +kernel) ?_
  refine s_callS (as := [.inl x, .inl (tx_len n)]) (r := []) hx hb hml hts hown hE (js_chk x0 x1 hxR hl) jk_chk rfl jl_4 rfl (Nat.le_refl 2) (Nat.le_refl 120) (by decide) ⟨Nat.le_refl 0, Nat.le_refl 0⟩ (fun v hv => by cases hv) rfl (by decide +kernel) ?_
  refine v_al (n := 0) (t := 100011 + n) hx hb rfl rfl (by decide +kernel) ?_
  refine v_il (n := 1) hx hb rfl rfl (by decide +kernel) ?_
  refine r_sba hx hb hE hn x0 x1 (by decide +kernel) ?_
  refine r_sipush hx hb (a := 255) (by decide +kernel) (by decide +kernel) (by unfold iR; omega) ?_
  refine r_iand hx hb (by decide +kernel) ?_
  refine r_i2c hx hb (by decide +kernel) ?_
  show VW _ _ _ _ _ _ _ _ _ _ _ _ _ _ _ _ _ [.inl (i2c (ian (tx_ch n x) 255))] _
  rw [b2]
  have hna := na_char ⟨(tx_ch n x).toNat, by omega⟩
  rw [show (((tx_ch n x).toNat : Nat) : Int) = tx_ch n x by omega] at hna
  exact r_ret hx hb hr hlocks hna (by decide +kernel) ⟨rfl, rfl⟩
theorem js_sch {n : Nat} (hn : n < 2) {x : Int} (x0 : 0 ≤ x) (x1 : x < tx_len n) : sMet l G 3 jm_sch [.inr (.inr (100001 + n)), .inl x] (some (.inl (tx_ch n x))) := by
  intro fr σ
  have hl := tx_lenR hn
  have hxR : iR x := by unfold iR at hl ⊢; omega
  obtain ⟨⟨b0, b1⟩, b2⟩ := tx_char n hn _ (tx_mem x0 x1)
  refine js_open (q := jm_sch) (by decide) (fun v hv => by rcases List.mem_cons.mp hv with h | h; (· rw [h]; rfl); (· rw [List.mem_singleton.mp h]; rfl)) (Nat.le_refl 2) (wfs_c trivial (ws1 hxR)) ?_
  intro p e s m below meth c hx hb hml hr hlocks hts hown hE
  refine v_al (n := 0) (t := 100001 + n) hx hb rfl rfl (by decide +kernel) ?_
  refine s_callV (as := []) (r := []) (n := n) hx hb hml hts hown hE hn (js_isl hn) jk_isl rfl rfl jl_2 rfl (Nat.le_of_ble_eq_true rfl) (Nat.le_of_ble_eq_true rfl) (by decide) ⟨Nat.le_refl 0, Nat.le_refl 0⟩ (rs1 (by show iR 1; unfold iR; omega)) rfl (by decide +kernel) ?_
  refine r_if_eq hx hb (a := 12) (tgt := 16) (by decide +kernel) rfl ⟨fun q => absurd q (by decide), fun _ => ?_⟩
  refine v_al (n := 0) (t := 100001 + n) hx hb rfl rfl (by decide +kernel) ?_
  refine r_sgv hx hb hts hown hE hn (by decide +kernel) ?_
  refine v_il (n := 1) hx hb rfl rfl (by decide +kernel) ?_
  refine s_callS (as := [.inr (.inr (100011 + n)), .inl x]) (r := []) hx hb hml hts hown hE (js_lch hn x0 x1) jk_lch rfl jl_3 rfl (Nat.le_refl 3) (Nat.le_refl 180) (by decide) ⟨Nat.le_refl 0, Nat.le_refl 0⟩ (rs1 (by show iR _; unfold iR; omega)) rfl (by decide +kernel) ?_
  have hna := na_char ⟨(tx_ch n x).toNat, by omega⟩
  rw [show (((tx_ch n x).toNat : Nat) : Int) = tx_ch n x by omega] at hna
  exact r_ret hx hb hr hlocks hna (by decide +kernel) ⟨rfl, rfl⟩
theorem js_can {x : Int} (x0 : 0 ≤ x) (x1 : x ≤ 255) : sMet l G 0 jm_can [.inl x] (some (.inl 1)) := by
  intro fr σ
  have hxR : iR x := by unfold iR; omega
  refine js_open (q := jm_can) (by decide) (fun v hv => by rw [List.mem_singleton.mp hv]; rfl) (Nat.le_refl 1) (ws1 hxR) ?_
  intro p e s m below meth c hx hb hml hr hlocks hts hown hE
  refine v_il (n := 0) hx hb rfl rfl (by decide +kernel) ?_
  refine r_if_lt hx hb (a := 14) (tgt := 15) (by decide +kernel) rfl ⟨fun q => absurd q (by omega), fun _ => ?_⟩
  refine v_il (n := 0) hx hb rfl rfl (by decide +kernel) ?_
  refine r_sipush hx hb (a := 255) (by decide +kernel) (by decide +kernel) (by unfold iR; omega) ?_
  refine r_icmp_gt hx hb (a := 7) (tgt := 15) (by decide +kernel) rfl ⟨fun q => absurd q (by omega), fun _ => ?_⟩
  refine r_iconst hx hb (a := 1) (by decide +kernel) (by unfold iR; omega) ?_
  refine r_goto hx hb (a := 4) (tgt := 16) (by decide +kernel) rfl ?_
  exact r_ret hx hb hr hlocks (by decide +kernel) (by decide +kernel) ⟨rfl, rfl⟩
theorem drop_c {l b : List Int} {x : Int} {k : Nat} (h : l.drop k = x :: b) : k < l.length ∧ l.getD k 0 = x ∧ l.drop (k + 1) = b := by
  have hk : k < l.length := by
    rcases Nat.lt_or_ge k l.length with z | z
    · exact z
    · rw [List.drop_eq_nil_iff.mpr z] at h
      cases h
  rw [List.drop_eq_getElem_cons hk] at h
  simp only [List.cons.injEq] at h
  refine ⟨hk, ?_, h.2⟩
  rw [List.getD_eq_getElem?_getD, List.getElem?_eq_getElem hk]
  exact h.1
theorem js_iocL {Q : dR → dS → Prop} {x cb : Int} (hcb : ∀ b ∈ tx_t 0, (b = cb ↔ b = x)) (hx : p.tables.exec = Jvm.exec) (hb : c.code = jm_ioc.2.1) (hr : meth.sig.returnType = some .int) (hlocks : meth.locks = false) (hE : dEv G s s.heap) : ∀ (b : List Int) (k : Nat), k + b.length = 9 → (tx_t 0).drop k = b → Q (.inl (some (.inl (tx_ixF x b k)))) σ → VW p l e R s m args below meth c (vx_MQ below (dQc G fr Q) (dXC G fr Q) args s 0 0 (rg G)) G fr 6 7 (0, 0) [some (.inr (.inr 100011)), some (.inl x), some (.inl 0), some (.inl 9), some (.inl cb), some (.inl (k : Int))] [] σ
  | [], k, hk, hd, hq => by
    simp only [List.length_nil] at hk
    refine v_ilw (i := 5) hx hb rfl (by decide +kernel) ?_
    refine v_il (n := 3) hx hb rfl rfl (by decide +kernel) ?_
    refine r_icmp_ge hx hb (a := 21) (tgt := 31) (by decide +kernel) rfl ⟨fun _ => ?_, fun q => absurd q (by omega)⟩
    refine r_iconst hx hb (a := -1) (by decide +kernel) (by unfold iR; omega) ?_
    exact r_ret hx hb hr hlocks rfl (by decide +kernel) hq
  | w :: b, k, hk, hd, hq => by
    simp only [List.length_cons] at hk
    obtain ⟨d1, d2, d3⟩ := drop_c hd
    have hl9 : tx_len 0 = 9 := by decide +kernel
    have hmem := tx_mem (n := 0) (x := (k : Int)) (by omega) (by omega)
    have hch : tx_ch 0 (k : Int) = w := by
      unfold tx_ch
      rw [Int.toNat_natCast]
      exact d2
    refine v_ilw (i := 5) hx hb rfl (by decide +kernel) ?_
    refine v_il (n := 3) hx hb rfl rfl (by decide +kernel) ?_
    refine r_icmp_ge hx hb (a := 21) (tgt := 31) (by decide +kernel) rfl ⟨fun q => absurd q (by omega), fun _ => ?_⟩
    refine v_al (n := 0) (t := 100011) hx hb rfl rfl (by decide +kernel) ?_
    refine v_ilw (i := 5) hx hb rfl (by decide +kernel) ?_
    refine r_sba (n := 0) (x := (k : Int)) hx hb hE (by decide) (by omega) (by omega) (by decide +kernel) ?_
    refine v_ilw (i := 4) hx hb rfl (by decide +kernel) ?_
    rw [hch] at hmem ⊢
    unfold tx_ixF at hq
    refine r_icmp_ne hx hb (a := 6) (tgt := 25) (by decide +kernel) rfl ⟨fun q => ?_, fun q => ?_⟩
    · rw [if_neg (fun z => q ((hcb w hmem).mpr z))] at hq
      refine r_iinc hx hb (i := 5) (a := 1) (by decide +kernel) ?_
      refine ⟨⟨Nat.le_of_ble_eq_true rfl, Or.inr rfl⟩, ?_⟩
      refine r_goto hx hb (a := -21) (tgt := 7) (by decide +kernel) rfl ?_
      have ew : wr ((k : Int) + 1) = ((k + 1 : Nat) : Int) := by rw [wr_eq (by unfold iR; omega)]; omega
      rw [ew]
      exact js_iocL hcb hx hb hr hlocks hE b (k + 1) (by omega) d3 hq
    · rw [if_pos ((hcb w hmem).mp (Decidable.not_not.mp q))] at hq
      refine v_ilw (i := 5) hx hb rfl (by decide +kernel) ?_
      exact r_ret hx hb hr hlocks rfl (by decide +kernel) hq
theorem js_ioc {x : Int} (x0 : 0 ≤ x) (x1 : x ≤ 255) : sMet l G 0 jm_ioc [.inr (.inr 100011), .inl x, .inl 0, .inl 9] (some (.inl (tx_ix 0 x))) := by
  intro fr σ
  have hxR : iR x := by unfold iR; omega
  have r0 : iR 0 := by unfold iR; omega
  have r9 : iR 9 := by unfold iR; omega
  refine js_open (q := jm_ioc) (by decide) (fun v hv => by simp only [List.mem_cons, List.not_mem_nil, or_false] at hv; rcases hv with h | h | h | h <;> rw [h] <;> rfl) (Nat.le_of_ble_eq_true rfl) (wfs_c trivial (wfs_c hxR (wfs_c r0 (ws1 r9)))) ?_
  intro p e s m below meth c hx hb hml hr hlocks hts hown hE
  refine v_il (n := 1) hx hb rfl rfl (by decide +kernel) ?_
  refine r_i2b hx hb (by decide +kernel) ?_
  refine r_istore hx hb (i := 4) (by decide +kernel) ⟨⟨Nat.le_of_ble_eq_true rfl, Or.inr rfl⟩, ?_⟩
  refine v_il (n := 2) hx hb rfl rfl (by decide +kernel) ?_
  refine r_istore hx hb (i := 5) (by decide +kernel) ⟨⟨Nat.le_of_ble_eq_true rfl, Or.inr rfl⟩, ?_⟩
  have hcb := tx_byte ⟨x.toNat, by omega⟩
  rw [show ((x.toNat : Nat) : Int) = x by omega] at hcb
  exact js_iocL hcb hx hb hr hlocks hE (tx_t 0) 0 (by decide +kernel) rfl ⟨rfl, rfl⟩
theorem r_mmax (hx : p.tables.exec = Jvm.exec) (hb : c.code = cc) (hml : c.maxLocals = nL) (hts : ∀ w ∈ TBg, w.before args s = true) (hown : s.vm.findClass "java/lang/StringLatin1" = some m.cls) (hRf : 1 ≤ R.frames) (hRl : 60 ≤ R.locals) (hu : u.1 ≤ R.cells ∧ u.2 ≤ R.slots) (d : decode cc pc = .ok (.invokestatic 92, 3)) (k : VW p l e R s m args below meth c Qm G fr nL (pc + 3) u ls [.inl 0] σ) : VW p l e R s m args below meth c Qm G fr nL pc u ls [.inl 0, .inl 0] σ := by
  intro hn w1 w2 H locs la hW hS hl
  exact va_mmax hx hb (hml.trans hl.1.symm) hown (hts _ jl_mx) (hts _ jl_smax) (hts _ jl_im) (hts _ jl_cmax) hRf (Nat.le_trans (Nat.le_of_ble_eq_true rfl) hRl) hu.1 hu.2 d (k hn w1 (ws1 (wfs_h w2)) H locs la hW hS hl)
theorem r_mmin (hx : p.tables.exec = Jvm.exec) (hb : c.code = cc) (hml : c.maxLocals = nL) (hts : ∀ w ∈ TBg, w.before args s = true) (hown : s.vm.findClass "java/lang/StringLatin1" = some m.cls) (hRf : 1 ≤ R.frames) (hRl : 60 ≤ R.locals) (hu : u.1 ≤ R.cells ∧ u.2 ≤ R.slots) (d : decode cc pc = .ok (.invokestatic 38, 3)) (k : VW p l e R s m args below meth c Qm G fr nL (pc + 3) u ls [.inl 9] σ) : VW p l e R s m args below meth c Qm G fr nL pc u ls [.inl 9, .inl 9] σ := by
  intro hn w1 w2 H locs la hW hS hl
  exact va_mmin hx hb (hml.trans hl.1.symm) hown (hts _ jl_mn) (hts _ jl_smin) (hts _ jl_im) (hts _ jl_cmin) hRf (Nat.le_trans (Nat.le_of_ble_eq_true rfl) hRl) hu.1 hu.2 d (k hn w1 (ws1 (wfs_h w2)) H locs la hW hS hl)
theorem js_lix {x : Int} (x0 : 0 ≤ x) (x1 : x ≤ 255) : sMet l G 1 jm_lix [.inr (.inr 100011), .inl x, .inl 0, .inl 9] (some (.inl (tx_ix 0 x))) := by
  intro fr σ
  have hxR : iR x := by unfold iR; omega
  have r0 : iR 0 := by unfold iR; omega
  have r9 : iR 9 := by unfold iR; omega
  have hl9 : tx_len 0 = 9 := by decide +kernel
  have hix : ∀ c : Fin 256, -1 ≤ tx_ix 0 ((c.val : Nat) : Int) ∧ tx_ix 0 ((c.val : Nat) : Int) < 9 := by decide +kernel
  have hixR : iR (tx_ix 0 x) := by
    have := hix ⟨x.toNat, by omega⟩
    rw [show ((x.toNat : Nat) : Int) = x by omega] at this
    unfold iR; omega
  refine js_open (q := jm_lix) (by decide) (fun v hv => by simp only [List.mem_cons, List.not_mem_nil, or_false] at hv; rcases hv with h | h | h | h <;> rw [h] <;> rfl) (Nat.le_of_ble_eq_true rfl) (wfs_c trivial (wfs_c hxR (wfs_c r0 (ws1 r9)))) ?_
  intro p e s m below meth c hx hb hml hr hlocks hts hown hE
  refine v_il (n := 1) hx hb rfl rfl (by decide +kernel) ?_
  refine s_callS (as := [.inl x]) (r := []) hx hb hml hts hown hE (js_can x0 x1) jk_can rfl jl_8 rfl (Nat.le_refl 1) (Nat.le_refl 60) (by decide) ⟨Nat.le_refl 0, Nat.le_refl 0⟩ (rs1 (by show iR 1; unfold iR; omega)) rfl (by decide +kernel) ?_
  refine r_if_ne hx hb (a := 5) (tgt := 9) (by decide +kernel) rfl ⟨fun _ => ?_, fun q => absurd q (by decide)⟩
  refine v_il (n := 2) hx hb rfl rfl (by decide +kernel) ?_
  refine r_iconst hx hb (a := 0) (by decide +kernel) r0 ?_
  refine r_mmax hx hb hml hts hown (Nat.le_refl 1) (Nat.le_refl 60) ⟨Nat.le_refl 0, Nat.le_refl 0⟩ (by decide +kernel) ?_
  refine r_istore_n hx hb (n := 2) rfl (by decide +kernel) ⟨⟨Nat.le_of_ble_eq_true rfl, Or.inr rfl⟩, ?_⟩
  refine v_il (n := 3) hx hb rfl rfl (by decide +kernel) ?_
  refine v_al (n := 0) (t := 100011) hx hb rfl rfl (by decide +kernel) ?_
  refine r_sal (n := 0) hx hb hE (by decide) (by decide +kernel) ?_
  rw [hl9]
  refine r_mmin hx hb hml hts hown (Nat.le_refl 1) (Nat.le_refl 60) ⟨Nat.le_refl 0, Nat.le_refl 0⟩ (by decide +kernel) ?_
  refine r_istore_n hx hb (n := 3) rfl (by decide +kernel) ⟨⟨Nat.le_of_ble_eq_true rfl, Or.inr rfl⟩, ?_⟩
  refine v_il (n := 2) hx hb rfl rfl (by decide +kernel) ?_
  refine v_il (n := 3) hx hb rfl rfl (by decide +kernel) ?_
  refine r_icmp_lt hx hb (a := 5) (tgt := 29) (by decide +kernel) rfl ⟨fun _ => ?_, fun q => absurd q (by decide)⟩
  refine v_al (n := 0) (t := 100011) hx hb rfl rfl (by decide +kernel) ?_
  refine v_il (n := 1) hx hb rfl rfl (by decide +kernel) ?_
  refine v_il (n := 2) hx hb rfl rfl (by decide +kernel) ?_
  refine v_il (n := 3) hx hb rfl rfl (by decide +kernel) ?_
  refine s_callS (as := [.inr (.inr 100011), .inl x, .inl 0, .inl 9]) (r := []) hx hb hml hts hown hE (js_ioc x0 x1) jk_ioc rfl jl_9 rfl (Nat.le_refl 1) (Nat.le_refl 60) (by decide) ⟨Nat.le_refl 0, Nat.le_refl 0⟩ (rs1 hixR) rfl (by decide +kernel) ?_
  exact r_ret hx hb hr hlocks rfl (by decide +kernel) ⟨rfl, rfl⟩
theorem tx_ixR {x : Int} (x0 : 0 ≤ x) (x1 : x ≤ 255) : iR (tx_ix 0 x) := by
  have hix : ∀ c : Fin 256, -1 ≤ tx_ix 0 ((c.val : Nat) : Int) ∧ tx_ix 0 ((c.val : Nat) : Int) < 9 := by decide +kernel
  have := hix ⟨x.toNat, by omega⟩
  rw [show ((x.toNat : Nat) : Int) = x by omega] at this
  unfold iR; omega
theorem js_six {x : Int} (x0 : 0 ≤ x) (x1 : x ≤ 255) : sMet l G 2 jm_six [.inr (.inr 100001), .inl x, .inl 0] (some (.inl (tx_ix 0 x))) := by
  intro fr σ
  have hxR : iR x := by unfold iR; omega
  have r0 : iR 0 := by unfold iR; omega
  have hl9 : tx_len 0 = 9 := by decide +kernel
  refine js_open (q := jm_six) (by decide) (fun v hv => by simp only [List.mem_cons, List.not_mem_nil, or_false] at hv; rcases hv with h | h | h <;> rw [h] <;> rfl) (Nat.le_of_ble_eq_true rfl) (wfs_c trivial (wfs_c hxR (ws1 r0))) ?_
  intro p e s m below meth c hx hb hml hr hlocks hts hown hE
  refine v_al (n := 0) (t := 100001) hx hb rfl rfl (by decide +kernel) ?_
  refine s_callV (as := []) (r := []) (n := 0) hx hb hml hts hown hE (by decide) (js_isl (by decide)) jk_isl rfl rfl jl_2 rfl (Nat.le_of_ble_eq_true rfl) (Nat.le_of_ble_eq_true rfl) (by decide) ⟨Nat.le_refl 0, Nat.le_refl 0⟩ (rs1 (by show iR 1; unfold iR; omega)) rfl (by decide +kernel) ?_
  refine r_if_eq hx hb (a := 19) (tgt := 23) (by decide +kernel) rfl ⟨fun q => absurd q (by decide), fun _ => ?_⟩
  refine v_al (n := 0) (t := 100001) hx hb rfl rfl (by decide +kernel) ?_
  refine r_sgv (n := 0) hx hb hts hown hE (by decide) (by decide +kernel) ?_
  refine v_il (n := 1) hx hb rfl rfl (by decide +kernel) ?_
  refine v_il (n := 2) hx hb rfl rfl (by decide +kernel) ?_
  refine v_al (n := 0) (t := 100001) hx hb rfl rfl (by decide +kernel) ?_
  refine s_callV (as := []) (r := [.inl 0, .inl x, .inr (.inr 100011)]) (n := 0) hx hb hml hts hown hE (by decide) (js_len (by decide)) jk_len rfl rfl jl_6 rfl (Nat.le_of_ble_eq_true rfl) (Nat.le_of_ble_eq_true rfl) (Nat.le_of_ble_eq_true rfl) ⟨Nat.le_refl 0, Nat.le_refl 0⟩ (rs1 (tx_lenR (by decide))) rfl (by decide +kernel) ?_
  rw [hl9]
  refine s_callS (as := [.inr (.inr 100011), .inl x, .inl 0, .inl 9]) (r := []) hx hb hml hts hown hE (js_lix x0 x1) jk_lix rfl jl_7 rfl (Nat.le_refl 2) (Nat.le_refl 120) (by decide) ⟨Nat.le_refl 0, Nat.le_refl 0⟩ (rs1 (tx_ixR x0 x1)) rfl (by decide +kernel) ?_
  refine r_goto hx hb (a := 16) (tgt := 36) (by decide +kernel) rfl ?_
  exact r_ret hx hb hr hlocks rfl (by decide +kernel) ⟨rfl, rfl⟩
theorem js_sx1 {x : Int} (x0 : 0 ≤ x) (x1 : x ≤ 255) : sMet l G 3 jm_sx1 [.inr (.inr 100001), .inl x] (some (.inl (tx_ix 0 x))) := by
  intro fr σ
  have hxR : iR x := by unfold iR; omega
  have r0 : iR 0 := by unfold iR; omega
  refine js_open (q := jm_sx1) (by decide) (fun v hv => by simp only [List.mem_cons, List.not_mem_nil, or_false] at hv; rcases hv with h | h <;> rw [h] <;> rfl) (Nat.le_of_ble_eq_true rfl) (wfs_c trivial (ws1 hxR)) ?_
  intro p e s m below meth c hx hb hml hr hlocks hts hown hE
  refine v_al (n := 0) (t := 100001) hx hb rfl rfl (by decide +kernel) ?_
  refine v_il (n := 1) hx hb rfl rfl (by decide +kernel) ?_
  refine r_iconst hx hb (a := 0) (by decide +kernel) r0 ?_
  refine s_callV (as := [.inl x, .inl 0]) (r := []) (n := 0) hx hb hml hts hown hE (by decide) (js_six x0 x1) jk_six rfl rfl jl_10 rfl (Nat.le_refl 3) (Nat.le_refl 180) (by decide) ⟨Nat.le_refl 0, Nat.le_refl 0⟩ (rs1 (tx_ixR x0 x1)) rfl (by decide +kernel) ?_
  exact r_ret hx hb hr hlocks rfl (by decide +kernel) ⟨rfl, rfl⟩
/-! the items -/
theorem r_ldt (hx : p.tables.exec = Jvm.exec) (hb : c.code = cc) (hown : s.vm.findClass "WingTrams$Tokens" = some m.cls) {n b : Nat} {tx : String} (hZ : vk_R "WingTrams$Tokens" b tx (G.2.1 (1 + n)) s) (d : decode cc pc = .ok (.ldc b, 2)) (k : VW p l e R s m args below meth c Qm G fr nL (pc + 2) u ls (.inr (.inr (100001 + n)) :: st) σ) : VW p l e R s m args below meth c Qm G fr nL pc u ls st σ := by
  intro hn w1 w2 H locs la hW hS hl
  have := k hn w1 (wfs_c trivial w2) H locs la hW hS hl
  have e9 : (.inr (.inr (100001 + n)) :: st : List dX).map (dv G) = .ref (G.2.1 (1 + n)) :: st.map (dv G) := by
    rw [← adr_tk (G := G) (n := n)]; rfl
  rw [e9] at this
  exact va_ldcS hx hb hown hZ d this
variable {B : Nat × Nat}
theorem e_tln (hx : p.tables.exec = Jvm.exec) (hb : c.code = cc) (hml : c.maxLocals = nL) (hts : ∀ w ∈ TBg, w.before args s = true) (hown : s.vm.findClass "WingTrams$Tokens" = some m.cls) (hE : dEv G s s.heap) (hB : B.1 ≤ R.cells ∧ B.2 ≤ R.slots) (hRf : 20 ≤ R.frames) (hRl : 460 ≤ R.locals) (d0 : decode cc pc = .ok (.ldc 69, 2)) (d1 : decode cc (pc + 2) = .ok (.invokevirtual 71, 3)) (k : s_tln B 1 (VW p l e R s m args below meth c Qm G fr nL (pc + 5)) u ls st σ) : VW p l e R s m args below meth c Qm G fr nL pc u ls st σ := by
  obtain ⟨k1, k2, k3, k⟩ := k
  refine r_ldt (n := 1) hx hb hown hE.2.2.2.2.2.2.1.2 d0 ?_
  exact s_callV (as := []) (r := st) (n := 1) hx hb hml hts hown hE (by decide) (js_len (by decide)) jk_len rfl rfl jl_11 rfl (Nat.le_trans (Nat.le_of_ble_eq_true rfl) hRf) (Nat.le_trans (Nat.le_of_ble_eq_true rfl) hRl) k1 ⟨Nat.le_trans k2 hB.1, Nat.le_trans k3 hB.2⟩ (rs1 (tx_lenR (by decide))) rfl d1 k
theorem e_tch {b : Nat} (hx : p.tables.exec = Jvm.exec) (hb : c.code = cc) (hml : c.maxLocals = nL) (hts : ∀ w ∈ TBg, w.before args s = true) (hown : s.vm.findClass "WingTrams$Tokens" = some m.cls) (hE : dEv G s s.heap) (hB : B.1 ≤ R.cells ∧ B.2 ≤ R.slots) (hRf : 20 ≤ R.frames) (hRl : 460 ≤ R.locals) (d0 : decode cc pc = .ok (.ldc 69, 2)) (d1 : decode cc (pc + 2) = .ok (.iload b, 2)) (d2 : decode cc (pc + 4) = .ok (.invokevirtual 75, 3)) (k : s_tch B 1 b (VW p l e R s m args below meth c Qm G fr nL (pc + 7)) u ls st σ) : VW p l e R s m args below meth c Qm G fr nL pc u ls st σ := by
  unfold s_tch at k
  split at k
  · rename_i x hv
    obtain ⟨k1, k2, k3, k4, k5, k⟩ := k
    obtain ⟨⟨b0, b1⟩, -⟩ := tx_char 1 (by decide) _ (tx_mem k4 k5)
    refine r_ldt (n := 1) hx hb hown hE.2.2.2.2.2.2.1.2 d0 ?_
    refine v_ilw hx hb hv d1 ?_
    exact s_callV (as := [.inl x]) (r := st) (n := 1) hx hb hml hts hown hE (by decide) (js_sch (by decide) k4 k5) jk_sch rfl rfl jl_12 rfl (Nat.le_trans (Nat.le_of_ble_eq_true rfl) hRf) (Nat.le_trans (Nat.le_of_ble_eq_true rfl) hRl) k1 ⟨Nat.le_trans k2 hB.1, Nat.le_trans k3 hB.2⟩ (rs1 (by show iR _; unfold iR; omega)) rfl d2 k
  · exact k.elim
theorem e_tix {b : Nat} (hx : p.tables.exec = Jvm.exec) (hb : c.code = cc) (hml : c.maxLocals = nL) (hts : ∀ w ∈ TBg, w.before args s = true) (hown : s.vm.findClass "WingTrams$Tokens" = some m.cls) (hE : dEv G s s.heap) (hB : B.1 ≤ R.cells ∧ B.2 ≤ R.slots) (hRf : 20 ≤ R.frames) (hRl : 460 ≤ R.locals) (d0 : decode cc pc = .ok (.ldc 58, 2)) (d1 : decode cc (pc + 2) = .ok (.iload b, 2)) (d2 : decode cc (pc + 4) = .ok (.i2c, 1)) (d3 : decode cc (pc + 5) = .ok (.invokevirtual 60, 3)) (k : s_tix B 0 b (VW p l e R s m args below meth c Qm G fr nL (pc + 8)) u ls st σ) : VW p l e R s m args below meth c Qm G fr nL pc u ls st σ := by
  unfold s_tix at k
  split at k
  · rename_i x hv
    obtain ⟨k1, k2, k3, k4, k5, k⟩ := k
    have ec : ∀ c : Fin 256, i2c ((c.val : Nat) : Int) = ((c.val : Nat) : Int) := by decide +kernel
    have ec := ec ⟨x.toNat, by omega⟩
    rw [show ((x.toNat : Nat) : Int) = x by omega] at ec
    refine r_ldt (n := 0) hx hb hown hE.2.2.2.2.2.2.1.1 d0 ?_
    refine v_ilw hx hb hv d1 ?_
    refine r_i2c hx hb d2 ?_
    show VW _ _ _ _ _ _ _ _ _ _ _ _ _ _ _ _ _ (.inl (i2c x) :: _) _
    rw [ec]
    exact s_callV (as := [.inl x]) (r := st) (n := 0) hx hb hml hts hown hE (by decide) (js_sx1 k4 k5) jk_sx1 rfl rfl jl_13 rfl (Nat.le_trans (Nat.le_of_ble_eq_true rfl) hRf) (Nat.le_trans (Nat.le_of_ble_eq_true rfl) hRl) k1 ⟨Nat.le_trans k2 hB.1, Nat.le_trans k3 hB.2⟩ (rs1 (tx_ixR k4 k5)) rfl d3 k
  · exact k.elim
end JDK
