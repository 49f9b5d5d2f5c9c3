/-! THE CHECK: items against the bytes of a method; what the tables owe an item -/
def dcd (cc : ByteArray) (pc : Nat) (i : Instr) (n : Nat) : Bool := decide (decode cc pc = .ok (i, n))
def rngI (a : Int) : Bool := decide (-2147483648 ≤ a) && decide (a < 2147483648)
def jmp (pcs : List Nat) (pc : Nat) (a : Int) (lb : Nat) : Bool := match pcs[lb]? with
  | some t => decide ((pc : Int) + a = (t : Int))
  | none => false
def jmps (pcs : List Nat) (pc : Nat) : List Int → List Nat → Bool
  | [], [] => true
  | o :: os, lb :: tl => jmp pcs pc o lb && jmps pcs pc os tl
  | _, _ => false
def jmpL (pcs : List Nat) (pc : Nat) : List (Int × Int) → List Nat → Bool
  | [], [] => true
  | (k, o) :: os, a :: lb :: tl => decide (k = (a : Int)) && (jmp pcs pc o lb && jmpL pcs pc os tl)
  | _, _ => false
def chkT (cc : ByteArray) (pcs : List Nat) (pc : Nat) (a : Int) (b : Nat) (tl : List Nat) : Bool := match decode cc pc with
  | .ok (.tableswitch d lo hi offs, _) => decide (lo = a) && (decide (hi = a + (tl.length : Int) - 1) && (rngI a && (rngI hi && (jmp pcs pc d b && jmps pcs pc offs.toList tl))))
  | _ => false
def chkL (cc : ByteArray) (pcs : List Nat) (pc : Nat) (b : Nat) (tl : List Nat) : Bool := match decode cc pc with
  | .ok (.lookupswitch d ps, _) => (ps.toList.zip (ps.toList.drop 1)).all (fun (a, next) => a.1 < next.1) && (jmp pcs pc d b && jmpL pcs pc ps.toList tl)
  | _ => false
/-- 'new; dup; ldc; <init>; athrow': tl = [class, new's index, the text's, <init>'s, 0 ldc 1 ldc_w] -/
def chkX (cc : ByteArray) (pc : Nat) (tl : List Nat) : Bool := dcd cc pc (.new (n0 tl 1)) 3 && (dcd cc (pc + 3) .dup 1 && (if n0 tl 4 = 0
  then dcd cc (pc + 4) (.ldc (n0 tl 2)) 2 && (dcd cc (pc + 6) (.invokespecial (n0 tl 3)) 3 && dcd cc (pc + 9) .athrow 1)
  else dcd cc (pc + 4) (.ldc_w (n0 tl 2)) 3 && (dcd cc (pc + 7) (.invokespecial (n0 tl 3)) 3 && dcd cc (pc + 10) .athrow 1)))
def aTy : Nat → ArrayType
  | 0 => .int
  | 1 => .boolean
  | _ => .long
def chkI (cc : ByteArray) (pcs : List Nat) (pc op : Nat) (a : Int) (b : Nat) (tl : List Nat) : Bool := match op with
  | 0 => dcd cc pc (.iconst a) 1 && rngI a
  | 1 => dcd cc pc (.bipush a) 2 && (decide ((Int8.ofInt a).toInt32 = Int32.ofInt a) && rngI a)
  | 2 => dcd cc pc (.sipush a) 3 && (decide ((Int16.ofInt a).toInt32 = Int32.ofInt a) && rngI a)
  | 3 => dcd cc pc (.ldc b) 2 && rngI a
  | 4 => dcd cc pc (.ldc_w b) 3 && rngI a
  | 5 => dcd cc pc (.iload b) 2
  | 6 => if h : b < 4 then dcd cc pc (.iload_n ⟨b, h⟩) 1 else false
  | 7 => dcd cc pc (.aload b) 2
  | 8 => if h : b < 4 then dcd cc pc (.aload_n ⟨b, h⟩) 1 else false
  | 9 => dcd cc pc (.lload b) 2
  | 10 => if h : b < 4 then dcd cc pc (.lload_n ⟨b, h⟩) 1 else false
  | 11 => dcd cc pc (.istore b) 2
  | 12 => if h : b < 4 then dcd cc pc (.istore_n ⟨b, h⟩) 1 else false
  | 13 => dcd cc pc (.astore b) 2
  | 14 => if h : b < 4 then dcd cc pc (.astore_n ⟨b, h⟩) 1 else false
  | 15 => dcd cc pc (.lstore b) 2
  | 16 => if h : b < 4 then dcd cc pc (.lstore_n ⟨b, h⟩) 1 else false
  | 17 => dcd cc pc (.iinc b a) 3
  | 18 => dcd cc pc .iadd 1
  | 19 => dcd cc pc .isub 1
  | 20 => dcd cc pc .imul 1
  | 21 => dcd cc pc .idiv 1
  | 22 => dcd cc pc .irem 1
  | 23 => dcd cc pc .ineg 1
  | 24 => dcd cc pc .ishl 1
  | 25 => dcd cc pc .ishr 1
  | 26 => dcd cc pc .iushr 1
  | 27 => dcd cc pc .iand 1
  | 28 => dcd cc pc .ior 1
  | 29 => dcd cc pc .ixor 1
  | 30 => dcd cc pc .i2l 1
  | 32 => dcd cc pc .i2c 1
  | 33 => dcd cc pc .lcmp 1
  | 34 => if a = 0 then dcd cc pc (.lconst 0) 1 else if a = 1 then dcd cc pc (.lconst 1) 1 else false
  | 35 => dcd cc pc .ladd 1
  | 36 => dcd cc pc .lsub 1
  | 37 => dcd cc pc .lshl 1
  | 38 => dcd cc pc .lor 1
  | 39 => dcd cc pc (.ldc2_w b) 3 && rngI a
  | 40 => dcd cc pc .dup 1
  | 41 => dcd cc pc .pop 1
  | 42 => dcd cc pc .dup2 1
  | 43 => dcd cc pc (.goto a) 3 && jmp pcs pc a b
  | 44 => dcd cc pc (.ifCond .eq a) 3 && jmp pcs pc a b
  | 45 => dcd cc pc (.ifCond .ne a) 3 && jmp pcs pc a b
  | 46 => dcd cc pc (.ifCond .lt a) 3 && jmp pcs pc a b
  | 47 => dcd cc pc (.ifCond .ge a) 3 && jmp pcs pc a b
  | 48 => dcd cc pc (.ifCond .gt a) 3 && jmp pcs pc a b
  | 49 => dcd cc pc (.ifCond .le a) 3 && jmp pcs pc a b
  | 50 => dcd cc pc (.if_icmp .eq a) 3 && jmp pcs pc a b
  | 51 => dcd cc pc (.if_icmp .ne a) 3 && jmp pcs pc a b
  | 52 => dcd cc pc (.if_icmp .lt a) 3 && jmp pcs pc a b
  | 53 => dcd cc pc (.if_icmp .ge a) 3 && jmp pcs pc a b
  | 54 => dcd cc pc (.if_icmp .gt a) 3 && jmp pcs pc a b
  | 55 => dcd cc pc (.if_icmp .le a) 3 && jmp pcs pc a b
  | 56 => dcd cc pc (.getfield b) 3
  | 57 => dcd cc pc (.putfield b) 3
  | 58 => dcd cc pc .iaload 1
  | 59 => dcd cc pc .iastore 1
  | 60 => dcd cc pc .baload 1
  | 61 => dcd cc pc .bastore 1
  | 62 => dcd cc pc .laload 1
  | 63 => dcd cc pc .lastore 1
  | 64 => dcd cc pc .arraylength 1
  | 65 => dcd cc pc (.invokevirtual b) 3
  | 66 => dcd cc pc (.invokestatic b) 3
  | 67 => dcd cc pc (.invokespecial b) 3
  | 68 => dcd cc pc (.invokespecial b) 3
  | 69 => dcd cc pc (.new b) 3
  | 70 => dcd cc pc (.newarray (aTy (n0 tl 0))) 2 && decide (n0 tl 0 ≤ 2)
  | 71 => dcd cc pc .ireturn 1
  | 72 => dcd cc pc .lreturn 1
  | 73 => dcd cc pc .return_ 1
  | 74 => chkT cc pcs pc a b tl
  | 75 => chkL cc pcs pc b tl
  | 76 => chkX cc pc tl
  | 78 => match pcs[b]? with | some t => decide (t = pc) | none => false
  | 79 => dcd cc pc (.putfield b) 3
  | 84 => dcd cc pc (.ldc (n0 tl 1)) 2 && dcd cc (pc + 2) (.invokevirtual (n0 tl 2)) 3
  | 85 => dcd cc pc (.ldc (n0 tl 1)) 2 && (dcd cc (pc + 2) (.iload b) 2 && dcd cc (pc + 4) (.invokevirtual (n0 tl 2)) 3)
  | 86 => dcd cc pc (.ldc (n0 tl 1)) 2 && (dcd cc (pc + 2) (.iload b) 2 && (dcd cc (pc + 4) .i2c 1 && dcd cc (pc + 5) (.invokevirtual (n0 tl 2)) 3))
  | _ => false
def lenI (op : Nat) : Nat := match op with
  | 1 => 2
  | 2 => 3
  | 3 => 2
  | 4 => 3
  | 5 => 2
  | 7 => 2
  | 9 => 2
  | 11 => 2
  | 13 => 2
  | 15 => 2
  | 17 => 3
  | 39 => 3
  | 43 => 3
  | 44 => 3
  | 45 => 3
  | 46 => 3
  | 47 => 3
  | 48 => 3
  | 49 => 3
  | 50 => 3
  | 51 => 3
  | 52 => 3
  | 53 => 3
  | 54 => 3
  | 55 => 3
  | 56 => 3
  | 57 => 3
  | 65 => 3
  | 66 => 3
  | 67 => 3
  | 68 => 3
  | 69 => 3
  | 70 => 2
  | 79 => 3
  | 84 => 5
  | 85 => 7
  | 86 => 8
  | _ => 1
def chk (cc : ByteArray) (pcs : List Nat) : Nat → List dI → Bool
  | _, [] => true
  | pc, (op, a, b, tl) :: is => chkI cc pcs pc op a b tl && chk cc pcs (pc + lenI op) is
/-- what the tables owe an item of a method of own, that returns ret (init: a constructor) -/
def okI (own : String) (ret : Option FieldType) (init : Bool) (fr : Bool) (op : Nat) (a : Int) (b : Nat) (tl : List Nat) : Prop := match op with
  | 3 => Cond.constant own b (Int32.ofInt a) ∈ TBg
  | 4 => Cond.constant own b (Int32.ofInt a) ∈ TBg
  | 39 => Cond.constantLong own b (Int64.ofInt a) ∈ TBg
  | 56 => okF own b (n0 tl 0) (n0 tl 1)
  | 57 => okP own b (n0 tl 0) (n0 tl 1) (n0 tl 2) false
  | 79 => init = true ∧ okP own b (n0 tl 0) (n0 tl 1) (n0 tl 2) true
  | 62 => fr = false
  | 63 => fr = false
  | 65 => ∃ q : dM, MT[n0 tl 0]? = some q ∧ okK own b tl 0 q ∧ q.2.2.2.2.2.2.2 = fr ∧ n0 tl 2 ≠ 999
  | 66 => ∃ q : dM, MT[n0 tl 0]? = some q ∧ okK own b tl 1 q ∧ q.2.2.2.2.2.2.2 = fr
  | 67 => ∃ q : dM, MT[n0 tl 0]? = some q ∧ okK own b tl 2 q ∧ q.2.2.2.2.2.2.2 = fr
  | 68 => Cond.methodLink own b Lib.objectInit ∈ TBg ∧ Cond.instanceMethod Lib.objectInit ∈ TBg ∧ Cond.code Lib.objectInit ⟨#[0xb1]⟩ 1 none ∈ TBg
  | 69 => okN own b (n0 tl 0) (n0 tl 1)
  | 70 => Cond.arrayClass (newarray.typeOf (aTy (n0 tl 0))) ∈ TBg
  | 71 => n0 tl 0 = 0 ∧ ret = some .int ∨ n0 tl 0 = 1 ∧ ret = some .boolean
  | 72 => ret = some .long
  | 73 => ret = none
  | 76 => fr = false ∧ own = "WingTrams" ∧ ∃ tx : String, (own, n0 tl 2, tx) ∈ STs ∧ (n0 tl 0 = 0 ∧ n0 tl 1 = 203 ∧ n0 tl 3 = 207 ∨ n0 tl 0 = 1 ∧ n0 tl 1 = 112 ∧ n0 tl 3 = 116)
  | 84 => own = "WingTrams$Tokens" ∧ tl = [1, 69, 71]
  | 85 => own = "WingTrams$Tokens" ∧ tl = [1, 69, 75]
  | 86 => own = "WingTrams$Tokens" ∧ tl = [0, 58, 60]
  | _ => True
theorem rngI_R {a : Int} (h : rngI a = true) : iR a := by
  unfold rngI at h
  simp only [Bool.and_eq_true, decide_eq_true_eq] at h
  exact h
theorem jmp_at {pcs : List Nat} {pc : Nat} {a : Int} {lb : Nat} (h : jmp pcs pc a lb = true) : ∃ t, pcs[lb]? = some t ∧ (pc : Int) + a = (t : Int) := by
  unfold jmp at h
  split at h
  · rename_i t ht
    exact ⟨t, ht, by simpa using h⟩
  · cases h
theorem dcd_at {cc : ByteArray} {pc : Nat} {i : Instr} {n : Nat} (h : dcd cc pc i n = true) : decode cc pc = .ok (i, n) := by
  unfold dcd at h
  simpa using h
section DSW
variable {p : Program} {l : Launch} {e : Env} {R : Room} {s : State} {m : MethodId} {args : Array Value} {below : List Frame} {meth : Method} {c : Code} {Qm : State → Prop} {G : dG} {fr : Bool} {nL pc : Nat} {cc : ByteArray} {u : Nat × Nat} {ls : dL} {st : List dX} {σ : dS} {pcs : List Nat} {P : Nat → dK}
theorem swT_in {d : Nat} {x : Int} {r : List dX} : ∀ (tl : List Nat) (a : Int), swT P d x u ls r σ a tl → (x < a ∨ a + (tl.length : Int) - 1 < x → P d u ls r σ) ∧ (∀ (j : Nat) (lb : Nat), tl[j]? = some lb → x = a + (j : Int) → P lb u ls r σ)
  | [], a, h => ⟨fun _ => h, fun j lb hj => by simp at hj⟩
  | lb0 :: tl, a, h => by
    obtain ⟨h1, h2⟩ := h
    refine ⟨fun hx => ?_, fun j lb hj hx => ?_⟩
    · have hne : ¬ x = a := by
        simp only [List.length_cons] at hx
        omega
      exact (swT_in tl (a + 1) (h2 hne)).1 (by simp only [List.length_cons] at hx; omega)
    · cases j with
      | zero =>
        simp only [List.getElem?_cons_zero, Option.some.injEq] at hj
        subst hj
        exact h1 (by omega)
      | succ j =>
        rw [List.getElem?_cons_succ] at hj
        exact (swT_in tl (a + 1) (h2 (by omega))).2 j lb hj (by omega)
theorem jmps_at : ∀ (os : List Int) (tl : List Nat), jmps pcs pc os tl = true → os.length = tl.length ∧ ∀ (j : Nat) (o : Int), os[j]? = some o → ∃ lb t, tl[j]? = some lb ∧ pcs[lb]? = some t ∧ (pc : Int) + o = (t : Int)
  | [], [], _ => ⟨rfl, fun j o h => by simp at h⟩
  | [], _ :: _, h => by simp [jmps] at h
  | _ :: _, [], h => by simp [jmps] at h
  | o :: os, lb :: tl, h => by
    simp only [jmps, Bool.and_eq_true] at h
    obtain ⟨h1, h2⟩ := h
    obtain ⟨g1, g2⟩ := jmps_at os tl h2
    refine ⟨by simp only [List.length_cons, g1], fun j o' hj => ?_⟩
    cases j with
    | zero =>
      simp only [List.getElem?_cons_zero, Option.some.injEq] at hj
      subst hj
      obtain ⟨t, a1, a2⟩ := jmp_at h1
      exact ⟨lb, t, rfl, a1, a2⟩
    | succ j =>
      rw [List.getElem?_cons_succ] at hj
      obtain ⟨lb', t, a1, a2, a3⟩ := g2 j o' hj
      exact ⟨lb', t, by rw [List.getElem?_cons_succ]; exact a1, a2, a3⟩
theorem r_tsw (hx : p.tables.exec = Jvm.exec) (hb : c.code = cc) {a : Int} {b : Nat} {tl : List Nat} (hc : chkT cc pcs pc a b tl = true) (hP : ∀ lb t, pcs[lb]? = some t → ∀ u ls st σ, P lb u ls st σ → VW p l e R s m args below meth c Qm G fr nL t u ls st σ) (k : s_tsw P b a tl u ls st σ) : VW p l e R s m args below meth c Qm G fr nL pc u ls st σ := by
  intro hn w1 w2 H locs la hW hS hl
  unfold chkT at hc
  split at hc
  · rename_i d lo hi offs n hd
    simp only [Bool.and_eq_true, decide_eq_true_eq] at hc
    obtain ⟨rfl, rfl, hr1, hr2, hj, hjs⟩ := hc
    unfold s_tsw at k
    split at k
    · rename_i x r
      obtain ⟨k1, k2⟩ := swT_in tl lo k
      have hxR : iR x := wfs_h w2
      have ti := ti_oi hxR
      obtain ⟨t0, j1, j2⟩ := jmp_at hj
      obtain ⟨g1, g2⟩ := jmps_at offs.toList tl hjs
      by_cases ho : x < lo ∨ lo + (tl.length : Int) - 1 < x
      · exact lv_tableOut hx hb hd (by rw [ti]; exact ho) j2 (hP b t0 j1 _ _ _ _ (k1 ho) hn w1 (wfs_t w2) H locs la hW hS hl)
      · have h3 : (x - lo).toNat < offs.toList.length := by rw [g1]; omega
        have h4 := List.getElem?_eq_getElem h3
        obtain ⟨lb, t, a1, a2, a3⟩ := g2 _ _ h4
        have h5 : offs[((Int32.ofInt x).toInt - lo).toNat]? = some offs.toList[(x - lo).toNat] := by rw [ti, ← Array.getElem?_toList]; exact h4
        exact lv_tableIn hx hb hd (by rw [ti]; omega) (by rw [ti]; omega) h5 a3 (hP lb t a2 _ _ _ _ (k2 _ lb a1 (by omega)) hn w1 (wfs_t w2) H locs la hW hS hl)
    · exact k.elim
  · cases hc
theorem swL_in {d : Nat} {x : Int} {r : List dX} : ∀ (os : List (Int × Int)) (tl : List Nat) (dflt : Int), jmpL pcs pc os tl = true → jmp pcs pc dflt d = true → swL P d x u ls r σ tl → ∃ (lb t : Nat), pcs[lb]? = some t ∧ (pc : Int) + Op.lookupswitch.offset os dflt x = (t : Int) ∧ P lb u ls r σ
  | [], [], dflt, _, hd, h => by
    obtain ⟨t, a1, a2⟩ := jmp_at hd
    exact ⟨d, t, a1, a2, h⟩
  | [], _ :: _, _, h, _, _ => by simp [jmpL] at h
  | (_, _) :: _, [], _, h, _, _ => by simp [jmpL] at h
  | (_, _) :: _, [_], _, h, _, _ => by simp [jmpL] at h
  | (kk, o) :: os, a :: lb :: tl, dflt, h, hd, hs => by
    simp only [jmpL, Bool.and_eq_true, decide_eq_true_eq] at h
    obtain ⟨rfl, h1, h2⟩ := h
    obtain ⟨s1, s2⟩ := hs
    by_cases hxa : x = (a : Int)
    · obtain ⟨t, a1, a2⟩ := jmp_at h1
      refine ⟨lb, t, a1, ?_, s1 hxa⟩
      rw [show Op.lookupswitch.offset (((a : Int), o) :: os) dflt x = o from by simp [Op.lookupswitch.offset, hxa]]
      exact a2
    · obtain ⟨lb', t, a1, a2, a3⟩ := swL_in os tl dflt h2 hd (s2 hxa)
      refine ⟨lb', t, a1, ?_, a3⟩
      rw [show Op.lookupswitch.offset (((a : Int), o) :: os) dflt x = Op.lookupswitch.offset os dflt x from by
        have : ¬ (a : Int) = x := fun q => hxa q.symm
        simp [Op.lookupswitch.offset, this, hxa]]
      exact a2
theorem r_lsw (hx : p.tables.exec = Jvm.exec) (hb : c.code = cc) {b : Nat} {tl : List Nat} (hc : chkL cc pcs pc b tl = true) (hP : ∀ lb t, pcs[lb]? = some t → ∀ u ls st σ, P lb u ls st σ → VW p l e R s m args below meth c Qm G fr nL t u ls st σ) (k : s_lsw P b tl u ls st σ) : VW p l e R s m args below meth c Qm G fr nL pc u ls st σ := by
  intro hn w1 w2 H locs la hW hS hl
  unfold chkL at hc
  split at hc
  · rename_i d ps n hd
    rw [Bool.and_eq_true, Bool.and_eq_true] at hc
    obtain ⟨hp, hj, hjs⟩ := hc
    unfold s_lsw at k
    split at k
    · rename_i x r
      obtain ⟨lb, t, a1, a2, a3⟩ := swL_in ps.toList tl d hjs hj k
      exact lv_lookup hx hb hd hp (by rw [ti_oi (wfs_h w2)]) a2 (hP lb t a1 _ _ _ _ a3 hn w1 (wfs_t w2) H locs la hW hS hl)
    · exact k.elim
  · cases hc
end DSW
