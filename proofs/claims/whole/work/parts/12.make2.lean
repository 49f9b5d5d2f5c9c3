/-! THE ROWS of new cells, of switches -/
/-- of a fresh object: what its fields hold -/
def fv0 : Nat → Value
  | 0 => .int 0
  | 1 => .long 0
  | _ => .null
theorem spl_new : spl.all (fun s => match s with
  | .inr (ci, fs) => (match vwCl[ci]?, vwTy[ci]? with
    | some q, some t => fs.length == q.2.2 && (List.range q.2.2).all (fun j => decide (defaultValue (t j) = fv0 (fs.getD j 0)))
    | _, _ => false)
  | .inl (_, kd) => decide (kd ≤ 2)) = true := by decide +kernel
theorem spx_kd {t n kd : Nat} (h : spx t = some (.inl (n, kd))) : kd ≤ 2 := by
  have := List.all_eq_true.mp spl_new _ (List.mem_of_getElem? h)
  simpa using this
theorem spx_ty {t ci : Nat} {fs : List Nat} (h : spx t = some (.inr (ci, fs))) {q : vw_C} {ty : Nat → FieldType} (hq : vwCl[ci]? = some q) (ht : vwTy[ci]? = some ty) : fs.length = q.2.2 ∧ ∀ j, j < q.2.2 → defaultValue (ty j) = fv0 (fs.getD j 0) := by
  have h1 := List.all_eq_true.mp spl_new _ (List.mem_of_getElem? h)
  simp only [hq, ht, Bool.and_eq_true, beq_iff_eq, List.all_eq_true, List.mem_range, decide_eq_true_eq] at h1
  exact h1
theorem fv_0 (G : dG) (c : Nat) : fv G true 0 0 c = fv0 c := by
  match c with
  | 0 => rfl
  | 1 => rfl
  | t + 2 =>
    show (if true = true ∧ (0 : Int) ≠ 1 then Value.null else .ref (adr G t)) = .null
    rw [if_pos ⟨rfl, by omega⟩]
/-- what the tables say of 'new' by b of own's pool -/
def okN (own : String) (b ci N : Nat) : Prop := ∃ (q : vw_C) (t : Nat → FieldType), vwCl[ci]? = some q ∧ vwTy[ci]? = some t ∧ okC q t ∧ q.2.2 = N ∧ Cond.classLink own b q.1 ∈ TBg
section DR6
variable {p : Program} {l : Launch} {e : Env} {R : Room} {s : State} {m : MethodId} {args : Array Value} {below : List Frame} {meth : Method} {c : Code} {Qm : State → Prop} {G : dG} {fr : Bool} {nL pc : Nat} {cc : ByteArray} {u : Nat × Nat} {ls : dL} {st : List dX} {σ : dS}
theorem Wd.sz {H : Heap} (h : Wd G true σ H) : H.size = G.1 + (σ 1000000 0).toNat := by
  have := (h.2.2.2.2 rfl).1
  unfold nOf at this
  rw [if_pos rfl] at this
  exact this
theorem va_S.more {A : Nat → Prop} {H0 H H1 : Heap} {locs : List Loc} (h : va_S A H0 H locs) (z : H1.size = H.size + 1) (o : ∀ q : Nat, q < H.size → H1[q]? = H[q]?) : va_S A H0 H1 locs :=
  ⟨Nat.le_trans h.1 (by omega), fun x h1 h2 => (o x (Nat.lt_of_lt_of_le h1 h.1)).trans (h.2.1 x h1 h2), h.2.2⟩
theorem r_newa {B : Nat × Nat} {kind : Nat} {aty : ArrayType} (hx : p.tables.exec = Jvm.exec) (hb : c.code = cc) (hts : ∀ w ∈ TBg, w.before args s = true) (hK : va_K G.2.2.1 vwCl (dT G) s) (hkd : kind = 0 ∧ aty = .int ∨ kind = 1 ∧ aty = .boolean ∨ kind = 2 ∧ aty = .long) (hw : Cond.arrayClass (newarray.typeOf aty) ∈ TBg) (hB : B.1 ≤ R.cells ∧ B.2 ≤ R.slots) (d : decode cc pc = .ok (.newarray aty, 2)) (k : s_newa fr B kind (VW p l e R s m args below meth c Qm G fr nL (pc + 2)) u ls st σ) : VW p l e R s m args below meth c Qm G fr nL pc u ls st σ := by
  intro hn w1 w2 H locs la hW hS hl
  unfold s_newa at k
  split at k
  · rename_i x r
    split at k
    · rename_i n kd hs
      obtain ⟨rfl, rfl, rfl, hn1, hb1, hb2, k⟩ := k
      have hz := hW.sz
      have hlt := spx_lt hs
      have e0 : ¬ Int32.ofInt (n : Int) < 0 := by
        intro q
        have := (oi_lt (x := (n : Int)) (y := 0) (by unfold iR; omega) iR_0).mp q
        omega
      have e1 : (Int32.ofInt (n : Int)).toNatClampNeg = n := by
        show (Int32.ofInt (n : Int)).toInt.toNat = n
        rw [ti_oi (by unfold iR; omega)]
        omega
      have hby : n * componentBytes (newarray.typeOf aty) ≤ 536870912 := by
        rcases hkd with ⟨-, rfl⟩ | ⟨-, rfl⟩ | ⟨-, rfl⟩
        · show n * 4 ≤ _; omega
        · show n * 1 ≤ _; omega
        · show n * 8 ≤ _; omega
      refine va_newaK hx hb (hts _ hw) rfl d rfl e0 e1 hby (by omega) (by omega) rfl fun H1 cA g1 g2 g3 hAr hNm => ?_
      have hcell : va_at G.2.2.1 vwCl (H.size, ent G true (fun _ => 0) (.inl (n, kd))) H1 := by
        have nm : ∀ (i : Nat) (q : ClassId × FieldType), (dT G)[i]? = some q → newarray.typeOf aty = q.2 → (∀ C, q.2 ≠ .object C) → cA = q.1 := by
          intro i q hq ht hC
          have h9 := (hK.2 i q hq).2
          unfold va_RA at h9
          rw [ht] at hNm
          have h10 : s.vm.findClass ("[" ++ q.2.toString) = some q.1 := by
            cases hq2 : q.2 with
            | object C => exact absurd hq2 (hC C)
            | _ => rw [hq2] at h9; exact h9
          exact Option.some.inj (hNm.symm.trans h10)
        rcases hkd with ⟨rfl, rfl⟩ | ⟨rfl, rfl⟩ | ⟨rfl, rfl⟩
        · have := nm 0 _ rfl rfl (fun C h => by cases h)
          subst this
          exact g1
        · have := nm 1 _ rfl rfl (fun C h => by cases h)
          subst this
          exact g1
        · have := nm 2 _ rfl rfl (fun C h => by cases h)
          subst this
          exact g1
      have hW1 := hW.push rfl hs g2 g3 hcell
      have k := k hn w1 (wfs_c (v := .inr (.inr _)) trivial (wfs_t w2)) H1 locs la hW1 (hS.more g2 g3) hl
      have ea : H.size = adr G (σ 1000000 0).toNat := by rw [adr_spx hs]; exact hz
      show W p l e R s m args below meth c H1 locs (u.1 + 1) (u.2 + n) Qm (F0 m (pc + 2) la (.ref H.size :: r.map (dv G)))
      rw [ea]
      exact k
    · exact k.elim
  · exact k.elim
theorem r_new {B : Nat × Nat} {own : String} {b ci N : Nat} (hx : p.tables.exec = Jvm.exec) (hb : c.code = cc) (hts : ∀ w ∈ TBg, w.before args s = true) (hown : s.vm.findClass own = some m.cls) (hK : va_K G.2.2.1 vwCl (dT G) s) (ok : okN own b ci N) (hB : B.1 ≤ R.cells ∧ B.2 ≤ R.slots) (d : decode cc pc = .ok (.new b, 3)) (k : s_new fr B ci N (VW p l e R s m args below meth c Qm G fr nL (pc + 3)) u ls st σ) : VW p l e R s m args below meth c Qm G fr nL pc u ls st σ := by
  intro hn w1 w2 H locs la hW hS hl
  obtain ⟨q, ty, hq, hqt, okc, hN, hlink⟩ := ok
  unfold s_new at k
  split at k
  · rename_i c0 fs hs
    obtain ⟨rfl, rfl, hb1, hb2, k⟩ := k
    have hz := hW.sz
    obtain ⟨ht1, ht2⟩ := spx_ty hs hq hqt
    have hKn := hK.1 _ _ hq
    refine W.newcK hx hb hown (hts _ hlink) (hts _ okc.2.2.2.2.1) (hts _ okc.2.2.2.2.2) rfl d (by omega) (by rw [hN]; omega) hKn.2.1 rfl fun H1 kC hkC g1 g2 g3 => ?_
    have hcell : va_at G.2.2.1 vwCl (H.size, ent G true (fun _ => 0) (.inr (c0, fs))) H1 := by
      refine ⟨_, hq, (u_born ty hts okc.1 hKn hkC g1 okc.2.1).to (fun j hj => ?_)⟩
      have hj2 : j < fs.length := by rw [ht1]; exact hj
      have h1 := fvs_get G true (fun _ => 0) fs 0 j _ (List.getElem?_eq_getElem hj2)
      show defaultValue (ty j) = vp_V (fvs G true (fun _ => 0) fs 0) j
      unfold vp_V
      rw [List.getD_eq_getElem?_getD, h1, fv_0, ht2 j hj, List.getD_eq_getElem?_getD, List.getElem?_eq_getElem hj2]
      rfl
    have hW1 := hW.push rfl hs g2 g3 hcell
    have k := k hn w1 (wfs_c (v := .inr (.inr _)) trivial w2) H1 locs la hW1 (hS.more g2 g3) hl
    have ea : H.size = adr G (σ 1000000 0).toNat := by rw [adr_spx hs]; exact hz
    show W p l e R s m args below meth c H1 locs (u.1 + 1) (u.2 + q.2.2) Qm (F0 m (pc + 3) la (.ref H.size :: st.map (dv G)))
    rw [ea, hN]
    exact k
  · exact k.elim
end DR6
