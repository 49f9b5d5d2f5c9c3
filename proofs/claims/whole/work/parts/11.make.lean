/-! THE ROWS of longs in arrays, of Object's constructor, of making -/
theorem arr_upL {f g : Nat → Int64} {k : Nat} {x : Int64} {n : Nat} {cA : ClassId} (h : ∀ j, g j = if j = k then x else f j) : (vp_cell cA (n, .inr (.inl f))).setSlot k (.long x) = vp_cell cA (n, .inr (.inl g)) := by
  rw [vp_cell_l, vp_cell_l, arrV_store]
  congr 1
  funext q
  rw [h q]
  by_cases hq : q = k
  · subst hq; simp [updV]
  · simp [updV, hq]
/-- a new cell at the world's end -/
theorem Wd.push {G : dG} {σ : dS} {H H1 : Heap} {n : Nat} {sh : dSh} (h : Wd G true σ H) (hn : (σ 1000000 0).toNat = n) (hs : spx n = some sh) (hz : H1.size = H.size + 1) (ho : ∀ q : Nat, q < H.size → H1[q]? = H[q]?) (hc : va_at G.2.2.1 vwCl (H.size, ent G true (fun _ => 0) sh) H1) : Wd G true (up σ 1000000 0 ((n : Int) + 1)) H1 := by
  obtain ⟨h1, h2, h3, h4, h5⟩ := h
  have e0 : nOf true σ = n := by unfold nOf; rw [if_pos rfl]; exact hn
  rw [e0] at h1 h3 h4 h5
  obtain ⟨h6, h7⟩ := h5 rfl
  have hlt := spx_lt hs
  have e1 : nOf true (up σ 1000000 0 ((n : Int) + 1)) = n + 1 := by
    unfold nOf
    rw [if_pos rfl, up_same]
    omega
  have hrow : ∀ k, k < 1000000 → up σ 1000000 0 ((n : Int) + 1) k = σ k := fun k hk => up_row (by omega)
  have hn6 : n < 1000000 := Nat.lt_of_lt_of_le hlt (by decide)
  have hz0 : σ n = fun _ => 0 := by
    funext i
    exact h7 n (Nat.le_refl _) hn6 i
  have hent : entK G true (up σ 1000000 0 ((n : Int) + 1)) n = (H.size, ent G true (fun _ => 0) sh) := by
    unfold entK
    rw [hrow n hn6, hs, hz0, h6]
    rfl
  refine ⟨?_, up_R h2 (by have : n < 198 := hlt; unfold iR; omega), by rw [e1]; exact hlt, by rw [e1, hz]; omega, fun _ => ⟨by rw [e1, hz]; omega, fun k hk hk6 i => ?_⟩⟩
  · rw [e1, wl_succ, hent, ← wl_congr (σ := σ) (fun k hk => (hrow k (by omega)).symm)]
    refine (h1.kept (fun k q hk => ho q.1 (h1 k q hk).lt)).app (fun k q hk => ?_)
    have hk0 : k < 1 := (List.getElem?_eq_some_iff.mp hk).1
    rw [show k = 0 by omega] at hk
    cases hk
    exact hc
  · rw [e1] at hk
    rw [hrow k hk6]
    exact h7 k (by omega) hk6 i
section DR5
variable {p : Program} {l : Launch} {e : Env} {R : Room} {s : State} {m : MethodId} {args : Array Value} {below : List Frame} {meth : Method} {c : Code} {Qm : State → Prop} {G : dG} {fr : Bool} {nL pc : Nat} {cc : ByteArray} {u : Nat × Nat} {ls : dL} {st : List dX} {σ : dS}
theorem r_last (hx : p.tables.exec = Jvm.exec) (hb : c.code = cc) (hfr : fr = false) (hK : va_K G.2.2.1 vwCl (dT G) s) (d : decode cc pc = .ok (.lastore, 1)) (k : s_last (VW p l e R s m args below meth c Qm G fr nL (pc + 1)) u ls st σ) : VW p l e R s m args below meth c Qm G fr nL pc u ls st σ := by
  intro hn w1 w2 H locs la hW hS hl
  unfold s_last at k
  split at k
  · rename_i x i t r
    split at k
    · rename_i n kd hs
      obtain ⟨rfl, h0, h1, hx2, k⟩ := k
      have hk := isT_lt (fr := fr) (σ := σ) (t := t) (fun q => by rw [hfr] at q; cases q) hs
      have he := hW.cell hk hs
      rw [ent_l] at he
      obtain ⟨c1, c2⟩ := cl_in h0 h1 (spx_n hs)
      show W p l e R s m args below meth c H locs u.1 u.2 Qm (F0 m pc la (.long (Int64.ofInt x) :: .int (Int32.ofInt i) :: .ref (adr G t) :: r.map (dv G)))
      rw [adr_spx hs]
      refine W.last hx hb (hW.1 t _ he) ((hK.2 2 _ rfl).1 n (fun j => .long (Int64.ofInt (σ t j + 4294967296 * σ t (-1 - j))))) (fun q => by cases q) (by show ¬ (_ ∨ (arrV _ _ _).slots.size ≤ _); rw [arrV_size]; exact c1) rfl rfl d fun H1 e1 z1 o1 => ?_
      refine k hn w1 (wfs_t (wfs_t (wfs_t w2))) H1 _ la (hW.upd hk hs (fun k' hk' => (up_row hk').trans (up_row hk')) (up_R (up_R hW.2.1 (wr_R x)) (hi_R hx2)) ?_ z1) (hS.put z1 o1 (Nat.le_add_right _ _)) hl
      refine hW.1.set wl_D he ?_ o1
      rw [ent_l]
      show H1[G.1 + t]? = some (vp_cell _ _)
      rw [e1]
      congr 1
      refine arr_upL (fun j => ?_)
      by_cases hj : j = (Int32.ofInt i).toNatClampNeg
      · rw [if_pos hj, hj, c2, up_ne _ (fun q => by have := q.2; omega), up_same, up_same, lohi]
      · rw [if_neg hj, up_ne _ (fun q => by have := q.2; omega), up_ne _ (fun q => hj (by have := q.2; omega)), up_ne _ (fun q => hj (by have := q.2; omega)), up_ne _ (fun q => by have := q.2; omega)]
    · exact k.elim
  · exact k.elim
theorem dv_cats (G : dG) (v : List dX) : (v.map (dv G)).map (fun v => v.category) = v.map (fun x => if c1 x = true then 1 else 2) := by
  rw [List.map_map]
  apply List.map_congr_left
  intro x _
  rcases x with x | x | t <;> rfl
theorem wt_sum : ∀ v : List dX, (v.map (fun x => if c1 x = true then 1 else 2)).sum = wt v
  | [] => rfl
  | a :: v => by simp only [List.map_cons, List.sum_cons, wt, wt_sum v]
theorem r_objI (hx : p.tables.exec = Jvm.exec) (hb : c.code = cc) (hml : c.maxLocals = nL) {own : String} (hown : s.vm.findClass own = some m.cls) {b : Nat} (h1 : (Cond.methodLink own b Lib.objectInit).before args s = true) (h2 : (Cond.instanceMethod Lib.objectInit).before args s = true) (h3 : (Cond.code Lib.objectInit ⟨#[0xb1]⟩ 1 none).before args s = true) (hRf : 1 ≤ R.frames) (hRl : 100 ≤ R.locals) (d : decode cc pc = .ok (.invokespecial b, 3)) (k : s_objI (VW p l e R s m args below meth c Qm G fr nL (pc + 3)) u ls st σ) : VW p l e R s m args below meth c Qm G fr nL pc u ls st σ := by
  intro hn w1 w2 H locs la hW hS hl
  unfold s_objI at k
  split at k
  · rename_i t r
    refine W.objInit hx hb hown h1 h2 h3 rfl (hl.1.trans hml.symm) rfl d hRf ?_ (k.2 hn w1 (wfs_t w2) H locs la hW hS hl)
    rw [dv_cats, wt_sum]
    have := k.1
    show 2 * 0 + _ + 12 ≤ _
    omega
  · exact k.elim
end DR5
