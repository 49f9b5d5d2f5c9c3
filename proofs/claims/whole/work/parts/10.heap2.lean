/-! THE ROWS of stores in fields, of arrays, of making -/
theorem spl_small : spl.all (fun s => match s with | .inr (_, fs) => decide (fs.length ≤ 1000) | .inl (n, _) => decide (n ≤ 100000)) = true := by decide +kernel
theorem spx_fs {t ci : Nat} {fs : List Nat} (h : spx t = some (.inr (ci, fs))) : fs.length ≤ 1000 := by
  have := List.all_eq_true.mp spl_small _ (List.mem_of_getElem? h)
  simpa using this
theorem spx_n {t n kd : Nat} (h : spx t = some (.inl (n, kd))) : n ≤ 100000 := by
  have := List.all_eq_true.mp spl_small _ (List.mem_of_getElem? h)
  simpa using this
theorem nz_b {x : Int} (h : x = 0 ∨ x = 1) : narrow .boolean (.int (Int32.ofInt x)) = .int (Int32.ofInt x) ∧ fits .boolean (.int (Int32.ofInt x)) = true := by
  rcases h with rfl | rfl
  · exact ⟨by decide +kernel, by decide +kernel⟩
  · exact ⟨by decide +kernel, by decide +kernel⟩
section DR4
variable {p : Program} {l : Launch} {e : Env} {R : Room} {s : State} {m : MethodId} {args : Array Value} {below : List Frame} {meth : Method} {c : Code} {Qm : State → Prop} {G : dG} {fr : Bool} {nL pc : Nat} {cc : ByteArray} {u : Nat × Nat} {ls : dL} {st : List dX} {σ : dS}
theorem r_putf (hx : p.tables.exec = Jvm.exec) (hb : c.code = cc) (hts : ∀ w ∈ TBg, w.before args s = true) {own : String} (hown : s.vm.findClass own = some m.cls) (hK : va_K G.2.2.1 vwCl (dT G) s) {b ci j z : Nat} {fin : Bool} (ok : okP own b ci j z fin) (hin : fin = true → meth.name = "<init>") (d : decode cc pc = .ok (.putfield b, 3)) (k : s_putf fr ci j z (VW p l e R s m args below meth c Qm G fr nL (pc + 3)) u ls st σ) : VW p l e R s m args below meth c Qm G fr nL pc u ls st σ := by
  intro hn w1 w2 H locs la hW hS hl
  unfold s_putf at k
  split at k
  · rename_i v t r
    split at k
    · rename_i c0 fs hs
      obtain ⟨rfl, hT, k⟩ := k
      have hlen := spx_fs hs
      have hzt := ok
      obtain ⟨q0, ty0, hq0, hty0, -, -, -, -, -, hz0⟩ := hzt
      split at k
      · rename_i x h0
        obtain ⟨hz, k⟩ := k
        have hj1 : j < 1000 := Nat.lt_of_lt_of_le (List.getElem?_eq_some_iff.mp h0).1 hlen
        refine q_put hx hb hts hown hK ok hin d hW hS hs hT h0 (σ' := up σ t j x) (v := .int (Int32.ofInt x)) (by rw [up_same]; rfl) ?_ up_rowN (fun i h1 h2 => ⟨up_ne σ (fun q => h1 (by have := q.2; omega)), up_ne σ (fun q => by have := q.2; omega)⟩) (up_R hW.2.1 (wfs_h w2)) hlen (fun H1 locs1 hW1 hS1 => k hn w1 (wfs_t (wfs_t w2)) H1 locs1 la hW1 hS1 hl)
        intro q ty hq hty
        rw [hty0] at hty
        cases hty
        rcases hz0 with ⟨hz1, h9⟩ | ⟨hz1, h9⟩ | ⟨hz1, h9⟩ | ⟨hz1, h9⟩
        · rw [h9]; exact ⟨rfl, rfl⟩
        · rw [h9]
          rcases hz with hz | hz
          · omega
          · exact nz_b hz.2
        · omega
        · omega
      · rename_i x h0
        obtain ⟨hz, hx2, k⟩ := k
        have hj1 : j < 1000 := Nat.lt_of_lt_of_le (List.getElem?_eq_some_iff.mp h0).1 hlen
        have e2 : ∀ i : Int, i ≠ (j : Int) + 1000 → up (up σ t j (lo32 x)) t ((j : Int) + 1000) (hi32 x) t i = up σ t j (lo32 x) t i := fun i hi => up_ne _ (fun q => hi q.2)
        refine q_put hx hb hts hown hK ok hin d hW hS hs hT h0 (σ' := up (up σ t j (lo32 x)) t ((j : Int) + 1000) (hi32 x)) (v := .long (Int64.ofInt x)) ?_ ?_ (fun k' hk' => (up_row hk').trans (up_row hk')) (fun i h1 h2 => ⟨(e2 i (by omega)).trans (up_ne σ (fun q => h1 (by have := q.2; omega))), (e2 _ (by omega)).trans (up_ne σ (fun q => by have := q.2; omega))⟩) (up_R (up_R hW.2.1 (wr_R x)) (hi_R hx2)) hlen (fun H1 locs1 hW1 hS1 => k hn w1 (wfs_t (wfs_t w2)) H1 locs1 la hW1 hS1 hl)
        · rw [e2 j (by omega), up_same, up_same]
          show Value.long (Int64.ofInt x) = .long (Int64.ofInt (lo32 x + 4294967296 * hi32 x))
          rw [lohi]
        · intro q ty hq hty
          rw [hty0] at hty
          cases hty
          rcases hz0 with ⟨hz1, h9⟩ | ⟨hz1, h9⟩ | ⟨hz1, h9⟩ | ⟨hz1, h9⟩
          · omega
          · omega
          · rw [h9]; exact ⟨rfl, rfl⟩
          · omega
      · rename_i q2 q' h0
        obtain ⟨hz, hf, rfl, k⟩ := k
        have hj1 : j < 1000 := Nat.lt_of_lt_of_le (List.getElem?_eq_some_iff.mp h0).1 hlen
        refine q_put hx hb hts hown hK ok hin d hW hS hs hT h0 (σ' := up σ t j 1) (v := .ref (adr G q')) ?_ ?_ up_rowN (fun i h1 h2 => ⟨up_ne σ (fun q => h1 (by have := q.2; omega)), up_ne σ (fun q => by have := q.2; omega)⟩) (up_R hW.2.1 (by unfold iR; omega)) hlen (fun H1 locs1 hW1 hS1 => k hn w1 (wfs_t (wfs_t w2)) H1 locs1 la hW1 hS1 hl)
        · rw [up_same]
          show _ = (if fr = true ∧ (1 : Int) ≠ 1 then Value.null else .ref (adr G q'))
          rw [if_neg (fun z => z.2 rfl)]
        · intro q ty hq hty
          rw [hty0] at hty
          cases hty
          rcases hz0 with ⟨hz1, h9⟩ | ⟨hz1, h9⟩ | ⟨hz1, h9⟩ | ⟨hz1, h9⟩
          · omega
          · omega
          · omega
          · exact h9 _
      · exact k.elim
    · exact k.elim
  · exact k.elim
theorem ent_i {G : dG} {fr : Bool} {f : Int → Int} {n : Nat} : ent G fr f (.inl (n, 0)) = .inl (G.2.2.2.1, n, .inl (fun i => Int32.ofInt (f i))) := rfl
theorem ent_z {G : dG} {fr : Bool} {f : Int → Int} {n : Nat} : ent G fr f (.inl (n, 1)) = .inl (G.2.2.2.2.1, n, .inl (fun i => Int32.ofInt (f i))) := rfl
theorem ent_l {G : dG} {fr : Bool} {f : Int → Int} {n : Nat} : ent G fr f (.inl (n, 2)) = .inl (G.2.2.2.2.2, n, .inr (.inl (fun i => Int64.ofInt (f i + 4294967296 * f (-1 - i))))) := rfl
theorem cl_in {i : Int} {n : Nat} (h0 : 0 ≤ i) (h1 : i < n) (hn : n ≤ 100000) : vp_in (Int32.ofInt i) n ∧ ((Int32.ofInt i).toNatClampNeg : Int) = i := by
  refine ⟨oi_in h0 h1 (by omega), ?_⟩
  rw [oi_cl h0 h1 (by omega)]
  omega
theorem r_iald (hx : p.tables.exec = Jvm.exec) (hb : c.code = cc) (hK : va_K G.2.2.1 vwCl (dT G) s) (d : decode cc pc = .ok (.iaload, 1)) (k : s_ald fr 0 (VW p l e R s m args below meth c Qm G fr nL (pc + 1)) u ls st σ) : VW p l e R s m args below meth c Qm G fr nL pc u ls st σ := by
  intro hn w1 w2 H locs la hW hS hl
  unfold s_ald at k
  split at k
  · rename_i i t r
    split at k
    · rename_i n kd hs
      obtain ⟨rfl, hT, h0, h1, k⟩ := k
      have he := hW.cell (isT_lt hT hs) hs
      rw [ent_i] at he
      obtain ⟨c1, c2⟩ := cl_in h0 h1 (spx_n hs)
      have k := k hn w1 (wfs_c (v := .inl _) (hW.2.1 t i) (wfs_t (wfs_t w2))) H locs la hW hS hl
      show W p l e R s m args below meth c H locs u.1 u.2 Qm (F0 m pc la (.int (Int32.ofInt i) :: .ref (adr G t) :: r.map (dv G)))
      rw [adr_spx hs]
      refine va_iald hx hb hK hW.1 t 0 he rfl c1 d ?_
      rw [c2]
      exact k
    · exact k.elim
  · exact k.elim
theorem r_zald (hx : p.tables.exec = Jvm.exec) (hb : c.code = cc) (hK : va_K G.2.2.1 vwCl (dT G) s) (d : decode cc pc = .ok (.baload, 1)) (k : s_ald fr 1 (VW p l e R s m args below meth c Qm G fr nL (pc + 1)) u ls st σ) : VW p l e R s m args below meth c Qm G fr nL pc u ls st σ := by
  intro hn w1 w2 H locs la hW hS hl
  unfold s_ald at k
  split at k
  · rename_i i t r
    split at k
    · rename_i n kd hs
      obtain ⟨rfl, hT, h0, h1, k⟩ := k
      have he := hW.cell (isT_lt hT hs) hs
      rw [ent_z] at he
      obtain ⟨c1, c2⟩ := cl_in h0 h1 (spx_n hs)
      have k := k hn w1 (wfs_c (v := .inl _) (hW.2.1 t i) (wfs_t (wfs_t w2))) H locs la hW hS hl
      show W p l e R s m args below meth c H locs u.1 u.2 Qm (F0 m pc la (.int (Int32.ofInt i) :: .ref (adr G t) :: r.map (dv G)))
      rw [adr_spx hs]
      refine va_zald hx hb hK hW.1 t 1 he rfl c1 d ?_
      rw [c2]
      exact k
    · exact k.elim
  · exact k.elim
theorem r_lald (hx : p.tables.exec = Jvm.exec) (hb : c.code = cc) (hfr : fr = false) (hK : va_K G.2.2.1 vwCl (dT G) s) (d : decode cc pc = .ok (.laload, 1)) (k : s_lald (VW p l e R s m args below meth c Qm G fr nL (pc + 1)) u ls st σ) : VW p l e R s m args below meth c Qm G fr nL pc u ls st σ := by
  intro hn w1 w2 H locs la hW hS hl
  unfold s_lald at k
  split at k
  · rename_i i t r
    split at k
    · rename_i n kd hs
      obtain ⟨rfl, h0, h1, k⟩ := k
      have he := hW.cell (isT_lt (fun q => by rw [hfr] at q; cases q) hs) hs
      rw [ent_l] at he
      obtain ⟨c1, c2⟩ := cl_in h0 h1 (spx_n hs)
      have k := k hn w1 (wfs_c (v := .inr (.inl _)) (wrL_R _) (wfs_t (wfs_t w2))) H locs la hW hS hl
      have k : W p l e R s m args below meth c H locs u.1 u.2 Qm (F0 m (pc + 1) la (.long (Int64.ofInt (wrL (σ t i + 4294967296 * σ t (-1 - i)))) :: r.map (dv G))) := k
      show W p l e R s m args below meth c H locs u.1 u.2 Qm (F0 m pc la (.int (Int32.ofInt i) :: .ref (adr G t) :: r.map (dv G)))
      rw [adr_spx hs]
      refine va_lald hx hb hK hW.1 t 2 he rfl c1 d ?_
      rw [c2]
      rw [ol_wr] at k
      exact k
    · exact k.elim
  · exact k.elim
theorem r_alen (hx : p.tables.exec = Jvm.exec) (hb : c.code = cc) (hK : va_K G.2.2.1 vwCl (dT G) s) (d : decode cc pc = .ok (.arraylength, 1)) (hkd : ∀ t n kd, spx t = some (.inl (n, kd)) → kd ≤ 2) (k : s_alen fr (VW p l e R s m args below meth c Qm G fr nL (pc + 1)) u ls st σ) : VW p l e R s m args below meth c Qm G fr nL pc u ls st σ := by
  intro hn w1 w2 H locs la hW hS hl
  unfold s_alen at k
  split at k
  · rename_i t r
    split at k
    · rename_i n kd hs
      obtain ⟨hT, k⟩ := k
      have he := hW.cell (isT_lt hT hs) hs
      have hn2 := spx_n hs
      have k := k hn w1 (wfs_c (v := .inl _) (by unfold wfx iR; omega) (wfs_t w2)) H locs la hW hS hl
      have ev : Int32.ofNat n = Int32.ofInt (n : Int) := by
        apply Int32.toInt_inj.mp
        rw [ti_oi (by unfold iR; omega)]
        exact nI_toInt (n := n) (by omega)
      show W p l e R s m args below meth c H locs u.1 u.2 Qm (F0 m pc la (.ref (adr G t) :: r.map (dv G)))
      rw [adr_spx hs]
      have h2 := hkd t n kd hs
      rcases (show kd = 0 ∨ kd = 1 ∨ kd = 2 by omega) with rfl | rfl | rfl
      · exact va_alen hx hb hK hW.1 t 0 he rfl ev d k
      · exact va_alen hx hb hK hW.1 t 1 he rfl ev d k
      · exact va_alen hx hb hK hW.1 t 2 he rfl ev d k
    · exact k.elim
  · exact k.elim
theorem arr_up {f g : Nat → Int32} {k : Nat} {x : Int32} {n : Nat} {cA : ClassId} (h : ∀ j, g j = if j = k then x else f j) : (vp_cell cA (n, .inl f)).setSlot k (.int x) = vp_cell cA (n, .inl g) := by
  rw [vp_cell_i, vp_cell_i, arrV_store]
  congr 1
  funext q
  rw [h q]
  by_cases hq : q = k
  · subst hq; simp [updV]
  · simp [updV, hq]
theorem r_iast (hx : p.tables.exec = Jvm.exec) (hb : c.code = cc) (hK : va_K G.2.2.1 vwCl (dT G) s) (d : decode cc pc = .ok (.iastore, 1)) (k : s_ast fr 0 (VW p l e R s m args below meth c Qm G fr nL (pc + 1)) u ls st σ) : VW p l e R s m args below meth c Qm G fr nL pc u ls st σ := by
  intro hn w1 w2 H locs la hW hS hl
  unfold s_ast at k
  split at k
  · rename_i x i t r
    split at k
    · rename_i n kd hs
      obtain ⟨rfl, hT, h0, h1, -, k⟩ := k
      have hk := isT_lt hT hs
      have he := hW.cell hk hs
      rw [ent_i] at he
      obtain ⟨c1, c2⟩ := cl_in h0 h1 (spx_n hs)
      show W p l e R s m args below meth c H locs u.1 u.2 Qm (F0 m pc la (.int (Int32.ofInt x) :: .int (Int32.ofInt i) :: .ref (adr G t) :: r.map (dv G)))
      rw [adr_spx hs]
      refine W.iast hx hb (hW.1 t _ he) ((hK.2 0 _ rfl).1 n (fun j => .int (Int32.ofInt (σ t j)))) (fun q => by cases q) (by show ¬ (_ ∨ (arrV _ _ _).slots.size ≤ _); rw [arrV_size]; exact c1) rfl rfl d fun H1 e1 z1 o1 => ?_
      refine k hn w1 (wfs_t (wfs_t (wfs_t w2))) H1 _ la (hW.upd hk hs up_rowN (up_R hW.2.1 (wfs_h w2)) ?_ z1) (hS.put z1 o1 (Nat.le_add_right _ _)) hl
      refine hW.1.set wl_D he ?_ o1
      rw [ent_i]
      show H1[G.1 + t]? = some (vp_cell _ _)
      rw [e1]
      congr 1
      refine arr_up (fun j => ?_)
      by_cases hj : j = (Int32.ofInt i).toNatClampNeg
      · rw [if_pos hj, hj, c2, up_same]
      · rw [if_neg hj, up_ne σ (fun q => hj (by have := q.2; omega))]
    · exact k.elim
  · exact k.elim
theorem r_zast (hx : p.tables.exec = Jvm.exec) (hb : c.code = cc) (hK : va_K G.2.2.1 vwCl (dT G) s) (d : decode cc pc = .ok (.bastore, 1)) (k : s_ast fr 1 (VW p l e R s m args below meth c Qm G fr nL (pc + 1)) u ls st σ) : VW p l e R s m args below meth c Qm G fr nL pc u ls st σ := by
  intro hn w1 w2 H locs la hW hS hl
  unfold s_ast at k
  split at k
  · rename_i x i t r
    split at k
    · rename_i n kd hs
      obtain ⟨rfl, hT, h0, h1, hz, k⟩ := k
      have hk := isT_lt hT hs
      have he := hW.cell hk hs
      rw [ent_z] at he
      obtain ⟨c1, c2⟩ := cl_in h0 h1 (spx_n hs)
      show W p l e R s m args below meth c H locs u.1 u.2 Qm (F0 m pc la (.int (Int32.ofInt x) :: .int (Int32.ofInt i) :: .ref (adr G t) :: r.map (dv G)))
      rw [adr_spx hs]
      refine W.zast hx hb (hW.1 t _ he) ((hK.2 1 _ rfl).1 n (fun j => .int (Int32.ofInt (σ t j)))) (fun q => by cases q) (by show ¬ (_ ∨ (arrV _ _ _).slots.size ≤ _); rw [arrV_size]; exact c1) rfl rfl d fun H1 e1 z1 o1 => ?_
      rw [(nz_b (hz rfl)).1] at e1
      refine k hn w1 (wfs_t (wfs_t (wfs_t w2))) H1 _ la (hW.upd hk hs up_rowN (up_R hW.2.1 (wfs_h w2)) ?_ z1) (hS.put z1 o1 (Nat.le_add_right _ _)) hl
      refine hW.1.set wl_D he ?_ o1
      rw [ent_z]
      show H1[G.1 + t]? = some (vp_cell _ _)
      rw [e1]
      congr 1
      refine arr_up (fun j => ?_)
      by_cases hj : j = (Int32.ofInt i).toNatClampNeg
      · rw [if_pos hj, hj, c2, up_same]
      · rw [if_neg hj, up_ne σ (fun q => hj (by have := q.2; omega))]
    · exact k.elim
  · exact k.elim
end DR4
