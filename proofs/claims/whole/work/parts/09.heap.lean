/-! THE ROWS of fields and arrays -/
/-- what the tables say of a field that b of own's pool names: field j of class ci -/
def okF (own : String) (b ci j : Nat) : Prop := ∃ (q : vw_C) (t : Nat → FieldType), vwCl[ci]? = some q ∧ vwTy[ci]? = some t ∧ okC q t ∧ j < q.2.2 ∧ Cond.fieldLink own b q.1 (q.2.1 j).2.1 (q.2.1 j).2.2.1 ∈ TBg
/-- .. that may be stored in: z its type, fin whether it is final -/
def okP (own : String) (b ci j z : Nat) (fin : Bool) : Prop := ∃ (q : vw_C) (t : Nat → FieldType), vwCl[ci]? = some q ∧ vwTy[ci]? = some t ∧ okC q t ∧ j < q.2.2 ∧ Cond.fieldLink own b q.1 (q.2.1 j).2.1 (q.2.1 j).2.2.1 ∈ TBg ∧ (q.2.1 j).2.2.2 = fin ∧ (fin = true → q.1 = own) ∧
  (z = 0 ∧ t j = .int ∨ z = 1 ∧ t j = .boolean ∨ z = 2 ∧ t j = .long ∨ z = 3 ∧ ∀ a : Nat, narrow (t j) (.ref a) = .ref a ∧ fits (t j) (.ref a) = true)
theorem isT_lt {fr : Bool} {σ : dS} {t : Nat} {sh : dSh} (h : isT fr σ t) (hs : spx t = some sh) : t < nOf fr σ := by
  unfold nOf
  by_cases hf : fr = true
  · rw [if_pos hf]; exact h hf
  · rw [if_neg hf]; exact spx_lt hs
theorem adr_spx {G : dG} {t : Nat} {sh : dSh} (hs : spx t = some sh) : adr G t = G.1 + t := adr_of (Nat.lt_of_lt_of_le (spx_lt hs) (by decide))
theorem up_R {σ : dS} {k : Nat} {i v : Int} (h : ∀ k i, iR (σ k i)) (hv : iR v) : ∀ k' i', iR (up σ k i v k' i') := by
  intro k' i'
  by_cases hq : k' = k ∧ i' = i
  · rw [hq.1, hq.2, up_same]; exact hv
  · rw [up_ne σ hq]; exact h k' i'
/-- behind a change of one cell, in general -/
theorem Wd.upd {G : dG} {fr : Bool} {σ σ' : dS} {H H1 : Heap} {k : Nat} {sh : dSh} (h : Wd G fr σ H) (hk : k < nOf fr σ) (hs : spx k = some sh) (hrow : ∀ k', k' ≠ k → σ' k' = σ k') (hR : ∀ k i, iR (σ' k i))
    (hP : va_P G.2.2.1 vwCl ((wl G fr σ (nOf fr σ)).set k (G.1 + k, ent G fr (σ' k) sh)) H1) (hz : H1.size = H.size) : Wd G fr σ' H1 := by
  obtain ⟨-, h2, h3, h4, h5⟩ := h
  have hk2 : k < 1000000 := Nat.lt_of_lt_of_le (spx_lt hs) (by decide)
  have hn : nOf fr σ' = nOf fr σ := by unfold nOf; rw [hrow 1000000 (by omega)]
  have e : (wl G fr σ (nOf fr σ)).set k (G.1 + k, ent G fr (σ' k) sh) = wl G fr σ' (nOf fr σ) := by
    have : (G.1 + k, ent G fr (σ' k) sh) = entK G fr σ' k := by
      unfold entK
      rw [hs]
      rfl
    rw [this]
    exact wl_set (fun k' _ hk' => entK_congr (hrow k' hk').symm)
  refine ⟨by rw [hn, ← e]; exact hP, hR, by rw [hn]; exact h3, by rw [hn, hz]; exact h4, fun hf => ⟨by rw [hn, hz]; exact (h5 hf).1, fun k' h6 h7 i' => ?_⟩⟩
  rw [hn] at h6
  rw [hrow k' (by omega)]
  exact (h5 hf).2 k' h6 h7 i'
theorem up_rowN {σ : dS} {k : Nat} {i v : Int} : ∀ k', k' ≠ k → up σ k i v k' = σ k' := fun _ h => up_row h
section DR3
variable {p : Program} {l : Launch} {e : Env} {R : Room} {s : State} {m : MethodId} {args : Array Value} {below : List Frame} {meth : Method} {c : Code} {Qm : State → Prop} {G : dG} {fr : Bool} {nL pc : Nat} {cc : ByteArray} {u : Nat × Nat} {ls : dL} {st : List dX} {σ : dS}
theorem r_getf (hx : p.tables.exec = Jvm.exec) (hb : c.code = cc) (hts : ∀ w ∈ TBg, w.before args s = true) {own : String} (hown : s.vm.findClass own = some m.cls) (hK : va_K G.2.2.1 vwCl (dT G) s) {b ci j : Nat} (ok : okF own b ci j) (d : decode cc pc = .ok (.getfield b, 3)) (k : s_getf fr ci j (VW p l e R s m args below meth c Qm G fr nL (pc + 3)) u ls st σ) : VW p l e R s m args below meth c Qm G fr nL pc u ls st σ := by
  intro hn w1 w2 H locs la hW hS hl
  obtain ⟨q, ty, hq, hty, okc, hj, hlink⟩ := ok
  unfold s_getf at k
  split at k
  · rename_i t r
    split at k
    · rename_i c0 fs hs
      obtain ⟨rfl, hT, k⟩ := k
      have hk := isT_lt hT hs
      have he := hW.cell hk hs
      have go : ∀ v : Value, (fvs G fr (σ t) fs 0)[j]? = some v → W p l e R s m args below meth c H locs u.1 u.2 Qm (F0 m (pc + 3) la (v :: r.map (dv G))) → W p l e R s m args below meth c H locs u.1 u.2 Qm (F0 m pc la (.ref (adr G t) :: r.map (dv G))) := by
        intro v hv kk
        rw [adr_spx hs]
        exact va_get hx hb (own := own) (ref := q.1) (C := q.1) (T := q.2.1) (N := q.2.2) hts okc.1 hown hK hW.1 t he hq j hj (hts _ hlink) (fun x h => by rw [okc.2.2.2.1 j hj] at h; exact h) hv d kk
      have hz : ((0 + j : Nat) : Int) = (j : Int) := by rw [Nat.zero_add]
      split at k
      · rename_i h0
        have hv := fvs_get G fr (σ t) fs 0 j 0 h0
        rw [hz] at hv
        exact go _ hv (k hn w1 (wfs_c (v := .inl _) (hW.2.1 t j) (wfs_t w2)) H locs la hW hS hl)
      · rename_i h0
        have hv := fvs_get G fr (σ t) fs 0 j 1 h0
        rw [hz] at hv
        refine go _ hv ?_
        have k := k hn w1 (wfs_c (v := .inr (.inl _)) (wrL_R _) (wfs_t w2)) H locs la hW hS hl
        have k : W p l e R s m args below meth c H locs u.1 u.2 Qm (F0 m (pc + 3) la (.long (Int64.ofInt (wrL (σ t j + 4294967296 * σ t (j + 1000)))) :: r.map (dv G))) := k
        rw [ol_wr] at k
        exact k
      · rename_i q2 h0
        have hv := fvs_get G fr (σ t) fs 0 j (q2 + 2) h0
        rw [hz] at hv
        refine go _ hv ?_
        have k2 := k.2 hn w1 (wfs_c (v := .inr (.inr q2)) trivial (wfs_t w2)) H locs la hW hS hl
        have e1 : fv G fr (σ t j) (σ t (j + 1000)) (q2 + 2) = .ref (adr G q2) := by
          show (if fr = true ∧ σ t j ≠ 1 then Value.null else .ref (adr G q2)) = _
          rw [if_neg (fun z => z.2 (k.1 z.1))]
        rw [e1]
        exact k2
      · exact k.elim
    · exact k.elim
  · exact k.elim
/-- a store in a field: the machine's row, with the world behind it -/
theorem q_put (hx : p.tables.exec = Jvm.exec) (hb : c.code = cc) (hts : ∀ w ∈ TBg, w.before args s = true) {own : String} (hown : s.vm.findClass own = some m.cls) (hK : va_K G.2.2.1 vwCl (dT G) s) {b ci j z : Nat} {fin : Bool} (ok : okP own b ci j z fin) (hin : fin = true → meth.name = "<init>") (d : decode cc pc = .ok (.putfield b, 3))
    {H : Heap} {locs : List Loc} {la : Array Slot} (hW : Wd G fr σ H) (hS : va_S (rg G) s.heap H locs) {t : Nat} {fs : List Nat} (hs : spx t = some (.inr (ci, fs))) (hT : isT fr σ t) {cd : Nat} (hcd : fs[j]? = some cd) {v : Value} {rest : List Value} {σ' : dS}
    (hv : v = fv G fr (σ' t j) (σ' t (j + 1000)) cd) (hty : ∀ (q : vw_C) (ty : Nat → FieldType), vwCl[ci]? = some q → vwTy[ci]? = some ty → narrow (ty j) v = v ∧ fits (ty j) v = true) (hrow : ∀ k', k' ≠ t → σ' k' = σ k') (hcell : ∀ i : Nat, i ≠ j → i < 1000 → σ' t i = σ t i ∧ σ' t (i + 1000) = σ t (i + 1000)) (hR : ∀ k i, iR (σ' k i)) (hfs : fs.length ≤ 1000)
    (kk : ∀ (H1 : Heap) (locs1 : List Loc), Wd G fr σ' H1 → va_S (rg G) s.heap H1 locs1 → W p l e R s m args below meth c H1 locs1 u.1 u.2 Qm (F0 m (pc + 3) la rest)) :
    W p l e R s m args below meth c H locs u.1 u.2 Qm (F0 m pc la (v :: .ref (adr G t) :: rest)) := by
  obtain ⟨q, ty, hq, hqt, okc, hj, hlink, hfin, hdecl, -⟩ := ok
  have hk := isT_lt hT hs
  have he := hW.cell hk hs
  obtain ⟨hn0, hfit⟩ := hty q ty hq hqt
  have hl : j < (fvs G fr (σ t) fs 0).length := by rw [fvs_len]; exact (List.getElem?_eq_some_iff.mp hcd).1
  have hap := va_apart (own := own) hts okc.1 ty okc.2.1 okc.2.2.1 hK hq
  obtain ⟨r, h1, cell, q1, q2, q3, q4⟩ := hW.1 t _ he
  have hr : r = q := Option.some.inj (h1.symm.trans hq)
  subst hr
  obtain ⟨hSl, hfc, kC, hkC, hkind⟩ := hK.1 ci _ hq
  obtain ⟨cf, kf, fi, f, hi, hsl⟩ := hSl j hj
  have hlay := hts _ (okc.1 _ (u_in_lay hj))
  unfold u_lay at hlay
  have hst := (u_facts hfc hkC (u_lays hts okc.1 hj) hi).1
  have hi2 : s.fieldFound? r.1 (r.2.1 j).2.1 (r.2.1 j).2.2.1 = some (cf, kf, fi, f) := by
    have := hi
    rw [okc.2.2.2.1 j hj] at this
    exact this
  have fin' : ∀ (H1 : Heap), H1[G.1 + t]? = some (cell.setSlot f.slot v) → H1.size = H.size → (∀ q : Nat, q ≠ G.1 + t → H1[q]? = H[q]?) → Wd G fr σ' H1 := by
    intro H1 e1 e2 e3
    rw [hsl] at e1
    refine hW.upd hk hs hrow hR ?_ e2
    have e4 : (G.1 + t, ent G fr (σ' t) (.inr (ci, fs))) = (G.1 + t, (Sum.inr (ci, (fvs G fr (σ t) fs 0).set j v) : va_E)) := by
      have := fvs_set G fr (σ t) (σ' t) fs 0 j cd hcd (fun i h1 h2 h3 => by
        have h4 := hcell i (by omega) (by omega)
        exact ⟨h4.1.symm, h4.2.symm⟩)
      rw [Nat.zero_add] at this
      show (G.1 + t, (Sum.inr (ci, fvs G fr (σ' t) fs 0) : va_E)) = _
      rw [← this, hv]
    rw [e4]
    exact hW.1.set (wl_D) he ⟨_, hq, t_OB.to (V := updV (vp_V (fvs G fr (σ t) fs 0)) j v) ⟨_, e1, q2, q3, t_set q4 hap hj v⟩ (fun i _ => vp_updV_set hl v i)⟩ e3
  have hreg : rg G (G.1 + t) := Nat.le_add_right _ _
  rw [adr_spx hs]
  by_cases hf : fin = true
  · rw [hfin, if_pos hf] at hlay
    have hcf : m.cls = cf := by
      obtain ⟨_, _, c', _, _, _, -, -, hf', -, -, -, hown2, -⟩ := Cond.laysFinal_spec hlay
      have e1 : c' = cf := by have := hi.symm.trans hf'; simp at this; exact this.1.symm
      rw [okc.2.2.2.1 j hj, hdecl hf] at hown2
      rw [← e1]; exact Option.some.inj (hown.symm.trans hown2)
    have h6 := u_fits hfc hkC hkind (Or.inr hlay) hi (okc.2.1 j hj) hn0 hfit
    exact W.putFinK hx hb hown (hts _ hlink) hi2 hst hcf (hin hf) (by rw [q2]; exact h6) q1 q3 (by rw [hsl]; exact k2_hasslot (q4 j hj)) rfl rfl d fun H1 e1 e2 e3 => kk H1 _ (fin' H1 e1 e2 e3) (hS.put e2 e3 hreg)
  · have hff : fin = false := by cases fin <;> simp_all
    rw [hfin, hff, if_neg (by decide)] at hlay
    have h6 := u_store hfc hkC hkind hlay hi (okc.2.1 j hj) hn0 hfit
    exact W.putK hx hb (f := f) ⟨hown, hts _ hlink, ⟨_, _, _, hi2⟩, hst⟩ (by rw [q2]; exact h6) q1 q3 (by rw [hsl]; exact k2_hasslot (q4 j hj)) rfl rfl d fun H1 e1 e2 e3 => kk H1 _ (fin' H1 e1 e2 e3) (hS.put e2 e3 hreg)
end DR3
