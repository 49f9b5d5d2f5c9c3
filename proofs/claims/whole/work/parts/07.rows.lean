/-! THE ROWS: what an item does over the store, the machine does -/
def wfx : dX → Prop
  | .inl x => iR x
  | .inr (.inl x) => lR x
  | .inr (.inr _) => True
def wfs (st : List dX) : Prop := ∀ v ∈ st, wfx v
def wfl (ls : dL) : Prop := ∀ (i : Nat) (v : dX), ls[i]? = some (some v) → wfx v
def kl (G : dG) : Nat → dL → List (Nat × Value)
  | _, [] => []
  | i, none :: r => kl G (i + 1) r
  | i, some v :: r => (i, dv G v) :: kl G (i + 1) r
theorem wfs_c {v : dX} {st : List dX} (h1 : wfx v) (h2 : wfs st) : wfs (v :: st) := fun w h => (List.mem_cons.mp h).elim (fun e => e ▸ h1) (h2 w)
theorem wfs_t {v : dX} {st : List dX} (h : wfs (v :: st)) : wfs st := fun w hw => h w (List.mem_cons_of_mem _ hw)
theorem wfs_h {v : dX} {st : List dX} (h : wfs (v :: st)) : wfx v := h v List.mem_cons_self
theorem kl_mem (G : dG) : ∀ (ls : dL) (j : Nat) (q : Nat × Value), q ∈ kl G j ls ↔ ∃ (n : Nat) (v : dX), ls[n]? = some (some v) ∧ q = (j + n, dv G v)
  | [], j, q => by simp [kl]
  | none :: r, j, q => by
    rw [kl, kl_mem G r (j + 1) q]
    constructor
    · rintro ⟨n, v, h1, h2⟩
      exact ⟨n + 1, v, by simpa using h1, by rw [h2]; congr 1; omega⟩
    · rintro ⟨n, v, h1, h2⟩
      cases n with
      | zero => simp at h1
      | succ n => exact ⟨n, v, by simpa using h1, by rw [h2]; congr 1; omega⟩
  | some w :: r, j, q => by
    rw [kl, List.mem_cons, kl_mem G r (j + 1) q]
    constructor
    · rintro (h | ⟨n, v, h1, h2⟩)
      · exact ⟨0, w, rfl, h⟩
      · exact ⟨n + 1, v, by simpa using h1, by rw [h2]; congr 1; omega⟩
    · rintro ⟨n, v, h1, h2⟩
      cases n with
      | zero =>
        simp only [List.getElem?_cons_zero, Option.some.injEq] at h1
        subst h1
        exact Or.inl h2
      | succ n => exact Or.inr ⟨n, v, by simpa using h1, by rw [h2]; congr 1; omega⟩
theorem kl_at {G : dG} {la : Array Slot} {nL : Nat} {ls : dL} {i : Nat} {v : dX} (h : lv_has la nL (kl G 0 ls)) (hv : ls[i]? = some (some v)) : la[i]? = some (.val (dv G v)) :=
  h.2.2 (i, dv G v) ((kl_mem G ls 0 _).mpr ⟨i, v, hv, by rw [Nat.zero_add]⟩)
theorem lv_less {la : Array Slot} {nL : Nat} {l l' : List (Nat × Value)} (h : lv_has la nL l) (hs : ∀ q ∈ l', q ∈ l) : lv_has la nL l' := ⟨h.1, h.2.1, fun q hq => h.2.2 q (hs q hq)⟩
theorem dv_cat {G : dG} {v : dX} : (dv G v).category = 2 ↔ isL (some (some v)) = true := by
  rcases v with x | x | t <;> simp [dv, Value.category, isL]
theorem dv_cat1 {G : dG} {v : dX} (h : c1 v = true) : (dv G v).category = 1 := by
  rcases v with x | x | t <;> simp [dv, Value.category, c1] at *
theorem kl_store {G : dG} {la : Array Slot} {nL : Nat} {ls : dL} {i : Nat} {v : dX} (ok : okS ls i) (h : lv_has la nL ((i, dv G v) :: (kl G 0 ls).filter (fun q => !(q.1 == i) && !(q.1 + 1 == i && q.2.category == 2)))) : lv_has la nL (kl G 0 (ls.set i (some v))) := by
  refine lv_less h fun q hq => ?_
  obtain ⟨n, w, h1, rfl⟩ := (kl_mem G _ 0 q).mp hq
  rw [Nat.zero_add]
  by_cases hn : n = i
  · subst hn
    rw [List.getElem?_set_self ok.1] at h1
    cases h1
    exact List.mem_cons_self
  · rw [List.getElem?_set_ne (Ne.symm hn)] at h1
    refine List.mem_cons_of_mem _ (List.mem_filter.mpr ⟨(kl_mem G ls 0 _).mpr ⟨n, w, h1, by rw [Nat.zero_add]⟩, ?_⟩)
    simp only [Bool.and_eq_true, Bool.not_eq_true', beq_eq_false_iff_ne, ne_eq, Bool.and_eq_false_iff]
    refine ⟨hn, ?_⟩
    by_cases hn2 : n + 1 = i
    · right
      intro hc
      have hL := dv_cat.mp hc
      rcases ok.2 with z | z
      · omega
      · rw [show i - 1 = n from by omega, h1, hL] at z
        cases z
    · left; exact hn2
theorem kl_storeL {G : dG} {la : Array Slot} {nL : Nat} {ls : dL} {i : Nat} {v : dX} (ok : okS ls i) (ok2 : i + 1 < ls.length) (h : lv_has la nL ((i, dv G v) :: (kl G 0 ls).filter (fun q => !(q.1 == i) && (!(q.1 == i + 1) && !(q.1 + 1 == i && q.2.category == 2))))) : lv_has la nL (kl G 0 ((ls.set i (some v)).set (i + 1) none)) := by
  refine lv_less h fun q hq => ?_
  obtain ⟨n, w, h1, rfl⟩ := (kl_mem G _ 0 q).mp hq
  rw [Nat.zero_add]
  by_cases hn1 : n = i + 1
  · subst hn1
    rw [List.getElem?_set_self (by simpa using ok2)] at h1
    cases h1
  · rw [List.getElem?_set_ne (Ne.symm hn1)] at h1
    by_cases hn : n = i
    · subst hn
      rw [List.getElem?_set_self ok.1] at h1
      cases h1
      exact List.mem_cons_self
    · rw [List.getElem?_set_ne (Ne.symm hn)] at h1
      refine List.mem_cons_of_mem _ (List.mem_filter.mpr ⟨(kl_mem G ls 0 _).mpr ⟨n, w, h1, by rw [Nat.zero_add]⟩, ?_⟩)
      simp only [Bool.and_eq_true, Bool.not_eq_true', beq_eq_false_iff_ne, ne_eq, Bool.and_eq_false_iff]
      refine ⟨hn, hn1, ?_⟩
      by_cases hn2 : n + 1 = i
      · right
        intro hc
        have hL := dv_cat.mp hc
        rcases ok.2 with z | z
        · omega
        · rw [show i - 1 = n from by omega, h1, hL] at z
          cases z
      · left; exact hn2
theorem wfl_set {ls : dL} {i : Nat} {v : dX} (h : wfl ls) (hv : wfx v) : wfl (ls.set i (some v)) := by
  intro j w hj
  by_cases hij : i = j
  · subst hij
    have hl := (List.getElem?_eq_some_iff.mp hj).1
    rw [List.getElem?_set_self (by simpa using hl)] at hj
    cases hj
    exact hv
  · rw [List.getElem?_set_ne hij] at hj
    exact h j w hj
theorem wfl_no {ls : dL} {i : Nat} (h : wfl ls) : wfl (ls.set i none) := by
  intro j w hj
  by_cases hij : i = j
  · subst hij
    have hl := (List.getElem?_eq_some_iff.mp hj).1
    rw [List.getElem?_set_self (by simpa using hl)] at hj
    cases hj
  · rw [List.getElem?_set_ne hij] at hj
    exact h j w hj
/-- the machine goes on from pc and comes to Qm, from every state that the store and the values picture -/
def VW (p : Program) (l : Launch) (e : Env) (R : Room) (s : State) (m : MethodId) (args : Array Value) (below : List Frame) (meth : Method) (c : Code) (Qm : State → Prop) (G : dG) (fr : Bool) (nL pc : Nat) : dK := fun u ls st σ =>
  ls.length = nL → wfl ls → wfs st → ∀ (H : Heap) (locs : List Loc) (la : Array Slot), Wd G fr σ H → va_S (rg G) s.heap H locs → lv_has la nL (kl G 0 ls) → W p l e R s m args below meth c H locs u.1 u.2 Qm (F0 m pc la (st.map (dv G)))
section DR
variable {p : Program} {l : Launch} {e : Env} {R : Room} {s : State} {m : MethodId} {args : Array Value} {below : List Frame} {meth : Method} {c : Code} {Qm : State → Prop} {G : dG} {fr : Bool} {nL pc : Nat} {cc : ByteArray} {u : Nat × Nat} {ls : dL} {st : List dX} {σ : dS}
theorem r_iconst (hx : p.tables.exec = Jvm.exec) (hb : c.code = cc) {a : Int} (d : decode cc pc = .ok (.iconst a, 1)) (ha : iR a) (k : s_push (.inl a) (VW p l e R s m args below meth c Qm G fr nL (pc + 1)) u ls st σ) : VW p l e R s m args below meth c Qm G fr nL pc u ls st σ :=
  fun hn w1 w2 H locs la hW hS hl => lv_iconst hx hb d rfl (k hn w1 (wfs_c ha w2) H locs la hW hS hl)
theorem r_bipush (hx : p.tables.exec = Jvm.exec) (hb : c.code = cc) {a : Int} (d : decode cc pc = .ok (.bipush a, 2)) (hv : (Int8.ofInt a).toInt32 = Int32.ofInt a) (ha : iR a) (k : s_push (.inl a) (VW p l e R s m args below meth c Qm G fr nL (pc + 2)) u ls st σ) : VW p l e R s m args below meth c Qm G fr nL pc u ls st σ :=
  fun hn w1 w2 H locs la hW hS hl => lv_bipush hx hb d hv (k hn w1 (wfs_c ha w2) H locs la hW hS hl)
theorem r_sipush (hx : p.tables.exec = Jvm.exec) (hb : c.code = cc) {a : Int} (d : decode cc pc = .ok (.sipush a, 3)) (hv : (Int16.ofInt a).toInt32 = Int32.ofInt a) (ha : iR a) (k : s_push (.inl a) (VW p l e R s m args below meth c Qm G fr nL (pc + 3)) u ls st σ) : VW p l e R s m args below meth c Qm G fr nL pc u ls st σ :=
  fun hn w1 w2 H locs la hW hS hl => lv_sipush hx hb d hv (k hn w1 (wfs_c ha w2) H locs la hW hS hl)
theorem r_ldc (hx : p.tables.exec = Jvm.exec) (hb : c.code = cc) {own : String} (hown : s.vm.findClass own = some m.cls) {a : Int} {b : Nat} (hc : (Cond.constant own b (Int32.ofInt a)).before args s = true) (d : decode cc pc = .ok (.ldc b, 2)) (ha : iR a) (k : s_push (.inl a) (VW p l e R s m args below meth c Qm G fr nL (pc + 2)) u ls st σ) : VW p l e R s m args below meth c Qm G fr nL pc u ls st σ :=
  fun hn w1 w2 H locs la hW hS hl => lv_ldc hx hb hown hc d (k hn w1 (wfs_c ha w2) H locs la hW hS hl)
theorem r_ldcw (hx : p.tables.exec = Jvm.exec) (hb : c.code = cc) {own : String} (hown : s.vm.findClass own = some m.cls) {a : Int} {b : Nat} (hc : (Cond.constant own b (Int32.ofInt a)).before args s = true) (d : decode cc pc = .ok (.ldc_w b, 3)) (ha : iR a) (k : s_push (.inl a) (VW p l e R s m args below meth c Qm G fr nL (pc + 3)) u ls st σ) : VW p l e R s m args below meth c Qm G fr nL pc u ls st σ :=
  fun hn w1 w2 H locs la hW hS hl => lv_ldcw hx hb hown hc d (k hn w1 (wfs_c ha w2) H locs la hW hS hl)
theorem r_ldc2 (hx : p.tables.exec = Jvm.exec) (hb : c.code = cc) {own : String} (hown : s.vm.findClass own = some m.cls) {a : Int} {b : Nat} (hc : (Cond.constantLong own b (Int64.ofInt a)).before args s = true) (d : decode cc pc = .ok (.ldc2_w b, 3)) (ha : lR a) (k : s_push (.inr (.inl a)) (VW p l e R s m args below meth c Qm G fr nL (pc + 3)) u ls st σ) : VW p l e R s m args below meth c Qm G fr nL pc u ls st σ :=
  fun hn w1 w2 H locs la hW hS hl => lv_ldc2 hx hb hown hc d (k hn w1 (wfs_c (v := .inr (.inl a)) ha w2) H locs la hW hS hl)
theorem r_lconst (hx : p.tables.exec = Jvm.exec) (hb : c.code = cc) {n : Fin 2} {a : Int} (d : decode cc pc = .ok (.lconst n, 1)) (hv : Int64.ofNat (n : Nat) = Int64.ofInt a) (ha : lR a) (k : s_push (.inr (.inl a)) (VW p l e R s m args below meth c Qm G fr nL (pc + 1)) u ls st σ) : VW p l e R s m args below meth c Qm G fr nL pc u ls st σ :=
  fun hn w1 w2 H locs la hW hS hl => lv_lconst hx hb d hv (k hn w1 (wfs_c (v := .inr (.inl a)) ha w2) H locs la hW hS hl)
theorem r_iload (hx : p.tables.exec = Jvm.exec) (hb : c.code = cc) {i : Nat} (d : decode cc pc = .ok (.iload i, 2)) (k : s_iload i (VW p l e R s m args below meth c Qm G fr nL (pc + 2)) u ls st σ) : VW p l e R s m args below meth c Qm G fr nL pc u ls st σ := by
  intro hn w1 w2 H locs la hW hS hl
  unfold s_iload at k
  split at k
  · rename_i x hv
    exact lv_iload hx hb d (kl_at hl hv) (k hn w1 (wfs_c (w1 _ _ hv) w2) H locs la hW hS hl)
  · exact k.elim
theorem r_iload_n (hx : p.tables.exec = Jvm.exec) (hb : c.code = cc) {n : Fin 4} {i : Nat} (hi : (n : Nat) = i) (d : decode cc pc = .ok (.iload_n n, 1)) (k : s_iload i (VW p l e R s m args below meth c Qm G fr nL (pc + 1)) u ls st σ) : VW p l e R s m args below meth c Qm G fr nL pc u ls st σ := by
  intro hn w1 w2 H locs la hW hS hl
  unfold s_iload at k
  split at k
  · rename_i x hv
    exact lv_iload_n hx hb d hi (kl_at hl hv) (k hn w1 (wfs_c (w1 _ _ hv) w2) H locs la hW hS hl)
  · exact k.elim
theorem r_lload (hx : p.tables.exec = Jvm.exec) (hb : c.code = cc) {i : Nat} (d : decode cc pc = .ok (.lload i, 2)) (k : s_lload i (VW p l e R s m args below meth c Qm G fr nL (pc + 2)) u ls st σ) : VW p l e R s m args below meth c Qm G fr nL pc u ls st σ := by
  intro hn w1 w2 H locs la hW hS hl
  unfold s_lload at k
  split at k
  · rename_i x hv
    exact lv_lload hx hb d (kl_at hl hv) (k hn w1 (wfs_c (w1 _ _ hv) w2) H locs la hW hS hl)
  · exact k.elim
theorem r_lload_n (hx : p.tables.exec = Jvm.exec) (hb : c.code = cc) {n : Fin 4} {i : Nat} (hi : (n : Nat) = i) (d : decode cc pc = .ok (.lload_n n, 1)) (k : s_lload i (VW p l e R s m args below meth c Qm G fr nL (pc + 1)) u ls st σ) : VW p l e R s m args below meth c Qm G fr nL pc u ls st σ := by
  intro hn w1 w2 H locs la hW hS hl
  unfold s_lload at k
  split at k
  · rename_i x hv
    exact lv_lload_n hx hb d hi (kl_at hl hv) (k hn w1 (wfs_c (w1 _ _ hv) w2) H locs la hW hS hl)
  · exact k.elim
theorem r_aload (hx : p.tables.exec = Jvm.exec) (hb : c.code = cc) {i : Nat} (d : decode cc pc = .ok (.aload i, 2)) (k : s_aload i (VW p l e R s m args below meth c Qm G fr nL (pc + 2)) u ls st σ) : VW p l e R s m args below meth c Qm G fr nL pc u ls st σ := by
  intro hn w1 w2 H locs la hW hS hl
  unfold s_aload at k
  split at k
  · rename_i x hv
    exact lv_aload hx hb d (kl_at hl hv) (k hn w1 (wfs_c (w1 _ _ hv) w2) H locs la hW hS hl)
  · exact k.elim
theorem r_aload_n (hx : p.tables.exec = Jvm.exec) (hb : c.code = cc) {n : Fin 4} {i : Nat} (hi : (n : Nat) = i) (d : decode cc pc = .ok (.aload_n n, 1)) (k : s_aload i (VW p l e R s m args below meth c Qm G fr nL (pc + 1)) u ls st σ) : VW p l e R s m args below meth c Qm G fr nL pc u ls st σ := by
  intro hn w1 w2 H locs la hW hS hl
  unfold s_aload at k
  split at k
  · rename_i x hv
    exact lv_aload_n hx hb d hi (kl_at hl hv) (k hn w1 (wfs_c (w1 _ _ hv) w2) H locs la hW hS hl)
  · exact k.elim
theorem r_istore (hx : p.tables.exec = Jvm.exec) (hb : c.code = cc) {i : Nat} (d : decode cc pc = .ok (.istore i, 2)) (k : s_istore i (VW p l e R s m args below meth c Qm G fr nL (pc + 2)) u ls st σ) : VW p l e R s m args below meth c Qm G fr nL pc u ls st σ := by
  intro hn w1 w2 H locs la hW hS hl
  unfold s_istore at k
  split at k
  · obtain ⟨ok, k⟩ := k
    exact lv_istore hx hb d hl (by rw [← hn]; exact ok.1) rfl (fun la' h => k (by rw [List.length_set]; exact hn) (wfl_set w1 (wfs_h w2)) (wfs_t w2) H locs la' hW hS (kl_store ok h))
  · exact k.elim
theorem r_istore_n (hx : p.tables.exec = Jvm.exec) (hb : c.code = cc) {n : Fin 4} {i : Nat} (hi : (n : Nat) = i) (d : decode cc pc = .ok (.istore_n n, 1)) (k : s_istore i (VW p l e R s m args below meth c Qm G fr nL (pc + 1)) u ls st σ) : VW p l e R s m args below meth c Qm G fr nL pc u ls st σ := by
  intro hn w1 w2 H locs la hW hS hl
  unfold s_istore at k
  split at k
  · obtain ⟨ok, k⟩ := k
    exact lv_istore_n hx hb d hi hl (by rw [← hn]; exact ok.1) rfl (fun la' h => k (by rw [List.length_set]; exact hn) (wfl_set w1 (wfs_h w2)) (wfs_t w2) H locs la' hW hS (kl_store ok h))
  · exact k.elim
theorem r_astore (hx : p.tables.exec = Jvm.exec) (hb : c.code = cc) {i : Nat} (d : decode cc pc = .ok (.astore i, 2)) (k : s_astore i (VW p l e R s m args below meth c Qm G fr nL (pc + 2)) u ls st σ) : VW p l e R s m args below meth c Qm G fr nL pc u ls st σ := by
  intro hn w1 w2 H locs la hW hS hl
  unfold s_astore at k
  split at k
  · rename_i t r
    obtain ⟨ok, k⟩ := k
    exact lv_astore hx hb d hl (by rw [← hn]; exact ok.1) rfl (fun la' h => k (by rw [List.length_set]; exact hn) (wfl_set w1 (wfs_h w2)) (wfs_t w2) H locs la' hW hS (kl_store (v := .inr (.inr t)) ok h))
  · exact k.elim
theorem r_astore_n (hx : p.tables.exec = Jvm.exec) (hb : c.code = cc) {n : Fin 4} {i : Nat} (hi : (n : Nat) = i) (d : decode cc pc = .ok (.astore_n n, 1)) (k : s_astore i (VW p l e R s m args below meth c Qm G fr nL (pc + 1)) u ls st σ) : VW p l e R s m args below meth c Qm G fr nL pc u ls st σ := by
  intro hn w1 w2 H locs la hW hS hl
  unfold s_astore at k
  split at k
  · rename_i t r
    obtain ⟨ok, k⟩ := k
    exact lv_astore_n hx hb d hi hl (by rw [← hn]; exact ok.1) rfl (fun la' h => k (by rw [List.length_set]; exact hn) (wfl_set w1 (wfs_h w2)) (wfs_t w2) H locs la' hW hS (kl_store (v := .inr (.inr t)) ok h))
  · exact k.elim
theorem r_lstore (hx : p.tables.exec = Jvm.exec) (hb : c.code = cc) {i : Nat} (d : decode cc pc = .ok (.lstore i, 2)) (k : s_lstore i (VW p l e R s m args below meth c Qm G fr nL (pc + 2)) u ls st σ) : VW p l e R s m args below meth c Qm G fr nL pc u ls st σ := by
  intro hn w1 w2 H locs la hW hS hl
  unfold s_lstore at k
  split at k
  · rename_i x r
    obtain ⟨ok, ok2, k⟩ := k
    exact lv_lstore hx hb d hl (by rw [← hn]; exact ok2) rfl (fun la' h => k (by rw [List.length_set, List.length_set]; exact hn) (wfl_no (wfl_set w1 (wfs_h w2))) (wfs_t w2) H locs la' hW hS (kl_storeL (v := .inr (.inl x)) ok ok2 h))
  · exact k.elim
theorem r_lstore_n (hx : p.tables.exec = Jvm.exec) (hb : c.code = cc) {n : Fin 4} {i : Nat} (hi : (n : Nat) = i) (d : decode cc pc = .ok (.lstore_n n, 1)) (k : s_lstore i (VW p l e R s m args below meth c Qm G fr nL (pc + 1)) u ls st σ) : VW p l e R s m args below meth c Qm G fr nL pc u ls st σ := by
  intro hn w1 w2 H locs la hW hS hl
  unfold s_lstore at k
  split at k
  · rename_i x r
    obtain ⟨ok, ok2, k⟩ := k
    exact lv_lstore_n hx hb d hi hl (by rw [← hn]; exact ok2) rfl (fun la' h => k (by rw [List.length_set, List.length_set]; exact hn) (wfl_no (wfl_set w1 (wfs_h w2))) (wfs_t w2) H locs la' hW hS (kl_storeL (v := .inr (.inl x)) ok ok2 h))
  · exact k.elim
theorem kl_at2 {G : dG} {ls : dL} {i : Nat} {v : dX} (hv : ls[i]? = some (some v)) : ∃ k : Nat, (kl G 0 ls)[k]? = some (i, dv G v) := by
  have h : (i, dv G v) ∈ kl G 0 ls := (kl_mem G ls 0 _).mpr ⟨i, v, hv, by rw [Nat.zero_add]⟩
  exact List.getElem?_of_mem h
theorem r_iinc (hx : p.tables.exec = Jvm.exec) (hb : c.code = cc) {i : Nat} {a : Int} (d : decode cc pc = .ok (.iinc i a, 3)) (k : s_iinc i a (VW p l e R s m args below meth c Qm G fr nL (pc + 3)) u ls st σ) : VW p l e R s m args below meth c Qm G fr nL pc u ls st σ := by
  intro hn w1 w2 H locs la hW hS hl
  unfold s_iinc at k
  split at k
  · rename_i x hv
    obtain ⟨ok, k⟩ := k
    obtain ⟨k0, hk0⟩ := kl_at2 (G := G) hv
    exact lv_iinc hx hb d hl hk0 (oi_add x a) (by rw [← hn]; exact ok.1) rfl (fun la' h => k (by rw [List.length_set]; exact hn) (wfl_set w1 (wr_R _)) w2 H locs la' hW hS (kl_store ok h))
  · exact k.elim
theorem r_iadd (hx : p.tables.exec = Jvm.exec) (hb : c.code = cc) (d : decode cc pc = .ok (.iadd, 1)) (k : s_bin (fun x y => wr (x + y)) (VW p l e R s m args below meth c Qm G fr nL (pc + 1)) u ls st σ) : VW p l e R s m args below meth c Qm G fr nL pc u ls st σ := by
  intro hn w1 w2 H locs la hW hS hl
  unfold s_bin at k
  split at k
  · rename_i y x r
    have k := k hn w1 (wfs_c (wr_R _) (wfs_t (wfs_t w2))) H locs la hW hS hl
    refine lv_iadd hx hb d ?_
    rw [oi_add]
    exact k
  · exact k.elim
theorem r_isub (hx : p.tables.exec = Jvm.exec) (hb : c.code = cc) (d : decode cc pc = .ok (.isub, 1)) (k : s_bin (fun x y => wr (x - y)) (VW p l e R s m args below meth c Qm G fr nL (pc + 1)) u ls st σ) : VW p l e R s m args below meth c Qm G fr nL pc u ls st σ := by
  intro hn w1 w2 H locs la hW hS hl
  unfold s_bin at k
  split at k
  · rename_i y x r
    have k := k hn w1 (wfs_c (wr_R _) (wfs_t (wfs_t w2))) H locs la hW hS hl
    refine lv_isub hx hb d ?_
    rw [oi_sub]
    exact k
  · exact k.elim
theorem r_imul (hx : p.tables.exec = Jvm.exec) (hb : c.code = cc) (d : decode cc pc = .ok (.imul, 1)) (k : s_bin (fun x y => wr (x * y)) (VW p l e R s m args below meth c Qm G fr nL (pc + 1)) u ls st σ) : VW p l e R s m args below meth c Qm G fr nL pc u ls st σ := by
  intro hn w1 w2 H locs la hW hS hl
  unfold s_bin at k
  split at k
  · rename_i y x r
    have k := k hn w1 (wfs_c (wr_R _) (wfs_t (wfs_t w2))) H locs la hW hS hl
    refine lv_imul hx hb d ?_
    rw [oi_mul]
    exact k
  · exact k.elim
theorem r_ineg (hx : p.tables.exec = Jvm.exec) (hb : c.code = cc) (d : decode cc pc = .ok (.ineg, 1)) (k : s_un (fun x => wr (-x)) (VW p l e R s m args below meth c Qm G fr nL (pc + 1)) u ls st σ) : VW p l e R s m args below meth c Qm G fr nL pc u ls st σ := by
  intro hn w1 w2 H locs la hW hS hl
  unfold s_un at k
  split at k
  · rename_i x r
    have k := k hn w1 (wfs_c (wr_R _) (wfs_t w2)) H locs la hW hS hl
    refine lv_ineg hx hb d ?_
    show W p l e R s m args below meth c H locs u.1 u.2 Qm (F0 m (pc + 1) la (.int (- Int32.ofInt x) :: r.map (dv G)))
    rw [oi_neg]
    exact k
  · exact k.elim
theorem r_dup (hx : p.tables.exec = Jvm.exec) (hb : c.code = cc) (d : decode cc pc = .ok (.dup, 1)) (k : s_dup (VW p l e R s m args below meth c Qm G fr nL (pc + 1)) u ls st σ) : VW p l e R s m args below meth c Qm G fr nL pc u ls st σ := by
  intro hn w1 w2 H locs la hW hS hl
  unfold s_dup at k
  split at k
  · exact lv_dup hx hb d (dv_cat1 k.1) (k.2 hn w1 (wfs_c (wfs_h w2) w2) H locs la hW hS hl)
  · exact k.elim
theorem r_pop (hx : p.tables.exec = Jvm.exec) (hb : c.code = cc) (d : decode cc pc = .ok (.pop, 1)) (k : s_pop (VW p l e R s m args below meth c Qm G fr nL (pc + 1)) u ls st σ) : VW p l e R s m args below meth c Qm G fr nL pc u ls st σ := by
  intro hn w1 w2 H locs la hW hS hl
  unfold s_pop at k
  split at k
  · exact lv_pop hx hb d (dv_cat1 k.1) (k.2 hn w1 (wfs_t w2) H locs la hW hS hl)
  · exact k.elim
theorem r_dup2 (hx : p.tables.exec = Jvm.exec) (hb : c.code = cc) (d : decode cc pc = .ok (.dup2, 1)) (k : s_dup2 (VW p l e R s m args below meth c Qm G fr nL (pc + 1)) u ls st σ) : VW p l e R s m args below meth c Qm G fr nL pc u ls st σ := by
  intro hn w1 w2 H locs la hW hS hl
  unfold s_dup2 at k
  split at k
  · exact lv_dup2_11 hx hb d (dv_cat1 k.1) (dv_cat1 k.2.1) (k.2.2 hn w1 (wfs_c (wfs_h w2) (wfs_c (wfs_h (wfs_t w2)) w2)) H locs la hW hS hl)
  · exact k.elim
theorem r_goto (hx : p.tables.exec = Jvm.exec) (hb : c.code = cc) {a : Int} {tgt : Nat} (d : decode cc pc = .ok (.goto a, 3)) (ht : (pc : Int) + a = (tgt : Int)) (k : VW p l e R s m args below meth c Qm G fr nL tgt u ls st σ) : VW p l e R s m args below meth c Qm G fr nL pc u ls st σ :=
  fun hn w1 w2 H locs la hW hS hl => lv_goto hx hb d ht (k hn w1 w2 H locs la hW hS hl)
end DR
