/-! THE LAW'S BODY: its shapes -/
def lgX (xs : Nat → Int32) (i : Int) : Int := (xs i.toNat).toInt
def lgL (i : Int) (x5 x6 : Option dX) : dL := [some (.inr (.inr 100000)), some (.inr (.inr 0)), some (.inr (.inr 153)), some (.inr (.inr 197)), some (.inl i), x5, x6]
def lgE (p : Program) (l : Launch) (R : Room) (s : State) (m : MethodId) (args : Array Value) (c : Code) (G : dG) (b L : Nat) (xs : Nat → Int32) : Prop :=
  (p.tables.exec = Jvm.exec ∧ c.code = code ∧ c.maxLocals = 7 ∧ (∀ w ∈ TBg, w.before args s = true) ∧ s.vm.findClass "WingTramsLaw" = some m.cls ∧ dEv G s s.heap) ∧ (va_Nc (exn 1) (exn 0) s ∧ l.stackTraces = false ∧ 300 ≤ R.frames ∧ 20000 ≤ R.locals ∧ 601024 ≤ R.cells ∧ 7293034 ≤ R.slots) ∧ (va_X b L xs s s.heap ∧ b < s.heap.size ∧ ¬ rg G b ∧ adr G 100000 = b ∧ L ≤ 3072)
theorem popN_rev : ∀ (a acc r : List dX), popN a.length acc (a ++ r) = some (a.reverse ++ acc, r)
  | [], acc, r => rfl
  | v :: a, acc, r => by
    show popN a.length (v :: acc) (a ++ r) = _
    rw [popN_rev a (v :: acc) r, List.reverse_cons, List.append_assoc]
    rfl
theorem popN_as (as : List dX) (v : dX) (r : List dX) {n : Nat} (hn : as.length + 1 = n) : popN n [] (as.reverse ++ v :: r) = some (v :: as, r) := by
  subst hn
  have h := popN_rev (as.reverse ++ [v]) [] r
  rw [List.length_append, List.length_reverse, List.append_assoc] at h
  rw [show as.length + 1 = as.length + [v].length from rfl]
  rw [show as.reverse ++ v :: r = as.reverse ++ ([v] ++ r) from rfl, h]
  rw [List.reverse_append, List.reverse_reverse, List.append_nil]
  rfl
theorem sp153 : ∃ fs, spx 153 = some (.inr (12, fs)) := ⟨_, spA7.2.2.2.2.2.2.2.2.2.2.2.2.2.1⟩
def ckL (pc j : Nat) : Bool := dcd code pc (.aload_n 0) 1 && (dcd code (pc + 1) (.iload 4) 2 && (dcd code (pc + 3) (.iconst (j : Int)) 1 && (dcd code (pc + 4) .iadd 1 && dcd code (pc + 5) .iaload 1)))
def ckZ (pc : Nat) : Bool := dcd code pc (.ifCond .eq 7) 3 && (dcd code (pc + 3) (.iconst 1) 1 && (dcd code (pc + 4) (.goto 4) 3 && dcd code (pc + 7) (.iconst 0) 1))
def aLn : List (Nat × Bool) → Nat
  | [] => 0
  | q :: r => (if q.2 = true then 14 else 6) + aLn r
def aVl (xs : Nat → Int32) (i : Int) (q : Nat × Bool) : Int := if q.2 = true then nz1 (lgX xs (i + (q.1 : Int))) else lgX xs (i + (q.1 : Int))
def aVs (xs : Nat → Int32) (i : Int) (qs : List (Nat × Bool)) : List dX := qs.map (fun q => .inl (aVl xs i q))
def ckAs : Nat → List (Nat × Bool) → Bool
  | _, [] => true
  | pc, q :: r => decide (q.1 ≤ 5) && (ckL pc q.1 && ((if q.2 = true then ckZ (pc + 6) else true) && ckAs (pc + (if q.2 = true then 14 else 6)) r))
theorem lgX_R (xs : Nat → Int32) (i : Int) : iR (lgX xs i) := ti_R _
theorem nz1_R (v : Int) : iR (nz1 v) := by unfold nz1 iR; split <;> omega
theorem aVl_R (xs : Nat → Int32) (i : Int) (q : Nat × Bool) : iR (aVl xs i q) := by
  unfold aVl
  split
  · exact nz1_R _
  · exact lgX_R _ _
section LGV
variable {p : Program} {l : Launch} {e : Env} {R : Room} {s : State} {m : MethodId} {args : Array Value} {below : List Frame} {meth : Method} {c : Code} {Qm : State → Prop} {G : dG} {pc b L : Nat} {xs : Nat → Int32} {u : Nat × Nat} {ls : dL} {st : List dX} {σ : dS} {i : Int} {x5 x6 : Option dX}
/-- an int of the script, its index on the stack -/
theorem lg_ix {x : Int} (E : lgE p l R s m args c G b L xs) (h0 : 0 ≤ x) (h1 : x < L) (d : decode code pc = .ok (.iaload, 1)) (k : VW p l e R s m args below meth c Qm G false 7 (pc + 1) u ls (.inl (lgX xs x) :: st) σ) : VW p l e R s m args below meth c Qm G false 7 pc u ls (.inl x :: .inr (.inr 100000) :: st) σ := by
  intro hn w1 w2 H locs la hW hS hl
  obtain ⟨⟨hx, hb, -⟩, -, hX, hbl, hbA, had, hL⟩ := E
  show W p l e R s m args below meth c H locs u.1 u.2 Qm (F0 m pc la (.int (Int32.ofInt x) :: .ref (adr G 100000) :: st.map (dv G)))
  rw [had]
  refine va_sld hx hb hX hbl hbA hS (oi_in h0 h1 (by omega)) d ?_
  rw [oi_cl h0 h1 (by omega)]
  have h9 := k hn w1 (wfs_c (lgX_R xs x) (wfs_t (wfs_t w2))) H locs la hW hS hl
  have e9 : (dv G (.inl (lgX xs x)) : Value) = .int (xs x.toNat) := by
    show Value.int (Int32.ofInt (xs x.toNat).toInt) = _
    rw [oi_ti]
  rw [List.map_cons, e9] at h9
  exact h9
theorem lg_ld {j : Nat} (E : lgE p l R s m args c G b L xs) (ck : ckL pc j = true) (hj : j ≤ 5) (h0 : 0 ≤ i) (h1 : i + (j : Int) < L) (k : VW p l e R s m args below meth c Qm G false 7 (pc + 6) u (lgL i x5 x6) (.inl (lgX xs (i + (j : Int))) :: st) σ) : VW p l e R s m args below meth c Qm G false 7 pc u (lgL i x5 x6) st σ := by
  have hL : L ≤ 3072 := E.2.2.2.2.2.2
  unfold ckL at ck
  simp only [Bool.and_eq_true] at ck
  obtain ⟨d0, d1, d2, d3, d4⟩ := ck
  have hx := E.1.1
  have hb := E.1.2.1
  refine v_al (n := 0) (t := 100000) hx hb rfl rfl (dcd_at d0) ?_
  refine v_ilw (i := 4) (x := i) hx hb rfl (dcd_at d1) ?_
  refine r_iconst hx hb (dcd_at d2) (by unfold iR; omega) ?_
  refine r_iadd hx hb (dcd_at d3) ?_
  show VW p l e R s m args below meth c Qm G false 7 _ u (lgL i x5 x6) (.inl (wr (i + (j : Int))) :: .inr (.inr 100000) :: st) σ
  rw [wr_id (x := i + (j : Int)) (by omega) (by omega)]
  exact lg_ix E (by omega) h1 (dcd_at d4) k
theorem lg_as : ∀ (qs : List (Nat × Bool)) (pc : Nat) (st : List dX) (_ : lgE p l R s m args c G b L xs) (_ : ckAs pc qs = true) (_ : 0 ≤ i) (_ : i + 5 < L) (_ : VW p l e R s m args below meth c Qm G false 7 (pc + aLn qs) u (lgL i x5 x6) ((aVs xs i qs).reverse ++ st) σ), VW p l e R s m args below meth c Qm G false 7 pc u (lgL i x5 x6) st σ
  | [], pc, st, _, _, _, _, k => k
  | q :: qs, pc, st, E, ck, h0, h1, k => by
    unfold ckAs at ck
    simp only [Bool.and_eq_true, decide_eq_true_eq] at ck
    obtain ⟨hj, c1, c2, c3⟩ := ck
    have hx := E.1.1
    have hb := E.1.2.1
    have k2 : VW p l e R s m args below meth c Qm G false 7 (pc + (if q.2 = true then 14 else 6)) u (lgL i x5 x6) (.inl (aVl xs i q) :: st) σ := by
      refine lg_as qs (pc + (if q.2 = true then 14 else 6)) (.inl (aVl xs i q) :: st) E c3 h0 h1 ?_
      rw [show pc + (if q.2 = true then 14 else 6) + aLn qs = pc + aLn (q :: qs) by show _ = pc + ((if q.2 = true then 14 else 6) + aLn qs); omega]
      have e9 : (aVs xs i (q :: qs)).reverse ++ st = (aVs xs i qs).reverse ++ (.inl (aVl xs i q) :: st) := by
        show ((.inl (aVl xs i q) : dX) :: aVs xs i qs).reverse ++ st = _
        rw [List.reverse_cons, List.append_assoc]
        rfl
      rw [e9] at k
      exact k
    refine lg_ld E c1 hj h0 (by omega) ?_
    by_cases hz : q.2 = true
    · rw [if_pos hz] at k2 c2
      unfold aVl at k2
      rw [if_pos hz] at k2
      unfold ckZ at c2
      simp only [Bool.and_eq_true] at c2
      obtain ⟨d0, d1, d2, d3⟩ := c2
      refine r_if_eq hx hb (dcd_at d0) (tgt := pc + 6 + 7) (by omega) ⟨fun hv => ?_, fun hv => ?_⟩
      · have e0 : nz1 (lgX xs (i + (q.1 : Int))) = 0 := if_pos hv
        rw [e0] at k2
        exact r_iconst hx hb (dcd_at d3) (by unfold iR; omega) k2
      · have e0 : nz1 (lgX xs (i + (q.1 : Int))) = 1 := if_neg hv
        rw [e0] at k2
        refine r_iconst hx hb (dcd_at d1) (by unfold iR; omega) ?_
        exact r_goto hx hb (dcd_at d2) (tgt := pc + 14) (by omega) k2
    · rw [if_neg hz] at k2
      unfold aVl at k2
      rw [if_neg hz] at k2
      exact k2
/-- what the law links: method y, its row q, by word b -/
def lnk (y b n ci : Nat) (q : dM) : Prop := MT[y]? = some q ∧ okK "WingTramsLaw" b [y, n, ci, q.2.2.2.2.2.2.1.1, q.2.2.2.2.2.2.1.2] 0 q ∧ q.2.2.2.2.2.2.2 = false ∧ ci ≠ 999
theorem lg_vc {y bb n t c0 : Nat} {fs : List Nat} {q : dM} {as r : List dX} (E : lgE p l R s m args c G b L xs) (k : lnk y bb n (c0 + 1) q) (d : decode code pc = .ok (.invokevirtual bb, 3)) (h1 : u.1 + q.2.2.2.2.2.2.1.1 ≤ 601024) (h2 : u.2 + q.2.2.2.2.2.2.1.2 ≤ 7293034) (hn : as.length + 1 = n) (hwt : wt r ≤ 8) (hsp : spx t = some (.inr (c0, fs)))
    (h : wI 80 y (.inr (.inr t) :: as) σ (fun _ _ => False) (fun v σ' => VW p l e R s m args below meth c Qm G false 7 (pc + 3) (u.1 + q.2.2.2.2.2.2.1.1, u.2 + q.2.2.2.2.2.2.1.2) ls (.inl v :: r) σ')) : VW p l e R s m args below meth c Qm G false 7 pc u ls (as.reverse ++ .inr (.inr t) :: r) σ := by
  obtain ⟨⟨hx, hb, hml, hts, hown, hE⟩, ⟨-, hl0, hRf, hRl, hRc, hRs⟩, -⟩ := E
  obtain ⟨hq, ok, hfr, hci⟩ := k
  refine r_call (C := wpm blk inf 80) (B := (601024, 7293034)) (Q := fun _ _ => False) (own := "WingTramsLaw") (b := bb) (d := 80) (kind := 0) (q := q) (ci := c0 + 1) hx hb hml hts hown hE ok hfr (met hl0 80 y q hq) ⟨hRc, hRs⟩ (by omega) (by omega) d (Or.inl ⟨rfl, rfl⟩) (Or.inl ⟨rfl, rfl, hci⟩) ?_ ?_
  · intro x σ' H1 locs1 ce q9 la rest u' _ _ _ hQ
    exact hQ.elim
  · show s_call false (wpm blk inf 80) (601024, 7293034) (fun _ _ => False) y n (c0 + 1) q.2.2.2.2.2.2.1.1 q.2.2.2.2.2.2.1.2 _ u ls (as.reverse ++ .inr (.inr t) :: r) σ
    unfold s_call
    rw [popN_as as (.inr (.inr t)) r hn]
    refine ⟨hwt, h1, h2, Or.inr (Or.inr ?_), ?_⟩
    · rw [hsp]
      exact ⟨rfl, fun z => by cases z⟩
    · unfold wI at h
      refine wpm_mono h (fun r2 σ' hr => ?_)
      match r2, hr with
      | .inl (some (.inl v)), hr => exact hr
theorem lg_vv {y bb n t c0 : Nat} {fs : List Nat} {q : dM} {as r : List dX} (E : lgE p l R s m args c G b L xs) (k : lnk y bb n (c0 + 1) q) (d : decode code pc = .ok (.invokevirtual bb, 3)) (h1 : u.1 + q.2.2.2.2.2.2.1.1 ≤ 601024) (h2 : u.2 + q.2.2.2.2.2.2.1.2 ≤ 7293034) (hn : as.length + 1 = n) (hwt : wt r ≤ 8) (hsp : spx t = some (.inr (c0, fs)))
    (h : wV 80 y (.inr (.inr t) :: as) σ (fun _ _ => False) (fun σ' => VW p l e R s m args below meth c Qm G false 7 (pc + 3) (u.1 + q.2.2.2.2.2.2.1.1, u.2 + q.2.2.2.2.2.2.1.2) ls r σ')) : VW p l e R s m args below meth c Qm G false 7 pc u ls (as.reverse ++ .inr (.inr t) :: r) σ := by
  obtain ⟨⟨hx, hb, hml, hts, hown, hE⟩, ⟨-, hl0, hRf, hRl, hRc, hRs⟩, -⟩ := E
  obtain ⟨hq, ok, hfr, hci⟩ := k
  refine r_call (C := wpm blk inf 80) (B := (601024, 7293034)) (Q := fun _ _ => False) (own := "WingTramsLaw") (b := bb) (d := 80) (kind := 0) (q := q) (ci := c0 + 1) hx hb hml hts hown hE ok hfr (met hl0 80 y q hq) ⟨hRc, hRs⟩ (by omega) (by omega) d (Or.inl ⟨rfl, rfl⟩) (Or.inl ⟨rfl, rfl, hci⟩) ?_ ?_
  · intro x σ' H1 locs1 ce q9 la rest u' _ _ _ hQ
    exact hQ.elim
  · show s_call false (wpm blk inf 80) (601024, 7293034) (fun _ _ => False) y n (c0 + 1) q.2.2.2.2.2.2.1.1 q.2.2.2.2.2.2.1.2 _ u ls (as.reverse ++ .inr (.inr t) :: r) σ
    unfold s_call
    rw [popN_as as (.inr (.inr t)) r hn]
    refine ⟨hwt, h1, h2, Or.inr (Or.inr ?_), ?_⟩
    · rw [hsp]
      exact ⟨rfl, fun z => by cases z⟩
    · unfold wV at h
      refine wpm_mono h (fun r2 σ' hr => ?_)
      match r2, hr with
      | .inl none, hr => exact hr
/-- the end of a case: on with the loop -/
def lgK (p : Program) (l : Launch) (e : Env) (R : Room) (s : State) (m : MethodId) (args : Array Value) (below : List Frame) (meth : Method) (c : Code) (Qm : State → Prop) (G : dG) (u : Nat × Nat) (i : Int) : Prop :=
  ∀ (σ2 : dS) (u' : Nat × Nat) (y5 y6 : Option dX), INV σ2 → σ2 1000000 0 = 198 → u'.1 ≤ u.1 + 2 → u'.2 ≤ u.2 + 12 → VW p l e R s m args below meth c Qm G false 7 2187 u' (lgL i y5 y6) [] σ2
theorem aVs_nr (t : Nat) (ht : t ≠ 197) (xs : Nat → Int32) (i : Int) (qs : List (Nat × Bool)) : nrs (.inr (.inr t) :: aVs xs i qs) := by
  refine nrs_c (nrx_r ht) (fun v hv => ?_)
  unfold aVs at hv
  obtain ⟨q, -, rfl⟩ := List.mem_map.mp hv
  exact nrx_i
theorem aVs_len (xs : Nat → Int32) (i : Int) (qs : List (Nat × Bool)) : (aVs xs i qs).length = qs.length := List.length_map ..
theorem OUT_r (σ : dS) : OUT σ σ := fun _ _ => rfl
def ckA (pc : Nat) (qs : List (Nat × Bool)) (bx bm : Nat) : Bool := dcd code pc (.aload_n 1) 1 && (ckAs (pc + 1) qs && (dcd code (pc + 1 + aLn qs) (.invokevirtual bx) 3 && (dcd code (pc + 1 + aLn qs + 3) (.aload_n 2) 1 && (ckAs (pc + 1 + aLn qs + 3 + 1) qs && (dcd code (pc + 1 + aLn qs + 3 + 1 + aLn qs) (.invokevirtual bm) 3 && dcd code (pc + 1 + aLn qs + 3 + 1 + aLn qs + 3) (.if_icmp .eq (2187 - ((pc + 1 + aLn qs + 3 + 1 + aLn qs + 3 : Nat) : Int))) 3)))))
/-- a call that never throws, and its like of the reference -/
theorem lg_A {qs : List (Nat × Bool)} {yx ym bx bm n : Nat} {qx qm : dM} (E : lgE p l R s m args c G b L xs) (ck : ckA pc qs bx bm = true) (kx : lnk yx bx n 12 qx) (km : lnk ym bm n 13 qm) (hn : qs.length + 1 = n) (bx1 : qx.2.2.2.2.2.2.1.1 ≤ 2) (bx2 : qx.2.2.2.2.2.2.1.2 ≤ 12) (bm0 : qm.2.2.2.2.2.2.1 = (0, 0)) (h0 : 0 ≤ i) (h1 : i + 5 < L) (hI : INV σ) (hz : σ 1000000 0 = 198) (hu1 : u.1 + 2 ≤ 601024) (hu2 : u.2 + 12 ≤ 7293034)
    (hp : ∀ (Q : dR → dS → Prop) (K : Int → dS → Prop), (∀ v σ1, PRU 80 ym (.inr (.inr 153) :: aVs xs i qs) v σ1 → K v σ1) → wI 80 yx (.inr (.inr 0) :: aVs xs i qs) σ Q K) (k : lgK p l e R s m args below meth c Qm G u i) : VW p l e R s m args below meth c Qm G false 7 pc u (lgL i x5 x6) [] σ := by
  unfold ckA at ck
  simp only [Bool.and_eq_true] at ck
  obtain ⟨d0, c1, d1, d2, c2, d3, d4⟩ := ck
  have hx := E.1.1
  have hb := E.1.2.1
  refine v_al (n := 1) (t := 0) hx hb rfl rfl (dcd_at d0) ?_
  refine lg_as qs _ _ E c1 h0 h1 ?_
  refine lg_vc E kx (dcd_at d1) (by omega) (by omega) (by rw [aVs_len]; exact hn) (Nat.le_of_ble_eq_true rfl) spA0.1 ?_
  have hp2 := wI_n (aVs_nr 0 (by decide) xs i qs) hz (hp (fun _ _ => False) (fun v σ1 => PRU 80 ym (.inr (.inr 153) :: aVs xs i qs) v σ1) (fun v σ1 h => h))
  unfold wI at hp2 ⊢
  refine wpm_mono hp2 (fun r σ1 hr => ?_)
  match r, hr with
  | .inl (some (.inl v)), hr =>
    obtain ⟨hm, -, hz1⟩ := hr
    refine v_al (n := 2) (t := 153) hx hb rfl rfl (dcd_at d2) ?_
    refine lg_as qs _ _ E c2 h0 h1 ?_
    have hz2 : σ1 1000000 0 = 198 := by rw [hz1]; exact hz
    obtain ⟨fs, hs⟩ := sp153
    refine lg_vc E km (dcd_at d3) (by rw [bm0]; show _ + 0 ≤ _; omega) (by rw [bm0]; show _ + 0 ≤ _; omega) (by rw [aVs_len]; exact hn) (Nat.le_of_ble_eq_true rfl) hs ?_
    have hm2 := wI_n (aVs_nr 153 (by decide) xs i qs) hz2 (hm σ1 (OUT_r σ1) (fun _ _ => False) (fun w σ2 => w = v ∧ INV σ2) (fun σ2 hI2 => ⟨rfl, hI2⟩))
    unfold wI at hm2 ⊢
    refine wpm_mono hm2 (fun r2 σ2 hr2 => ?_)
    match r2, hr2 with
    | .inl (some (.inl w)), hr2 =>
      obtain ⟨⟨rfl, hI2⟩, -, hz3⟩ := hr2
      refine r_icmp_eq hx hb (dcd_at d4) (tgt := 2187) (by omega) ⟨fun _ => ?_, fun hne => absurd rfl hne⟩
      refine k σ2 _ x5 x6 hI2 (by rw [hz3]; exact hz2) ?_ ?_
      · rw [bm0]; show u.1 + _ + 0 ≤ _; omega
      · rw [bm0]; show u.2 + _ + 0 ≤ _; omega
    | .inr _, hr2 => exact hr2.1.elim
  | .inr _, hr => exact hr.1.elim
end LGV
