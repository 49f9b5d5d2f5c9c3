/-! THE LAW'S BODY: a call that may throw, by way of the law's own method -/
def okWr (w : lgR) (bw n : Nat) : Prop := (Cond.codeWith w.1 w.2.1 w.2.2.1 (some .int) w.2.2.2 ∈ TBg ∧ Cond.methodLink "WingTramsLaw" bw w.1 ∈ TBg ∧ Cond.static w.1 ∈ TBg ∧ Cond.initialized w.1.cls ∈ TBg) ∧ (w.1.cls ≠ "java/lang/invoke/MethodHandle" ∧ w.1.cls ≠ "java/lang/invoke/VarHandle") ∧ (parseMethodDescriptor w.1.desc).map (fun d => d.parameters.length) = some n ∧ w.2.2.1 ≤ 10
def tvZ (nz : Bool) : Int → Int := if nz = true then nz1 else id
def ckB3 (pc bm : Nat) (nz : Bool) : Bool := dcd code pc (.invokevirtual bm) 3 && (dcd code (pc + 3) (.istore 6) 2 && (dcd code (pc + 5) (.aload_n 2) 1 && (dcd code (pc + 6) (.invokevirtual 107) 3 && (dcd code (pc + 9) (.iload 5) 2 && (dcd code (pc + 11) (.if_icmp .eq 5) 3 && (dcd code (pc + 16) (.iload 5) 2 && (dcd code (pc + 18) (.ifCond .ne (if nz = true then 22 else 15)) 3 && (dcd code (pc + 21) (.aload_n 3) 1 && (dcd code (pc + 22) (.iconst 0) 1 && (dcd code (pc + 23) .laload 1 && (dcd code (pc + 24) (.iload 6) 2 &&
  (if nz = true then dcd code (pc + 26) (.ifCond .eq 7) 3 && (dcd code (pc + 29) (.lconst 1) 1 && (dcd code (pc + 30) (.goto 4) 3 && (dcd code (pc + 33) (.lconst 0) 1 && (dcd code (pc + 34) .lcmp 1 && (dcd code (pc + 35) (.ifCond .eq 5) 3 && dcd code (pc + 40) (.goto (2187 - ((pc + 40 : Nat) : Int))) 3)))))
   else dcd code (pc + 26) .i2l 1 && (dcd code (pc + 27) .lcmp 1 && (dcd code (pc + 28) (.ifCond .eq 5) 3 && dcd code (pc + 33) (.goto (2187 - ((pc + 33 : Nat) : Int))) 3))))))))))))))
def ckB2 (pc : Nat) (qs : List (Nat × Bool)) (bm : Nat) (nz : Bool) : Bool := dcd code pc (.istore 5) 2 && (dcd code (pc + 2) (.aload_n 2) 1 && (ckAs (pc + 2 + 1) qs && ckB3 (pc + 2 + 1 + aLn qs) bm nz))
def ckB (pc : Nat) (qs : List (Nat × Bool)) (bw bm : Nat) (nz : Bool) : Bool := dcd code pc (.aload_n 1) 1 && (ckAs (pc + 1) qs && (dcd code (pc + 1 + aLn qs) (.aload_n 3) 1 && (dcd code (pc + 1 + aLn qs + 1) (.invokestatic bw) 3 && ckB2 (pc + 1 + aLn qs + 1 + 3) qs bm nz)))
theorem lgPc_blind {G : dG} {as : List dX} {σ : dS} : FrameBlind (lgPc G as σ) := fun a U fs h9 h => ⟨dPc_blind a U fs h9 h.1, h.2⟩
theorem wt_c1 : ∀ {as : List dX}, (∀ v ∈ as, c1 v = true) → wt as = as.length
  | [], _ => rfl
  | v :: r, h => by
    have h1 := h v List.mem_cons_self
    have ih := wt_c1 (as := r) (fun w hw => h w (List.mem_cons_of_mem _ hw))
    show (if c1 v = true then 1 else 2) + wt r = r.length + 1
    rw [if_pos h1, ih]
    omega
theorem cmp_self (x : Int) : cmp x x = 0 := by unfold cmp; simp
theorem sp197 : spx 197 = some (.inl (1, 2)) := spA9.2.2.2.2.2.2.2.2.2.2.2.2.2.2.2.2.2
theorem lohi_up {σ : dS} {x : Int} (h : lS x) : wrL (up (up σ 197 0 (lo32 x)) 197 (-1) (hi32 x) 197 0 + 4294967296 * up (up σ 197 0 (lo32 x)) 197 (-1) (hi32 x) 197 (-1)) = x := by
  rw [up_same, up_ne _ (k := 197) (k' := 197) (i := -1) (i' := 0) (fun z => absurd z.2 (by decide)), up_same, lohi]
  refine wrL_eq ?_
  unfold lS at h
  unfold lR
  omega
section LGB
variable {p : Program} {l : Launch} {e : Env} {R : Room} {s : State} {m : MethodId} {args : Array Value} {below : List Frame} {meth : Method} {c : Code} {Qm : State → Prop} {G : dG} {pc b L : Nat} {xs : Nat → Int32} {u : Nat × Nat} {ls : dL} {st : List dX} {σ : dS} {i : Int} {x5 x6 : Option dX}
theorem lg_sc {w : lgR} {bw n mc ms : Nat} {as1 : List dX} (E : lgE p l R s m args c G b L xs) (hw : okWr w bw n) (hn1 : as1.length = n) (d : decode code pc = .ok (.invokestatic bw, 3)) (h1 : u.1 + mc ≤ 601024) (h2 : u.2 + ms ≤ 7293034)
    (hM : vx_Met l w.1 (lgWs w) (dRm 81 mc ms) (lgPc G as1 σ) (dQc G false (fun r S => match r with
      | .inl (some (.inl v)) => VW p l e R s m args below meth c Qm G false 7 (pc + 3) (u.1 + mc, u.2 + ms) ls [.inl v] S
      | _ => False)) (dXC G false (fun r S => match r with
      | .inl (some (.inl v)) => VW p l e R s m args below meth c Qm G false 7 (pc + 3) (u.1 + mc, u.2 + ms) ls [.inl v] S
      | _ => False)) mc ms (rg G)) : VW p l e R s m args below meth c Qm G false 7 pc u ls as1.reverse σ := by
  intro hn w1 w2 H locs la hW hS hl
  obtain ⟨⟨hx, hb, hml, hts, hown, hE⟩, ⟨hNc, hl0, hRf, hRl, hRc, hRs⟩, -⟩ := E
  obtain ⟨⟨k1, k2, k3, k4⟩, hcls, hpar, hmx⟩ := hw
  have good : ∀ w ∈ TBg, ∀ (a' : Array Value) (U : State), s.WarmedH U.vm → w.before a' U = true := fun w hw a' U hW => word_at hW (good_of_word (List.mem_filter.mp hw).2) (hts w hw)
  have cw : vx_CSW R s args "WingTramsLaw" bw w.1 w.2.1 w.2.2.1 (some .int) w.2.2.2 (lgWs w) (dRm 81 mc ms) mc ms n := by
    refine ⟨⟨rfl, rfl, by show 81 + 20 + 1 ≤ R.frames; omega, by show 8 + (w.2.2.1 + 11) + (60 * 81 + 400) ≤ R.locals; omega, fun w' hw' => ?_, List.mem_cons_self⟩, hts _ k1, hts _ k4, hcls, fun sig h => ?_, hts _ k2, hts _ k3⟩
    · rcases List.mem_cons.mp hw' with rfl | hw'
      · exact good _ k1
      · exact good _ hw'
    · rw [h] at hpar
      exact (Option.some.inj hpar).symm
  have hrun := vx_runSX (e := e) (below := below) (meth := meth) (H := H) (locs := locs) (cells := u.1) (slots := u.2) (As := as1.map (dv G)) (rest := ([] : List dX).map (dv G)) (g := F0 m pc la ((as1.map (dv G)).reverse ++ ([] : List dX).map (dv G))) ⟨hx, hb, hml, hown, hts⟩ hM cw ⟨lgPc_blind, fun U hU hWm => ⟨⟨rfl, by rw [hU]; exact hW, by rw [hU]; exact hE.warm hWm hS.2.1⟩, va_Nc.moved hWm.alike hNc⟩⟩ rfl (by rw [List.length_map]; exact hn1) hl.1 rfl (Nat.zero_le 8) d ⟨Nat.le_trans h1 hRc, Nat.le_trans h2 hRs⟩
  have e9 : as1.reverse.map (dv G) = (as1.map (dv G)).reverse ++ ([] : List dX).map (dv G) := by rw [List.map_reverse]; exact (List.append_nil _).symm
  rw [e9]
  refine q_run hrun hS ?_ ?_
  · intro res σ' H1 locs1 hwf hQ hW1 hS1
    match res, hQ, hwf with
    | some (.inl v), hQ, hwf => exact hQ hn w1 (wfs_c (hwf _ rfl) (fun v hv => absurd hv List.not_mem_nil)) H1 locs1 la hW1 hS1 hl
  · intro x σ' H1 locs1 ce q9 hQ
    exact hQ.elim
/-- behind the reference's call -/
theorem lg_B3 {bm : Nat} {nz : Bool} {cv v w : Int} {m157 : dM} (E : lgE p l R s m args c G b L xs) (ck : ckB3 pc bm nz = true) (k7 : lnk 157 107 1 13 m157) (m70 : m157.2.2.2.2.2.2.1 = (0, 0)) (hI : INV σ) (hz : σ 1000000 0 = 198) (hc : σ 153 0 = cv) (hv : cv = 0 → w = v ∧ wrL (σ 197 0 + 4294967296 * σ 197 (-1)) = tvZ nz v) {u0 : Nat × Nat} (hu1 : u.1 ≤ u0.1 + 2) (hu2 : u.2 ≤ u0.2 + 12) (hu3 : u0.1 + 2 ≤ 601024) (hu4 : u0.2 + 12 ≤ 7293034)
    (k : lgK p l e R s m args below meth c Qm G u0 i) : VW p l e R s m args below meth c Qm G false 7 (pc + 3) u (lgL i (some (.inl cv)) x6) [.inl w] σ := by
  unfold ckB3 at ck
  simp only [Bool.and_eq_true] at ck
  obtain ⟨-, d1, d2, d3, d4, d5, d6, d7, d8, d9, d10, d11, dt⟩ := ck
  have hx := E.1.1
  have hb := E.1.2.1
  have hE := E.1.2.2.2.2.2
  refine r_istore hx hb (dcd_at d1) ?_
  refine ⟨⟨Nat.le_of_ble_eq_true rfl, Or.inr rfl⟩, ?_⟩
  show VW p l e R s m args below meth c Qm G false 7 _ u (lgL i (some (.inl cv)) (some (.inl w))) [] σ
  refine v_al (n := 2) (t := 153) hx hb rfl rfl (dcd_at d2) ?_
  obtain ⟨fs, hs⟩ := sp153
  refine lg_vc (as := []) (r := []) E k7 (dcd_at d3) (by rw [m70]; show _ + 0 ≤ _; omega) (by rw [m70]; show _ + 0 ≤ _; omega) rfl (Nat.zero_le 8) hs ?_
  refine c157 (d := 78) (b157_0 ?_)
  rw [m70]
  show VW p l e R s m args below meth c Qm G false 7 _ (u.1 + 0, u.2 + 0) (lgL i (some (.inl cv)) (some (.inl w))) [.inl (σ 153 0)] σ
  rw [hc]
  refine v_ilw (i := 5) (x := cv) hx hb rfl (dcd_at d4) ?_
  refine r_icmp_eq hx hb (dcd_at d5) (tgt := pc + 16) (by omega) ⟨fun _ => ?_, fun hne => absurd rfl hne⟩
  refine v_ilw (i := 5) (x := cv) hx hb rfl (dcd_at d6) ?_
  have fin : ∀ {pc9 : Nat}, dcd code pc9 (.goto (2187 - ((pc9 : Nat) : Int))) 3 = true → VW p l e R s m args below meth c Qm G false 7 pc9 (u.1 + 0, u.2 + 0) (lgL i (some (.inl cv)) (some (.inl w))) [] σ := by
    intro pc9 d9
    exact r_goto hx hb (dcd_at d9) (tgt := 2187) (by omega) (k σ _ _ _ hI hz hu1 hu2)
  cases nz with
  | false =>
    simp only [Bool.false_eq_true, if_false, Bool.and_eq_true] at dt d7
    obtain ⟨t0, t1, t2, t3⟩ := dt
    refine r_if_ne hx hb (dcd_at d7) (tgt := pc + 33) (by omega) ⟨fun _ => fin t3, fun h0 => ?_⟩
    obtain ⟨rfl, ho⟩ := hv (Decidable.of_not_not h0)
    refine v_al (n := 3) (t := 197) hx hb rfl rfl (dcd_at d8) ?_
    refine r_iconst hx hb (dcd_at d9) (by unfold iR; omega) ?_
    refine r_lald hx hb rfl hE.1 (dcd_at d10) ?_
    refine ⟨rfl, Int.le_refl 0, by decide, ?_⟩
    rw [show (-1 - 0 : Int) = -1 from rfl, ho]
    refine v_ilw (i := 6) (x := w) hx hb rfl (dcd_at d11) ?_
    refine r_i2l hx hb (dcd_at t0) ?_
    refine r_lcmp hx hb (dcd_at t1) ?_
    show VW p l e R s m args below meth c Qm G false 7 _ _ _ [.inl (cmp w w)] σ
    rw [cmp_self]
    exact r_if_eq hx hb (dcd_at t2) (tgt := pc + 33) (by omega) ⟨fun _ => fin t3, fun hne => absurd rfl hne⟩
  | true =>
    simp only [if_true, Bool.and_eq_true] at dt d7
    obtain ⟨t0, t1, t2, t3, t4, t5, t6⟩ := dt
    refine r_if_ne hx hb (dcd_at d7) (tgt := pc + 40) (by omega) ⟨fun _ => fin t6, fun h0 => ?_⟩
    obtain ⟨rfl, ho⟩ := hv (Decidable.of_not_not h0)
    refine v_al (n := 3) (t := 197) hx hb rfl rfl (dcd_at d8) ?_
    refine r_iconst hx hb (dcd_at d9) (by unfold iR; omega) ?_
    refine r_lald hx hb rfl hE.1 (dcd_at d10) ?_
    refine ⟨rfl, Int.le_refl 0, by decide, ?_⟩
    rw [show (-1 - 0 : Int) = -1 from rfl, ho]
    refine v_ilw (i := 6) (x := w) hx hb rfl (dcd_at d11) ?_
    have last : VW p l e R s m args below meth c Qm G false 7 (pc + 34) (u.1 + 0, u.2 + 0) (lgL i (some (.inl cv)) (some (.inl w))) [.inr (.inl (nz1 w)), .inr (.inl (nz1 w))] σ := by
      refine r_lcmp hx hb (dcd_at t4) ?_
      show VW p l e R s m args below meth c Qm G false 7 _ _ _ [.inl (cmp (nz1 w) (nz1 w))] σ
      rw [cmp_self]
      exact r_if_eq hx hb (dcd_at t5) (tgt := pc + 40) (by omega) ⟨fun _ => fin t6, fun hne => absurd rfl hne⟩
    show VW p l e R s m args below meth c Qm G false 7 _ (u.1 + 0, u.2 + 0) (lgL i (some (.inl cv)) (some (.inl w))) [.inl w, .inr (.inl (nz1 w))] σ
    refine r_if_eq hx hb (dcd_at t0) (tgt := pc + 33) (by omega) ⟨fun hz0 => ?_, fun hz0 => ?_⟩
    · have e0 : nz1 w = 0 := if_pos hz0
      rw [e0] at last ⊢
      exact r_lconst (a := 0) hx hb (dcd_at t3) rfl (by unfold lR; omega) last
    · have e0 : nz1 w = 1 := if_neg hz0
      rw [e0] at last ⊢
      refine r_lconst (a := 1) hx hb (dcd_at t1) rfl (by unfold lR; omega) ?_
      exact r_goto hx hb (dcd_at t2) (tgt := pc + 34) (by omega) last
/-- behind the law's own method -/
theorem lg_B2 {qs : List (Nat × Bool)} {ym bm n : Nat} {nz : Bool} {cv v : Int} {qm m157 : dM} (E : lgE p l R s m args c G b L xs) (ck : ckB2 pc qs bm nz = true) (km : lnk ym bm n 13 qm) (k7 : lnk 157 107 1 13 m157) (m70 : m157.2.2.2.2.2.2.1 = (0, 0)) (bm0 : qm.2.2.2.2.2.2.1 = (0, 0)) (hn : qs.length + 1 = n) (h0 : 0 ≤ i) (h1 : i + 5 < L) (hz : σ 1000000 0 = 198) (ho : cv = 0 → wrL (σ 197 0 + 4294967296 * σ 197 (-1)) = tvZ nz v)
    (hm : ∀ (Km : Int → dS → Prop), (∀ w σ2, σ2 153 0 = cv → INV σ2 → (cv = 0 → w = v) → Km w σ2) → wI 80 ym (.inr (.inr 153) :: aVs xs i qs) σ (fun _ _ => False) Km) {u0 : Nat × Nat} (hu1 : u.1 ≤ u0.1 + 2) (hu2 : u.2 ≤ u0.2 + 12) (hu3 : u0.1 + 2 ≤ 601024) (hu4 : u0.2 + 12 ≤ 7293034)
    (k : lgK p l e R s m args below meth c Qm G u0 i) : VW p l e R s m args below meth c Qm G false 7 pc u (lgL i x5 x6) [.inl cv] σ := by
  unfold ckB2 at ck
  simp only [Bool.and_eq_true] at ck
  obtain ⟨d0, d1, c2, c3⟩ := ck
  have hx := E.1.1
  have hb := E.1.2.1
  refine r_istore hx hb (dcd_at d0) ?_
  refine ⟨⟨Nat.le_of_ble_eq_true rfl, Or.inr rfl⟩, ?_⟩
  show VW p l e R s m args below meth c Qm G false 7 _ u (lgL i (some (.inl cv)) x6) [] σ
  refine v_al (n := 2) (t := 153) hx hb rfl rfl (dcd_at d1) ?_
  refine lg_as qs _ _ E c2 h0 h1 ?_
  obtain ⟨fs, hs⟩ := sp153
  have d2 : decode code (pc + 2 + 1 + aLn qs) = .ok (.invokevirtual bm, 3) := by
    have c4 := c3
    unfold ckB3 at c4
    simp only [Bool.and_eq_true] at c4
    exact dcd_at c4.1
  refine lg_vc E km d2 (by rw [bm0]; show _ + 0 ≤ _; omega) (by rw [bm0]; show _ + 0 ≤ _; omega) (by rw [aVs_len]; exact hn) (Nat.zero_le 8) hs ?_
  have hm2 := wI_n (aVs_nr 153 (by decide) xs i qs) hz (hm (fun w σ2 => σ2 153 0 = cv ∧ INV σ2 ∧ (cv = 0 → w = v)) (fun w σ2 a1 a2 a3 => ⟨a1, a2, a3⟩))
  unfold wI at hm2 ⊢
  refine wpm_mono hm2 (fun r2 σ2 hr2 => ?_)
  match r2, hr2 with
  | .inl (some (.inl w)), hr2 =>
    obtain ⟨⟨a1, a2, a3⟩, e1, e2⟩ := hr2
    refine lg_B3 (v := v) (u0 := u0) E c3 k7 m70 a2 (by rw [e2]; exact hz) a1 (fun hc0 => ⟨a3 hc0, by rw [e1]; exact ho hc0⟩) ?_ ?_ hu3 hu4 k
    · rw [bm0]; show u.1 + 0 ≤ _; omega
    · rw [bm0]; show u.2 + 0 ≤ _; omega
  | .inr _, hr2 => exact hr2.1.elim
theorem lg_B {qs : List (Nat × Bool)} {yx ym bw bm n mc ms : Nat} {nz : Bool} {cd : Nat → Option Int} {w : lgR} {qm m157 : dM} (E : lgE p l R s m args c G b L xs) (ck : ckB pc qs bw bm nz = true) (hw : okWr w bw (n + 1)) (km : lnk ym bm n 13 qm) (k7 : lnk 157 107 1 13 m157) (m70 : m157.2.2.2.2.2.2.1 = (0, 0)) (bm0 : qm.2.2.2.2.2.2.1 = (0, 0)) (hn : qs.length + 1 = n) (bx1 : mc ≤ 2) (bx2 : ms ≤ 12) (h0 : 0 ≤ i) (h1 : i + 5 < L) (hz : σ 1000000 0 = 198) (hu3 : u.1 + 2 ≤ 601024) (hu4 : u.2 + 12 ≤ 7293034)
    (hM : ∀ Q : dR → dS → Prop, wpm blk inf 80 yx (.inr (.inr 0) :: aVs xs i qs) σ (lgQ cd (tvZ nz) Q) → vx_Met l w.1 (lgWs w) (dRm 81 mc ms) (lgPc G (.inr (.inr 0) :: (aVs xs i qs ++ [.inr (.inr 197)])) σ) (dQc G false Q) (dXC G false Q) mc ms (rg G))
    (hp : ∀ (Q : dR → dS → Prop) (K : Int → dS → Prop), (∀ v σ1, PRN 80 ym (.inr (.inr 153) :: aVs xs i qs) v σ1 → K v σ1) → (∀ x cv σ1, cd x = some cv → PRE 80 ym (.inr (.inr 153) :: aVs xs i qs) cv σ1 → Q (.inr x) σ1) → wI 80 yx (.inr (.inr 0) :: aVs xs i qs) σ Q K)
    (hcd : ∀ x cv, cd x = some cv → cv ≠ 0) (k : lgK p l e R s m args below meth c Qm G u i) : VW p l e R s m args below meth c Qm G false 7 pc u (lgL i x5 x6) [] σ := by
  unfold ckB at ck
  simp only [Bool.and_eq_true] at ck
  obtain ⟨d0, c1, d1, d2, c2⟩ := ck
  have hx := E.1.1
  have hb := E.1.2.1
  refine v_al (n := 1) (t := 0) hx hb rfl rfl (dcd_at d0) ?_
  refine lg_as qs _ _ E c1 h0 h1 ?_
  refine v_al (n := 3) (t := 197) hx hb rfl rfl (dcd_at d1) ?_
  have e9 : (.inr (.inr 197) :: ((aVs xs i qs).reverse ++ [.inr (.inr 0)]) : List dX) = (.inr (.inr 0) :: (aVs xs i qs ++ [.inr (.inr 197)]) : List dX).reverse := by
    rw [List.reverse_cons, List.reverse_append]
    rfl
  rw [e9]
  refine lg_sc (w := w) (mc := mc) (ms := ms) E hw (by rw [List.length_cons, List.length_append, aVs_len]; show qs.length + 1 + 1 = n + 1; omega) (dcd_at d2) (by omega) (by omega) (hM _ ?_)
  have hp2 := wI_n (aVs_nr 0 (by decide) xs i qs) hz (hp (fun r σ1 => match r with
    | .inr x => ∃ cv, cd x = some cv ∧ PRE 80 ym (.inr (.inr 153) :: aVs xs i qs) cv σ1
    | _ => False) (fun v σ1 => PRN 80 ym (.inr (.inr 153) :: aVs xs i qs) v σ1) (fun v σ1 h => h) (fun x cv σ1 a1 a2 => ⟨cv, a1, a2⟩))
  unfold wI at hp2
  refine wpm_mono hp2 (fun r σ1 hr => ?_)
  match r, hr with
  | .inl (some (.inl v)), hr =>
    obtain ⟨hm, -, e2⟩ := hr
    intro hv
    have hls : lS (tvZ nz v) := by
      unfold tvZ
      split
      · exact nz1_lS
      · exact iR_lS hv
    refine ⟨hls, ?_⟩
    have hO : OUT (up (up σ1 197 0 (lo32 (tvZ nz v))) 197 (-1) (hi32 (tvZ nz v))) σ1 := fun k hk => by rw [up_row hk, up_row hk]
    refine lg_B2 (cv := 0) (v := v) (u0 := u) E c2 km k7 m70 bm0 hn h0 h1 ?_ (fun _ => ?_) (fun Km hK => hm _ hO _ _ (fun σ2 a1 a2 => hK v σ2 a1 a2 (fun _ => rfl))) (by show u.1 + mc ≤ _; omega) (by show u.2 + ms ≤ _; omega) hu3 hu4 k
    · rw [hO 1000000 (by decide), e2]; exact hz
    · exact lohi_up hls
  | .inr x, hr =>
    obtain ⟨⟨cv, hcv, hm⟩, -, e2⟩ := hr
    refine ⟨cv, hcv, ?_⟩
    exact lg_B2 (cv := cv) (v := 0) (u0 := u) E c2 km k7 m70 bm0 hn h0 h1 (by rw [e2]; exact hz) (fun z => absurd z (hcd x cv hcv)) (fun Km hK => hm _ (OUT_r σ1) _ _ (fun w σ2 a1 a2 => hK w σ2 a1 a2 (fun z => absurd z (hcd x cv hcv)))) (by show u.1 + mc ≤ _; omega) (by show u.2 + ms ≤ _; omega) hu3 hu4 k
def ckV (pc bx bm : Nat) : Bool := dcd code pc (.aload_n 1) 1 && (dcd code (pc + 1) (.invokevirtual bx) 3 && (dcd code (pc + 4) (.aload_n 2) 1 && (dcd code (pc + 5) (.invokevirtual bm) 3 && dcd code (pc + 8) (.goto (2187 - ((pc + 8 : Nat) : Int))) 3)))
theorem lg_V {yx ym bx bm : Nat} {qx qm : dM} (E : lgE p l R s m args c G b L xs) (ck : ckV pc bx bm = true) (kx : lnk yx bx 1 12 qx) (km : lnk ym bm 1 13 qm) (bx1 : qx.2.2.2.2.2.2.1.1 ≤ 2) (bx2 : qx.2.2.2.2.2.2.1.2 ≤ 12) (bm0 : qm.2.2.2.2.2.2.1 = (0, 0)) (hz : σ 1000000 0 = 198) (hu1 : u.1 + 2 ≤ 601024) (hu2 : u.2 + 12 ≤ 7293034)
    (hp : ∀ (Q : dR → dS → Prop) (K : dS → Prop), (∀ σ1, PRV 80 ym [.inr (.inr 153)] σ1 → K σ1) → wV 80 yx [.inr (.inr 0)] σ Q K) (k : lgK p l e R s m args below meth c Qm G u i) : VW p l e R s m args below meth c Qm G false 7 pc u (lgL i x5 x6) [] σ := by
  unfold ckV at ck
  simp only [Bool.and_eq_true] at ck
  obtain ⟨d0, d1, d2, d3, d4⟩ := ck
  have hx := E.1.1
  have hb := E.1.2.1
  refine v_al (n := 1) (t := 0) hx hb rfl rfl (dcd_at d0) ?_
  refine lg_vv (as := []) (r := []) E kx (dcd_at d1) (by omega) (by omega) rfl (Nat.zero_le 8) spA0.1 ?_
  have hp2 := wV_n (nrs_c (nrx_r (t := 0) (by decide)) (fun v hv => absurd hv List.not_mem_nil)) hz (hp (fun _ _ => False) (fun σ1 => PRV 80 ym [.inr (.inr 153)] σ1) (fun σ1 h => h))
  unfold wV at hp2 ⊢
  refine wpm_mono hp2 (fun r σ1 hr => ?_)
  match r, hr with
  | .inl none, hr =>
    obtain ⟨hm, -, hz1⟩ := hr
    refine v_al (n := 2) (t := 153) hx hb rfl rfl (dcd_at d2) ?_
    have hz2 : σ1 1000000 0 = 198 := by rw [hz1]; exact hz
    obtain ⟨fs, hs⟩ := sp153
    refine lg_vv (as := []) (r := []) E km (dcd_at d3) (by rw [bm0]; show _ + 0 ≤ _; omega) (by rw [bm0]; show _ + 0 ≤ _; omega) rfl (Nat.zero_le 8) hs ?_
    have hm2 := wV_n (nrs_c (nrx_r (t := 153) (by decide)) (fun v hv => absurd hv List.not_mem_nil)) hz2 (hm σ1 (OUT_r σ1) (fun _ _ => False) (fun σ2 => INV σ2) (fun σ2 hI2 => hI2))
    unfold wV at hm2 ⊢
    refine wpm_mono hm2 (fun r2 σ2 hr2 => ?_)
    match r2, hr2 with
    | .inl none, hr2 =>
      obtain ⟨hI2, -, hz3⟩ := hr2
      refine r_goto hx hb (dcd_at d4) (tgt := 2187) (by omega) ?_
      refine k σ2 _ x5 x6 hI2 (by rw [hz3]; exact hz2) ?_ ?_
      · rw [bm0]; show u.1 + _ + 0 ≤ _; omega
      · rw [bm0]; show u.2 + _ + 0 ≤ _; omega
    | .inr _, hr2 => exact hr2.1.elim
  | .inr _, hr => exact hr.1.elim
end LGB
