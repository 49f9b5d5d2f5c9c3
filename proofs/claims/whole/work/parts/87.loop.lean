/-! THE LAW'S LOOP -/
def lgPcs : List Nat := [2187, 220, 293, 349, 362, 418, 486, 554, 622, 702, 770, 838, 863, 888, 929, 1020, 1088, 1156, 1169, 1225, 1281, 1337, 1393, 1406, 1474, 1530, 1610, 1666, 1722, 1735, 1815, 1826, 1839, 1864, 1920, 2000, 2068, 2124, 2137, 2150, 2163, 2174]
def lgTl : List Nat := [1, 2, 3, 4, 5, 6, 7, 8, 9, 10, 11, 12, 13, 14, 15, 16, 17, 18, 19, 20, 21, 22, 23, 24, 25, 26, 27, 28, 29, 30, 31, 32, 33, 34, 35, 36, 37, 38, 39, 40, 41]
theorem swT_all {P : Nat → dK} {d : Nat} {x : Int} {u : Nat × Nat} {ls : dL} {r : List dX} {σ : dS} : ∀ (tl : List Nat) (a : Int), P d u ls r σ → (∀ lb ∈ tl, P lb u ls r σ) → swT P d x u ls r σ a tl
  | [], _, h, _ => h
  | lb :: tl, a, h, h2 => ⟨fun _ => h2 lb List.mem_cons_self, fun _ => swT_all tl (a + 1) h (fun q hq => h2 q (List.mem_cons_of_mem _ hq))⟩
section LGO
variable {p : Program} {l : Launch} {e : Env} {R : Room} {s : State} {m : MethodId} {args : Array Value} {below : List Frame} {meth : Method} {c : Code} {Qm : State → Prop} {G : dG} {pc b L : Nat} {xs : Nat → Int32} {u : Nat × Nat} {ls : dL} {st : List dX} {σ : dS} {i : Int} {x5 x6 : Option dX}
theorem lg_xln (E : lgE p l R s m args c G b L xs) (d : decode code pc = .ok (.arraylength, 1)) (k : VW p l e R s m args below meth c Qm G false 7 (pc + 1) u ls (.inl (L : Int) :: st) σ) : VW p l e R s m args below meth c Qm G false 7 pc u ls (.inr (.inr 100000) :: st) σ := by
  intro hn w1 w2 H locs la hW hS hl
  obtain ⟨⟨hx, hb, -⟩, -, hX, hbl, hbA, had, hL⟩ := E
  have ev : Int32.ofNat L = Int32.ofInt (L : Int) := by
    apply Int32.toInt_inj.mp
    rw [ti_oi (by unfold iR; omega)]
    exact nI_toInt (n := L) (by omega)
  show W p l e R s m args below meth c H locs u.1 u.2 Qm (F0 m pc la (.ref (adr G 100000) :: st.map (dv G)))
  rw [had]
  refine va_slen hx hb hX hbl hbA hS d ?_
  rw [ev]
  exact k hn w1 (wfs_c (v := .inl _) (by unfold wfx iR; omega) (wfs_t w2)) H locs la hW hS hl
theorem lg_all (E : lgE p l R s m args c G b L xs) (h0 : 0 ≤ i) (h1 : i + 5 < L) (hI : INV σ) (hz : σ 1000000 0 = 198) (hu1 : u.1 + 2 ≤ 601024) (hu2 : u.2 + 12 ≤ 7293034) (k : lgK p l e R s m args below meth c Qm G u i) : ∀ lb ∈ lgTl, ∀ t, lgPcs[lb]? = some t → VW p l e R s m args below meth c Qm G false 7 t u (lgL i x5 x6) [] σ := by
  unfold lgTl
  exact List.forall_mem_cons.mpr ⟨fun t ht => by cases ht; exact cs_0 E h0 h1 hI hz hu1 hu2 k, List.forall_mem_cons.mpr ⟨fun t ht => by cases ht; exact cs_1 E h0 h1 hI hz hu1 hu2 k, List.forall_mem_cons.mpr ⟨fun t ht => by cases ht; exact cs_2 E h0 h1 hI hz hu1 hu2 k, List.forall_mem_cons.mpr ⟨fun t ht => by cases ht; exact cs_3 E h0 h1 hI hz hu1 hu2 k, List.forall_mem_cons.mpr ⟨fun t ht => by cases ht; exact cs_4 E h0 h1 hI hz hu1 hu2 k, List.forall_mem_cons.mpr ⟨fun t ht => by cases ht; exact cs_5 E h0 h1 hI hz hu1 hu2 k, List.forall_mem_cons.mpr ⟨fun t ht => by cases ht; exact cs_6 E h0 h1 hI hz hu1 hu2 k, List.forall_mem_cons.mpr ⟨fun t ht => by cases ht; exact cs_7 E h0 h1 hI hz hu1 hu2 k, List.forall_mem_cons.mpr ⟨fun t ht => by cases ht; exact cs_8 E h0 h1 hI hz hu1 hu2 k, List.forall_mem_cons.mpr ⟨fun t ht => by cases ht; exact cs_9 E h0 h1 hI hz hu1 hu2 k, List.forall_mem_cons.mpr ⟨fun t ht => by cases ht; exact cs_10 E h0 h1 hI hz hu1 hu2 k, List.forall_mem_cons.mpr ⟨fun t ht => by cases ht; exact cs_11 E h0 h1 hI hz hu1 hu2 k, List.forall_mem_cons.mpr ⟨fun t ht => by cases ht; exact cs_12 E h0 h1 hI hz hu1 hu2 k, List.forall_mem_cons.mpr ⟨fun t ht => by cases ht; exact cs_13 E h0 h1 hI hz hu1 hu2 k, List.forall_mem_cons.mpr ⟨fun t ht => by cases ht; exact cs_14 E h0 h1 hI hz hu1 hu2 k, List.forall_mem_cons.mpr ⟨fun t ht => by cases ht; exact cs_15 E h0 h1 hI hz hu1 hu2 k, List.forall_mem_cons.mpr ⟨fun t ht => by cases ht; exact cs_16 E h0 h1 hI hz hu1 hu2 k, List.forall_mem_cons.mpr ⟨fun t ht => by cases ht; exact cs_17 E h0 h1 hI hz hu1 hu2 k, List.forall_mem_cons.mpr ⟨fun t ht => by cases ht; exact cs_18 E h0 h1 hI hz hu1 hu2 k, List.forall_mem_cons.mpr ⟨fun t ht => by cases ht; exact cs_19 E h0 h1 hI hz hu1 hu2 k, List.forall_mem_cons.mpr ⟨fun t ht => by cases ht; exact cs_20 E h0 h1 hI hz hu1 hu2 k, List.forall_mem_cons.mpr ⟨fun t ht => by cases ht; exact cs_21 E h0 h1 hI hz hu1 hu2 k, List.forall_mem_cons.mpr ⟨fun t ht => by cases ht; exact cs_22 E h0 h1 hI hz hu1 hu2 k, List.forall_mem_cons.mpr ⟨fun t ht => by cases ht; exact cs_23 E h0 h1 hI hz hu1 hu2 k, List.forall_mem_cons.mpr ⟨fun t ht => by cases ht; exact cs_24 E h0 h1 hI hz hu1 hu2 k, List.forall_mem_cons.mpr ⟨fun t ht => by cases ht; exact cs_25 E h0 h1 hI hz hu1 hu2 k, List.forall_mem_cons.mpr ⟨fun t ht => by cases ht; exact cs_26 E h0 h1 hI hz hu1 hu2 k, List.forall_mem_cons.mpr ⟨fun t ht => by cases ht; exact cs_27 E h0 h1 hI hz hu1 hu2 k, List.forall_mem_cons.mpr ⟨fun t ht => by cases ht; exact cs_28 E h0 h1 hI hz hu1 hu2 k, List.forall_mem_cons.mpr ⟨fun t ht => by cases ht; exact cs_29 E h0 h1 hI hz hu1 hu2 k, List.forall_mem_cons.mpr ⟨fun t ht => by cases ht; exact cs_30 E h0 h1 hI hz hu1 hu2 k, List.forall_mem_cons.mpr ⟨fun t ht => by cases ht; exact cs_31 E h0 h1 hI hz hu1 hu2 k, List.forall_mem_cons.mpr ⟨fun t ht => by cases ht; exact cs_32 E h0 h1 hI hz hu1 hu2 k, List.forall_mem_cons.mpr ⟨fun t ht => by cases ht; exact cs_33 E h0 h1 hI hz hu1 hu2 k, List.forall_mem_cons.mpr ⟨fun t ht => by cases ht; exact cs_34 E h0 h1 hI hz hu1 hu2 k, List.forall_mem_cons.mpr ⟨fun t ht => by cases ht; exact cs_35 E h0 h1 hI hz hu1 hu2 k, List.forall_mem_cons.mpr ⟨fun t ht => by cases ht; exact cs_36 E h0 h1 hI hz hu1 hu2 k, List.forall_mem_cons.mpr ⟨fun t ht => by cases ht; exact cs_37 E h0 h1 hI hz hu1 hu2 k, List.forall_mem_cons.mpr ⟨fun t ht => by cases ht; exact cs_38 E h0 h1 hI hz hu1 hu2 k, List.forall_mem_cons.mpr ⟨fun t ht => by cases ht; exact cs_39 E h0 h1 hI hz hu1 hu2 k, List.forall_mem_cons.mpr ⟨fun t ht => by cases ht; exact cs_40 E h0 h1 hI hz hu1 hu2 k, fun _ h => absurd h List.not_mem_nil⟩⟩⟩⟩⟩⟩⟩⟩⟩⟩⟩⟩⟩⟩⟩⟩⟩⟩⟩⟩⟩⟩⟩⟩⟩⟩⟩⟩⟩⟩⟩⟩⟩⟩⟩⟩⟩⟩⟩⟩⟩
theorem lg_step (E : lgE p l R s m args c G b L xs) (h0 : 0 ≤ i) (hi : i ≤ 4000) (hI : INV σ) (hz : σ 1000000 0 = 198) (he : VW p l e R s m args below meth c Qm G false 7 2193 u (lgL i x5 x6) [] σ) (kk : i + 5 < L → (u.1 + 2 ≤ 601024 ∧ u.2 + 12 ≤ 7293034) ∧ lgK p l e R s m args below meth c Qm G u i) : VW p l e R s m args below meth c Qm G false 7 23 u (lgL i x5 x6) [] σ := by
  have hx := E.1.1
  have hb := E.1.2.1
  have hL : L ≤ 3072 := E.2.2.2.2.2.2
  refine v_ilw (i := 4) (x := i) hx hb rfl (by decide +kernel) ?_
  refine v_al (n := 0) (t := 100000) hx hb rfl rfl (by decide +kernel) ?_
  refine lg_xln E (by decide +kernel) ?_
  refine r_bipush hx hb (a := 6) (by decide +kernel) (by decide) (by unfold iR; omega) ?_
  refine r_isub hx hb (by decide +kernel) ?_
  show VW p l e R s m args below meth c Qm G false 7 30 u (lgL i x5 x6) [.inl (wr ((L : Int) - 6)), .inl i] σ
  rw [wr_id (x := (L : Int) - 6) (by omega) (by omega)]
  refine r_icmp_gt hx hb (a := 2163) (tgt := 2193) (by decide +kernel) (by decide) ⟨fun _ => he, fun hlt => ?_⟩
  have h1 : i + 5 < L := by omega
  obtain ⟨⟨hu1, hu2⟩, k⟩ := kk h1
  refine v_al (n := 0) (t := 100000) hx hb rfl rfl (by decide +kernel) ?_
  refine v_ilw (i := 4) (x := i) hx hb rfl (by decide +kernel) ?_
  refine lg_ix E h0 (by omega) (by decide +kernel) ?_
  refine r_bipush hx hb (a := 63) (by decide +kernel) (by decide) (by unfold iR; omega) ?_
  refine r_iand hx hb (by decide +kernel) ?_
  refine r_tsw (pcs := lgPcs) (P := fun lb u ls st σ => ∀ t, lgPcs[lb]? = some t → VW p l e R s m args below meth c Qm G false 7 t u ls st σ) (a := 0) (b := 0) (tl := lgTl) hx hb (by decide +kernel) (fun lb t ht u ls st σ h => h t ht) ?_
  refine swT_all (P := fun lb u ls st σ => ∀ t, lgPcs[lb]? = some t → VW p l e R s m args below meth c Qm G false 7 t u ls st σ) (u := u) (ls := lgL i x5 x6) (r := []) (σ := σ) lgTl 0 (fun t ht => ?_) (lg_all (x5 := x5) (x6 := x6) E h0 h1 hI hz hu1 hu2 k)
  cases ht
  exact k σ u x5 x6 hI hz (by omega) (by omega)
theorem lg_loop (E : lgE p l R s m args c G b L xs) (hend : ∀ (u' : Nat × Nat) (ls' : dL) (σ' : dS), u'.1 ≤ 601024 → u'.2 ≤ 7293034 → VW p l e R s m args below meth c Qm G false 7 2193 u' ls' [] σ') : ∀ (n : Nat) (i : Int) (u : Nat × Nat) (σ : dS) (x5 x6 : Option dX), 0 ≤ i → i ≤ 4000 → (L : Int) - i < n → INV σ → σ 1000000 0 = 198 → u.1 + 2 * n ≤ 601024 → u.2 + 12 * n ≤ 7293034 → VW p l e R s m args below meth c Qm G false 7 23 u (lgL i x5 x6) [] σ
  | 0, i, u, σ, x5, x6, h0, hi, hn, hI, hz, hu1, hu2 => lg_step E h0 hi hI hz (hend u _ σ (by omega) (by omega)) (fun h => absurd h (by omega))
  | n + 1, i, u, σ, x5, x6, h0, hi, hn, hI, hz, hu1, hu2 => by
    have hL : L ≤ 3072 := E.2.2.2.2.2.2
    have hx := E.1.1
    have hb := E.1.2.1
    refine lg_step E h0 hi hI hz (hend u _ σ (by omega) (by omega)) (fun h => ⟨⟨by omega, by omega⟩, fun σ2 u' y5 y6 hI2 hz2 b1 b2 => ?_⟩)
    refine r_iinc (i := 4) (a := 6) hx hb (by decide +kernel) ?_
    refine ⟨⟨Nat.le_of_ble_eq_true rfl, Or.inr rfl⟩, ?_⟩
    show VW p l e R s m args below meth c Qm G false 7 2190 u' (lgL (wr (i + 6)) y5 y6) [] σ2
    rw [wr_id (x := i + 6) (by omega) (by omega)]
    refine r_goto hx hb (a := -2167) (tgt := 23) (by decide +kernel) (by decide) ?_
    exact lg_loop E hend n (i + 6) u' σ2 y5 y6 (by omega) (by omega) (by omega) hI2 hz2 (by omega) (by omega)
end LGO
