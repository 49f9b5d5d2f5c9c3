/-! WHAT IS MADE holds what holds between calls -/
def mdS : dS := ov mdW
/-- every reference is set, every cell is there -/
theorem md_refs : ((List.range 198).all (fun k => match spx k with
    | some (.inr (_, fs)) => (List.range fs.length).all (fun j => match fs[j]? with
      | some (_ + 2) => decide (ov mdW k ((j : Nat) : Int) = 1)
      | _ => true)
    | _ => true)) = true := by decide +kernel
theorem md_cnt : mdS 1000000 0 = 198 := by
  show ov mdW 1000000 0 = 198
  decide +kernel
theorem md_rng : (mdW.all (fun w => decide (-2147483648 ≤ w.2.2) && decide (w.2.2 < 2147483648))) = true := by decide +kernel
theorem md_no : (([9, 2, 161, 162, 4, 154, 77, 79, 81, 176, 84, 86, 88, 192, 189, 148] : List Nat).all (fun k => mdW.all (fun w => decide (w.1 ≠ k)))) = true := by decide +kernel
theorem md_0 {k : Nat} (hk : k ∈ ([9, 2, 161, 162, 4, 154, 77, 79, 81, 176, 84, 86, 88, 192, 189, 148] : List Nat)) : ∀ i, mdS k i = 0 := ov_no (List.all_eq_true.mp md_no k hk)
def mdV : List (Nat × Int × Int) := [(5, 0, 0), (5, 1, 0), (5, 2, 0), (5, 3, 0), (5, 4, 360), (26, 0, 0), (153, 1, 0), (153, 2, 0), (153, 3, 0), (153, 4, 0), (153, 5, 0), (153, 6, 360), (70, 0, -1), (70, 1, 0), (70, 2, 0), (70, 3, 0), (174, 0, -1), (174, 1, 0), (174, 2, 0), (174, 3, 0), (153, 15, 0), (0, 1, 0), (153, 17, -1), (0, 2, -1), (75, 0, 0), (75, 1, 40), (82, 0, 0), (82, 1, 8), (153, 50, 0), (153, 67, 0), (153, 65, 0), (0, 17, 0), (153, 70, 0), (0, 10, 0)]
theorem mdV_ok : (mdV.all (fun w => decide (ov mdW w.1 w.2.1 = w.2.2))) = true := by decide +kernel
theorem md_v {k : Nat} {i v : Int} (h : (k, i, v) ∈ mdV) : mdS k i = v := of_decide_eq_true (List.all_eq_true.mp mdV_ok (k, i, v) h)
theorem md_INV : INV mdS := by
  have a0 : mdS 5 0 = 0 := md_v (by decide)
  have a1 : mdS 5 1 = 0 := md_v (by decide)
  have a2 : mdS 5 2 = 0 := md_v (by decide)
  have a3 : mdS 5 3 = 0 := md_v (by decide)
  have a4 : mdS 5 4 = 360 := md_v (by decide)
  have a26 : mdS 26 0 = 0 := md_v (by decide)
  have b0 : mdS 70 0 = -1 := md_v (by decide)
  have b1 : mdS 70 1 = 0 := md_v (by decide)
  have b2 : mdS 70 2 = 0 := md_v (by decide)
  have b3 : mdS 70 3 = 0 := md_v (by decide)
  have c1 : mdS 0 1 = 0 := md_v (by decide)
  have c75 : mdS 75 0 = 0 := md_v (by decide)
  have c82 : mdS 82 0 = 0 := md_v (by decide)
  have d17 : mdS 0 17 = 0 := md_v (by decide)
  have d10 : mdS 0 10 = 0 := md_v (by decide)
  have e50 : mdS 153 50 = 0 := md_v (by decide)
  have e67 : mdS 153 67 = 0 := md_v (by decide)
  refine ⟨⟨by omega, by omega, by omega, by omega, by omega, fun o o0 o1 => by omega, fun p p0 p1 => by omega, fun r r0 r1 => by omega⟩, ⟨?_, ?_, ?_, ?_, ?_, fun k k0 k1 => ?_, fun o o0 o1 => by omega, fun p p0 p1 => by omega, rfl, rfl⟩, ?_, ⟨by omega, fun a b a0 a1 b0 b1 => ?_⟩, ⟨⟨by omega, by omega, by omega, by omega, fun r r0 r1 => by omega, fun o o0 o1 => by omega⟩, fun o o0 o1 => by omega⟩, ⟨?_, ?_, ?_, ?_, fun r r0 r1 => by omega, fun o o0 o1 => by omega⟩, ⟨?_, by omega, by omega, fun k k0 k1 => by omega⟩, fun k k0 k3 => ?_, ?_, ⟨md_v (by decide), md_v (by decide)⟩, ⟨by rw [c75, e50], by omega, by omega, fun k k0 k1 => by omega⟩, ⟨by rw [c82, e67], by omega, by omega, fun k k0 k1 => by omega⟩, ⟨?_, Or.inl d17, fun z => by omega⟩, ⟨?_, Or.inl d10, fun z => by omega⟩, fun a b a0' a1' b0' b1' => by omega⟩
  · rw [a0]; exact md_v (by decide)
  · rw [a2]; exact md_v (by decide)
  · rw [a3]; exact md_v (by decide)
  · rw [a26]; exact md_v (by decide)
  · rw [a4]; exact md_v (by decide)
  · rw [md_0 (k := 154) (by decide), md_0 (k := 9) (by decide)]
  · rw [a1]; exact md_v (by decide)
  · rw [md_0 (k := 9) (by decide), md_0 (k := 9) (by decide)]; decide
  · rw [b0]; exact md_v (by decide)
  · rw [b1]; exact md_v (by decide)
  · rw [b2]; exact md_v (by decide)
  · rw [b3]; exact md_v (by decide)
  · rw [c1]; exact md_v (by decide)
  · rw [md_0 (k := 162) (by decide), md_0 (k := 4) (by decide)]
  · rw [show mdS 0 2 = -1 from md_v (by decide)]; exact md_v (by decide)
  · rw [d17]; exact md_v (by decide)
  · rw [d10]; exact md_v (by decide)
/-! the making ends: the world is whole -/
theorem fvs_fr {G : dG} {f : Int → Int} : ∀ (cs : List Nat) (j : Nat), (∀ i q : Nat, cs[i]? = some (q + 2) → f ((j + i : Nat) : Int) = 1) → fvs G true f cs j = fvs G false f cs j
  | [], _, _ => rfl
  | c :: cs, j, h => by
    have ih := fvs_fr (G := G) (f := f) cs (j + 1) (fun i q hi => by
      have := h (i + 1) q (by rw [List.getElem?_cons_succ]; exact hi)
      rw [show j + 1 + i = j + (i + 1) by omega]
      exact this)
    show fv G true (f ((j : Nat) : Int)) (f (((j : Nat) : Int) + 1000)) c :: fvs G true f cs (j + 1) = fv G false (f ((j : Nat) : Int)) (f (((j : Nat) : Int) + 1000)) c :: fvs G false f cs (j + 1)
    rw [ih]
    match c, h with
    | 0, _ => rfl
    | 1, _ => rfl
    | t + 2, h =>
      have h1 := h 0 t rfl
      rw [Nat.add_zero] at h1
      show (if true = true ∧ f ((j : Nat) : Int) ≠ 1 then Value.null else .ref (adr G t)) :: _ = (if false = true ∧ f ((j : Nat) : Int) ≠ 1 then Value.null else .ref (adr G t)) :: _
      rw [if_neg (fun z => z.2 h1), if_neg (fun z => absurd z.1 (by decide))]
theorem Wd_made {G : dG} {H : Heap} (h : Wd G true mdS H) : Wd G false mdS H := by
  obtain ⟨h1, h2, h3, h4, h5⟩ := h
  have e1 : nOf true mdS = 198 := by
    show (if true = true then (mdS 1000000 0).toNat else dN) = 198
    rw [if_pos rfl, md_cnt]; rfl
  have e2 : nOf false mdS = 198 := rfl
  rw [e1] at h1 h4
  have ew : wl G true mdS 198 = wl G false mdS 198 := by
    unfold wl
    refine List.map_congr_left (fun k hk => ?_)
    have hc := List.all_eq_true.mp md_refs k hk
    unfold entK
    congr 1
    cases hs : spx k with
    | none => rfl
    | some s =>
      rw [hs] at hc
      match s, hc with
      | .inl (n, 0), _ => rfl
      | .inl (n, 1), _ => rfl
      | .inl (n, z + 2), _ => rfl
      | .inr (c, fs), hc =>
        show (Sum.inr (c, fvs G true (mdS k) fs 0) : _) = Sum.inr (c, fvs G false (mdS k) fs 0)
        rw [fvs_fr fs 0 (fun i q hi => ?_)]
        have hi2 := (List.getElem?_eq_some_iff.mp hi).1
        have := List.all_eq_true.mp hc i (List.mem_range.mpr hi2)
        rw [hi] at this
        rw [Nat.zero_add]
        exact of_decide_eq_true this
  rw [ew] at h1
  exact ⟨by rw [e2]; exact h1, h2, by rw [e2]; exact Nat.le_refl 198, by rw [e2]; exact h4, fun z => by cases z⟩
theorem VW_made {p : Program} {l : Launch} {e : Env} {R : Room} {s : State} {m : MethodId} {args : Array Value} {below : List Frame} {meth : Method} {c : Code} {Qm : State → Prop} {G : dG} {nL pc : Nat} {u : Nat × Nat} {ls : dL} {st : List dX} (h : VW p l e R s m args below meth c Qm G false nL pc u ls st mdS) : VW p l e R s m args below meth c Qm G true nL pc u ls st mdS :=
  fun hn w1 w2 H locs la hW hS hl => h hn w1 w2 H locs la (Wd_made hW) hS hl
