/-! THE START: what the tables and the premises give -/
abbrev gvA : Cond := Jvm.Cond.and given_1 narrow_1
def tmT (i : Nat) : Term := Term.string "WingTrams$Tokens" (if i = 0 then 58 else 69)
def tmV (i : Nat) : Term := Term.field (tmT i) "java/lang/String" "value" "[B"
def gvHas (w : Cond) : Bool := (flatC gvA).contains w
theorem gvHas_m {w : Cond} (h : gvHas w = true) : w ∈ flatC gvA := List.contains_iff_mem.mp h
theorem gv_tx : ([0, 1].all (fun i => gvHas (Cond.exactly (tmT i) "java/lang/String") && (gvHas (Cond.eq (.field (tmT i) "java/lang/String" "coder" "B") (.int 0)) && (gvHas (Cond.arrayOf (tmV i) .byte) && (gvHas (Cond.eq (.length (tmV i)) (.int (Int32.ofNat (([9, 91] : List Nat).getD i 0)))) && (List.range (([9, 91] : List Nat).getD i 0)).all (fun j => gvHas (Cond.eq (.elem (tmV i) (.int (Int32.ofNat j))) (.int ((tx_b.getD i []).getD j 0))))))))) = true := by decide +kernel
theorem gv_ne : (gvHas (Cond.not (Cond.eq (tmT 0) (tmT 1))) || gvHas (Cond.not (Cond.eq (tmT 1) (tmT 0)))) = true := by decide +kernel
theorem gv_st : (STs.all (fun q => lw_tbl.contains (Cond.stringRef q.1 q.2.1 q.2.2) && gvHas (Cond.exactly (Term.string q.1 q.2.1) "java/lang/String"))) = true := by decide +kernel
theorem gv_tr : (lw_tbl.contains (Cond.stringRef "WingTrams$Tokens" 58 ";()+-*/<=") && lw_tbl.contains (Cond.stringRef "WingTrams$Tokens" 69 "roof flight tawny barn white rider dawn hunts or and not mice grain kind stop moon wet hour")) = true := by decide +kernel
theorem gv_nw : (NWs.all (fun w => w.onTables && lw_tbl.contains w)) = true := by decide +kernel
def gvT : List Cond := [Cond.laysStatic Bundle.tN "UNASSIGNED_STACK" Bundle.steD, Cond.initialized Bundle.tN, Cond.laysStatic Bundle.tN "SUPPRESSED_SENTINEL" Bundle.listD, Cond.laysStatic "java/lang/String" "COMPACT_STRINGS" "Z", Cond.initialized "java/lang/String", Cond.laysStatic "jdk/internal/util/Preconditions" "SIOOBE_FORMATTER" "Ljava/util/function/BiFunction;", Cond.initialized "jdk/internal/util/Preconditions", Cond.arrayClass .int, Cond.arrayClass .boolean, Cond.arrayClass .long]
theorem gvT_ok : (gvT.all (fun w => lw_tbl.contains w)) = true := by decide +kernel
def gvG : List Cond := [Cond.isRef (.static Bundle.tN "UNASSIGNED_STACK" Bundle.steD), Cond.isRef (.static Bundle.tN "SUPPRESSED_SENTINEL" Bundle.listD), Cond.eq (.static "java/lang/String" "COMPACT_STRINGS" "Z") (.int 1), Cond.isRef (.static "jdk/internal/util/Preconditions" "SIOOBE_FORMATTER" "Ljava/util/function/BiFunction;"), Cond.not (.castable (exn 1) (exn 0))]
theorem gvG_ok : (gvG.all gvHas) = true := by decide +kernel
theorem kn_all : ∀ q ∈ vwCl, (∀ w ∈ u_ws q.1 q.2.1 q.2.2, w ∈ TBg) ∧ Cond.instantiable q.1 q.2.2 ∈ TBg :=
  List.forall_mem_cons.mpr ⟨⟨okC0.1, okC0.2.2.2.2.1⟩, List.forall_mem_cons.mpr ⟨⟨okC1.1, okC1.2.2.2.2.1⟩, List.forall_mem_cons.mpr ⟨⟨okC2.1, okC2.2.2.2.2.1⟩, List.forall_mem_cons.mpr ⟨⟨okC3.1, okC3.2.2.2.2.1⟩, List.forall_mem_cons.mpr ⟨⟨okC4.1, okC4.2.2.2.2.1⟩, List.forall_mem_cons.mpr ⟨⟨okC5.1, okC5.2.2.2.2.1⟩, List.forall_mem_cons.mpr ⟨⟨okC6.1, okC6.2.2.2.2.1⟩, List.forall_mem_cons.mpr ⟨⟨okC7.1, okC7.2.2.2.2.1⟩, List.forall_mem_cons.mpr ⟨⟨okC8.1, okC8.2.2.2.2.1⟩, List.forall_mem_cons.mpr ⟨⟨okC9.1, okC9.2.2.2.2.1⟩, List.forall_mem_cons.mpr ⟨⟨okC10.1, okC10.2.2.2.2.1⟩, List.forall_mem_cons.mpr ⟨⟨okC11.1, okC11.2.2.2.2.1⟩, List.forall_mem_cons.mpr ⟨⟨okC12.1, okC12.2.2.2.2.1⟩, fun _ h => absurd h List.not_mem_nil⟩⟩⟩⟩⟩⟩⟩⟩⟩⟩⟩⟩⟩
theorem arr_of {s : State} {args : Array Value} {ty : FieldType} (ht : ty = .int ∨ ty = .boolean ∨ ty = .long) (h : (Cond.arrayClass ty).before args s = true) : ∃ cA : ClassId, ArrOfT s cA ty ∧ va_RA s cA ty := by
  obtain ⟨cA, kA, comp, h1, h2, h3⟩ := Cond.arrayClass_spec h
  rcases ht with rfl | rfl | rfl
  · exact ⟨cA, fun n z => ⟨fun k h => (by cases h), kA, h2, comp, h3⟩, h1⟩
  · exact ⟨cA, fun n z => ⟨fun k h => (by cases h), kA, h2, comp, h3⟩, h1⟩
  · exact ⟨cA, fun n z => ⟨fun k h => (by cases h), kA, h2, comp, h3⟩, h1⟩
theorem lg_dev {s : State} {args : Array Value} (b : Nat) (hts : ∀ w ∈ lw_tbl, w.before args s = true) (hgv : gvA.before args s = true) : ∃ G : dG, G.1 = s.heap.size ∧ G.2.1 0 = b ∧ dEv G s s.heap ∧ va_Nc (exn 1) (exn 0) s := by
  have hg : ∀ w, gvHas w = true → w.before args s = true := fun w hw => flat_of_before _ hgv w (gvHas_m hw)
  have ht : ∀ w, lw_tbl.contains w = true → w.before args s = true := fun w hw => hts w (List.contains_iff_mem.mp hw)
  have htb : ∀ w ∈ TBg, w.before args s = true := fun w hw => hts w (List.mem_filter.mp hw).1
  have zt : ∀ (k : Nat) (w : Cond), gvT[k]? = some w → w.before args s = true := fun k w h => ht _ (List.all_eq_true.mp gvT_ok w (List.mem_of_getElem? h))
  have zg : ∀ (k : Nat) (w : Cond), gvG[k]? = some w → w.before args s = true := fun k w h => hg _ (List.all_eq_true.mp gvG_ok w (List.mem_of_getElem? h))
  have hA : ∀ a : Nat, a < s.heap.size → ¬ (fun q : Nat => s.heap.size ≤ q) a := fun a ha h => Nat.not_le.mpr ha h
  have tx := fun (i : Nat) (hi : i < 2) => List.all_eq_true.mp gv_tx i (by rcases (show i = 0 ∨ i = 1 by omega) with rfl | rfl <;> simp)
  simp only [Bool.and_eq_true] at tx
  obtain ⟨adK, adV, hvk, hev⟩ := vk_Sof (args := args) (s := s) (N := 2) (tm := tmT) (len := [9, 91]) (byt := tx_b) (A := fun q : Nat => s.heap.size ≤ q)
    (fun i hi => by rcases (show i = 0 ∨ i = 1 by omega) with rfl | rfl <;> decide) (fun i hi => hg _ (tx i hi).1) (fun i hi => hg _ (tx i hi).2.1) (fun i hi => hg _ (tx i hi).2.2.1) (fun i hi => hg _ (tx i hi).2.2.2.1)
    (fun i hi j hj => hg _ (List.all_eq_true.mp (tx i hi).2.2.2.2 j (List.mem_range.mpr hj)))
    (fun i j hi hj hij => by
      have h := gv_ne
      rw [Bool.or_eq_true] at h
      rcases (show i = 0 ∧ j = 1 ∨ i = 1 ∧ j = 0 by omega) with ⟨rfl, rfl⟩ | ⟨rfl, rfl⟩
      · exact h.imp (hg _) (hg _)
      · exact (h.imp (hg _) (hg _)).symm) hA
  have hD : ∀ c : Nat, ∃ x : ClassId × (Nat → Nat), ∀ q, vwCl[c]? = some q → u_Kn s q.1 q.2.1 q.2.2 x.1 x.2 := by
    intro c
    cases hc : vwCl[c]? with
    | none => exact ⟨(0, fun _ => 0), fun q h => by cases h⟩
    | some q =>
      obtain ⟨k1, k2⟩ := kn_all q (List.mem_of_getElem? hc)
      obtain ⟨cC, iS, hk⟩ := u_known (ws := TBg) htb k1 (htb _ k2)
      exact ⟨(cC, iS), fun q' h => by cases h; exact hk⟩
  obtain ⟨D, hD⟩ := Classical.axiomOfChoice hD
  obtain ⟨cI, hI1, hI2⟩ := arr_of (args := args) (Or.inl rfl) (zt 7 _ rfl)
  obtain ⟨cZ, hZ1, hZ2⟩ := arr_of (args := args) (Or.inr (Or.inl rfl)) (zt 8 _ rfl)
  obtain ⟨cJ, hJ1, hJ2⟩ := arr_of (args := args) (Or.inr (Or.inr rfl)) (zt 9 _ rfl)
  refine ⟨(s.heap.size, fun k => if k = 0 then b else if k < 11 then adK (k - 1) else adV (k - 11), (fun c => (D c).1, fun c => (D c).2), (cI, cZ, cJ)), rfl, rfl, ⟨⟨fun c q hq => hD c q hq, ?_⟩, ?_, ?_, ?_, ?_, ?_⟩, va_Nc.of (zg 4 _ rfl)⟩
  · intro k q hk
    have hm := List.mem_of_getElem? hk
    unfold dT at hm
    simp only [List.mem_cons, List.not_mem_nil, or_false] at hm
    rcases hm with rfl | rfl | rfl
    · exact ⟨hI1, hI2⟩
    · exact ⟨hZ1, hZ2⟩
    · exact ⟨hJ1, hJ2⟩
  · exact vx_Zqof (zt 0 _ rfl) (zt 1 _ rfl) (zg 0 _ rfl) hA
  · exact vx_Zqof (zt 2 _ rfl) (zt 1 _ rfl) (zg 1 _ rfl) hA
  · intro w hw
    have h := List.all_eq_true.mp gv_nw w hw
    rw [Bool.and_eq_true] at h
    exact va_Nw.of h.1 (ht _ h.2)
  · intro q hq
    have h := List.all_eq_true.mp gv_st q hq
    rw [Bool.and_eq_true] at h
    obtain ⟨a, c, cA, kA, q1, -⟩ := Cond.exactly_spec (args := args) (first := s) (o := none) (s := s) (idx := []) (t := Term.string q.1 q.2.1) (cls := "java/lang/String") (hg _ h.2)
    exact ⟨a, vk_R.of (A := args) (ht _ h.1) q1⟩
  · have h := gv_tr
    rw [Bool.and_eq_true] at h
    refine ⟨⟨fun i hi => ?_, fun i j hi hj e => ?_⟩, ⟨vk_R.of (A := args) (ht _ h.1) (hev 0 (by decide)), vk_R.of (A := args) (ht _ h.2) (hev 1 (by decide))⟩, va_Zof (zt 3 _ rfl) (zt 4 _ rfl) (va_eqi (zg 2 _ rfl)) hA, va_Zqof (zt 5 _ rfl) (zt 6 _ rfl) (zg 3 _ rfl) hA⟩
    · rcases (show i = 0 ∨ i = 1 by omega) with rfl | rfl
      · exact hvk.1 0 hi
      · exact hvk.1 1 hi
    · rcases (show i = 0 ∨ i = 1 by omega) with rfl | rfl <;> rcases (show j = 0 ∨ j = 1 by omega) with rfl | rfl
      · rfl
      · exact hvk.2 0 1 hi hj e
      · exact hvk.2 1 0 hi hj e
      · rfl
