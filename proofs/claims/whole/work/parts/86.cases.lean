/-! THE LAW'S CASES, by program (wip/whole/gen/g86.py) -/
theorem aVl_le (xs : Nat → Int32) (i : Int) (q : Nat × Bool) : aVl xs i q ≤ 2147483647 := by have h := aVl_R xs i q; unfold iR at h; omega
theorem aVl_lt (xs : Nat → Int32) (i : Int) (q : Nat × Bool) : aVl xs i q < 2147483648 := by have h := aVl_R xs i q; unfold iR at h; omega
theorem nz1_01 (v : Int) : nz1 v = 0 ∨ nz1 v = 1 := by unfold nz1; split <;> omega
theorem cdK_18 : ∀ x cv, cdK 18 x = some cv → cv ≠ 0 := by
  intro x cv h
  have h2 : cdA x = some cv := h
  unfold cdA at h2
  split at h2
  · cases h2; decide
  · cases h2
theorem cdK_13 : ∀ x cv, cdK 13 x = some cv → cv ≠ 0 := by
  intro x cv h
  have h2 : cdB x = some cv := h
  unfold cdB at h2
  split at h2
  · cases h2; decide
  · cases h2
theorem cdC_0 : ∀ x cv, cdC x = some cv → cv ≠ 0 := by
  intro x cv h
  unfold cdC at h
  split at h
  · cases h; decide
  · split at h
    · cases h; decide
    · cases h
set_option maxRecDepth 100000 in
theorem mte_157 : MT[157]? = some m_157 := rfl
theorem lk_157 : lnk 157 107 1 13 m_157 := ⟨mte_157, ⟨MT_ok m_157 (List.mem_of_getElem? mte_157), (tg7 170 (by decide +kernel) rfl), rfl, rfl, rfl, rfl, fun _ => ⟨_, by decide, rfl, rfl⟩⟩, rfl, by decide⟩
set_option maxRecDepth 100000 in
theorem mte_98 : MT[98]? = some m_98 := rfl
theorem lk_98 : lnk 98 96 6 12 m_98 := ⟨mte_98, ⟨MT_ok m_98 (List.mem_of_getElem? mte_98), (tg3 8 (by decide +kernel) rfl), rfl, rfl, rfl, rfl, fun _ => ⟨_, by decide, rfl, rfl⟩⟩, rfl, by decide⟩
set_option maxRecDepth 100000 in
theorem mte_163 : MT[163]? = some m_163 := rfl
theorem lk_163 : lnk 163 100 6 13 m_163 := ⟨mte_163, ⟨MT_ok m_163 (List.mem_of_getElem? mte_163), (tg7 174 (by decide +kernel) rfl), rfl, rfl, rfl, rfl, fun _ => ⟨_, by decide, rfl, rfl⟩⟩, rfl, by decide⟩
theorem cs_0 {p : Program} {l : Launch} {e : Env} {R : Room} {s : State} {m : MethodId} {args : Array Value} {below : List Frame} {meth : Method} {c : Code} {Qm : State → Prop} {G : dG} {b L : Nat} {xs : Nat → Int32} {u : Nat × Nat} {σ : dS} {i : Int} {x5 x6 : Option dX} (E : lgE p l R s m args c G b L xs) (h0 : 0 ≤ i) (h1 : i + 5 < L) (hI : INV σ) (hz : σ 1000000 0 = 198) (hu1 : u.1 + 2 ≤ 601024) (hu2 : u.2 + 12 ≤ 7293034) (k : lgK p l e R s m args below meth c Qm G u i) : VW p l e R s m args below meth c Qm G false 7 220 u (lgL i x5 x6) [] σ :=
  lg_A (qs := [(1, false), (2, false), (3, false), (4, false), (5, false)]) (yx := 98) (ym := 163) (bx := 96) (bm := 100) (n := 6) E (by decide +kernel) lk_98 lk_163 rfl (by decide) (by decide) rfl h0 h1 hI hz hu1 hu2 (fun Q K h => p_feed (d := 60) hI (fun v σ1 g => h v σ1 (PRU_of g))) k
set_option maxRecDepth 100000 in
theorem mte_100 : MT[100]? = some m_100 := rfl
theorem lkw_100 : lnk 100 7 2 12 m_100 := ⟨mte_100, ⟨MT_ok m_100 (List.mem_of_getElem? mte_100), (tg3 236 (by decide +kernel) rfl), rfl, rfl, rfl, rfl, fun _ => ⟨_, by decide, rfl, rfl⟩⟩, rfl, by decide⟩
set_option maxRecDepth 100000 in
theorem mte_194 : MT[194]? = some m_194 := rfl
theorem lk_194 : lnk 194 106 2 13 m_194 := ⟨mte_194, ⟨MT_ok m_194 (List.mem_of_getElem? mte_194), (tg7 182 (by decide +kernel) rfl), rfl, rfl, rfl, rfl, fun _ => ⟨_, by decide, rfl, rfl⟩⟩, rfl, by decide⟩
def wr_city : lgR := (⟨"WingTramsLaw", "city", "(LWingTrams;I[J)I"⟩, method_3_code, 4, [(0, 9, 12, 13)])
theorem wrk_city : okWr wr_city 101 3 := ⟨⟨(tg3 234 (by decide +kernel) rfl), (tg3 232 (by decide +kernel) rfl), (tg3 233 (by decide +kernel) rfl), (tg1 0 (by decide +kernel) rfl)⟩, ⟨by decide, by decide⟩, by decide +kernel, Nat.le_of_ble_eq_true rfl⟩
theorem cs_1 {p : Program} {l : Launch} {e : Env} {R : Room} {s : State} {m : MethodId} {args : Array Value} {below : List Frame} {meth : Method} {c : Code} {Qm : State → Prop} {G : dG} {b L : Nat} {xs : Nat → Int32} {u : Nat × Nat} {σ : dS} {i : Int} {x5 x6 : Option dX} (E : lgE p l R s m args c G b L xs) (h0 : 0 ≤ i) (h1 : i + 5 < L) (hI : INV σ) (hz : σ 1000000 0 = 198) (hu1 : u.1 + 2 ≤ 601024) (hu2 : u.2 + 12 ≤ 7293034) (k : lgK p l e R s m args below meth c Qm G u i) : VW p l e R s m args below meth c Qm G false 7 293 u (lgL i x5 x6) [] σ :=
  lg_B (qs := [(1, false)]) (yx := 100) (ym := 194) (bw := 101) (bm := 106) (n := 2) (mc := m_100.2.2.2.2.2.2.1.1) (ms := m_100.2.2.2.2.2.2.1.2) (nz := false) (cd := cdK 13) (w := wr_city) E (by decide +kernel) wrk_city lk_194 lk_157 rfl rfl rfl (by decide) (by decide) h0 h1 hz hu1 hu2 (fun Q h => lg_w1 (d := 80) (hc := 13) E.2.1.2.1 (by decide) (Or.inr rfl) ⟨lkw_100.1, lkw_100.2.1, lkw_100.2.2.1, rfl⟩ rfl (by decide +kernel) (aVl_R xs i _) h) (fun Q K h hh => p_city (d := 20) (aVl_le xs i (1, false)) hI h (fun σ1 g => hh 1 1 σ1 rfl g)) cdK_13 k
set_option maxRecDepth 100000 in
theorem mte_101 : MT[101]? = some m_101 := rfl
theorem lk_101 : lnk 101 111 1 12 m_101 := ⟨mte_101, ⟨MT_ok m_101 (List.mem_of_getElem? mte_101), (tg3 20 (by decide +kernel) rfl), rfl, rfl, rfl, rfl, fun _ => ⟨_, by decide, rfl, rfl⟩⟩, rfl, by decide⟩
set_option maxRecDepth 100000 in
theorem mte_195 : MT[195]? = some m_195 := rfl
theorem lk_195 : lnk 195 114 1 13 m_195 := ⟨mte_195, ⟨MT_ok m_195 (List.mem_of_getElem? mte_195), (tg8 70 (by decide +kernel) rfl), rfl, rfl, rfl, rfl, fun _ => ⟨_, by decide, rfl, rfl⟩⟩, rfl, by decide⟩
theorem cs_2 {p : Program} {l : Launch} {e : Env} {R : Room} {s : State} {m : MethodId} {args : Array Value} {below : List Frame} {meth : Method} {c : Code} {Qm : State → Prop} {G : dG} {b L : Nat} {xs : Nat → Int32} {u : Nat × Nat} {σ : dS} {i : Int} {x5 x6 : Option dX} (E : lgE p l R s m args c G b L xs) (h0 : 0 ≤ i) (h1 : i + 5 < L) (hI : INV σ) (hz : σ 1000000 0 = 198) (hu1 : u.1 + 2 ≤ 601024) (hu2 : u.2 + 12 ≤ 7293034) (k : lgK p l e R s m args below meth c Qm G u i) : VW p l e R s m args below meth c Qm G false 7 349 u (lgL i x5 x6) [] σ :=
  lg_A (qs := []) (yx := 101) (ym := 195) (bx := 111) (bm := 114) (n := 1) E (by decide +kernel) lk_101 lk_195 rfl (by decide) (by decide) rfl h0 h1 hI hz hu1 hu2 (fun Q K h => p_fault (d := 60) hI (fun v σ1 g => h v σ1 g)) k
set_option maxRecDepth 100000 in
theorem mte_102 : MT[102]? = some m_102 := rfl
theorem lkw_102 : lnk 102 15 2 12 m_102 := ⟨mte_102, ⟨MT_ok m_102 (List.mem_of_getElem? mte_102), (tg5 91 (by decide +kernel) rfl), rfl, rfl, rfl, rfl, fun _ => ⟨_, by decide, rfl, rfl⟩⟩, rfl, by decide⟩
set_option maxRecDepth 100000 in
theorem mte_214 : MT[214]? = some m_214 := rfl
theorem lk_214 : lnk 214 117 2 13 m_214 := ⟨mte_214, ⟨MT_ok m_214 (List.mem_of_getElem? mte_214), (tg8 78 (by decide +kernel) rfl), rfl, rfl, rfl, rfl, fun _ => ⟨_, by decide, rfl, rfl⟩⟩, rfl, by decide⟩
def wr_count : lgR := (⟨"WingTramsLaw", "count", "(LWingTrams;I[J)I"⟩, method_4_code, 4, [(0, 9, 12, 18)])
theorem wrk_count : okWr wr_count 115 3 := ⟨⟨(tg5 89 (by decide +kernel) rfl), (tg5 87 (by decide +kernel) rfl), (tg5 88 (by decide +kernel) rfl), (tg1 0 (by decide +kernel) rfl)⟩, ⟨by decide, by decide⟩, by decide +kernel, Nat.le_of_ble_eq_true rfl⟩
theorem cs_3 {p : Program} {l : Launch} {e : Env} {R : Room} {s : State} {m : MethodId} {args : Array Value} {below : List Frame} {meth : Method} {c : Code} {Qm : State → Prop} {G : dG} {b L : Nat} {xs : Nat → Int32} {u : Nat × Nat} {σ : dS} {i : Int} {x5 x6 : Option dX} (E : lgE p l R s m args c G b L xs) (h0 : 0 ≤ i) (h1 : i + 5 < L) (hI : INV σ) (hz : σ 1000000 0 = 198) (hu1 : u.1 + 2 ≤ 601024) (hu2 : u.2 + 12 ≤ 7293034) (k : lgK p l e R s m args below meth c Qm G u i) : VW p l e R s m args below meth c Qm G false 7 362 u (lgL i x5 x6) [] σ :=
  lg_B (qs := [(1, false)]) (yx := 102) (ym := 214) (bw := 115) (bm := 117) (n := 2) (mc := m_102.2.2.2.2.2.2.1.1) (ms := m_102.2.2.2.2.2.2.1.2) (nz := false) (cd := cdK 18) (w := wr_count) E (by decide +kernel) wrk_count lk_214 lk_157 rfl rfl rfl (by decide) (by decide) h0 h1 hz hu1 hu2 (fun Q h => lg_w1 (d := 80) (hc := 18) E.2.1.2.1 (by decide) (Or.inl rfl) ⟨lkw_102.1, lkw_102.2.1, lkw_102.2.2.1, rfl⟩ rfl (by decide +kernel) (aVl_R xs i _) h) (fun Q K h hh => p_count (d := 60) hI h (fun σ1 g => hh 0 1 σ1 rfl g)) cdK_18 k
set_option maxRecDepth 100000 in
theorem mte_103 : MT[103]? = some m_103 := rfl
theorem lkw_103 : lnk 103 20 3 12 m_103 := ⟨mte_103, ⟨MT_ok m_103 (List.mem_of_getElem? mte_103), (tg5 114 (by decide +kernel) rfl), rfl, rfl, rfl, rfl, fun _ => ⟨_, by decide, rfl, rfl⟩⟩, rfl, by decide⟩
set_option maxRecDepth 100000 in
theorem mte_219 : MT[219]? = some m_219 := rfl
theorem lk_219 : lnk 219 121 3 13 m_219 := ⟨mte_219, ⟨MT_ok m_219 (List.mem_of_getElem? mte_219), (tg8 132 (by decide +kernel) rfl), rfl, rfl, rfl, rfl, fun _ => ⟨_, by decide, rfl, rfl⟩⟩, rfl, by decide⟩
def wr_roof : lgR := (⟨"WingTramsLaw", "roof", "(LWingTrams;II[J)I"⟩, method_5_code, 5, [(0, 10, 13, 18)])
theorem wrk_roof : okWr wr_roof 118 4 := ⟨⟨(tg5 113 (by decide +kernel) rfl), (tg5 111 (by decide +kernel) rfl), (tg5 112 (by decide +kernel) rfl), (tg1 0 (by decide +kernel) rfl)⟩, ⟨by decide, by decide⟩, by decide +kernel, Nat.le_of_ble_eq_true rfl⟩
theorem cs_4 {p : Program} {l : Launch} {e : Env} {R : Room} {s : State} {m : MethodId} {args : Array Value} {below : List Frame} {meth : Method} {c : Code} {Qm : State → Prop} {G : dG} {b L : Nat} {xs : Nat → Int32} {u : Nat × Nat} {σ : dS} {i : Int} {x5 x6 : Option dX} (E : lgE p l R s m args c G b L xs) (h0 : 0 ≤ i) (h1 : i + 5 < L) (hI : INV σ) (hz : σ 1000000 0 = 198) (hu1 : u.1 + 2 ≤ 601024) (hu2 : u.2 + 12 ≤ 7293034) (k : lgK p l e R s m args below meth c Qm G u i) : VW p l e R s m args below meth c Qm G false 7 418 u (lgL i x5 x6) [] σ :=
  lg_B (qs := [(1, false), (2, false)]) (yx := 103) (ym := 219) (bw := 118) (bm := 121) (n := 3) (mc := m_103.2.2.2.2.2.2.1.1) (ms := m_103.2.2.2.2.2.2.1.2) (nz := false) (cd := cdK 18) (w := wr_roof) E (by decide +kernel) wrk_roof lk_219 lk_157 rfl rfl rfl (by decide) (by decide) h0 h1 hz hu1 hu2 (fun Q h => lg_w2 (d := 80) (hc := 18) E.2.1.2.1 (by decide) (Or.inl rfl) ⟨lkw_103.1, lkw_103.2.1, lkw_103.2.2.1, rfl⟩ rfl (by decide +kernel) (aVl_R xs i _) (aVl_R xs i _) h) (fun Q K h hh => p_roof (d := 60) hI h (fun σ1 g => hh 0 1 σ1 rfl g)) cdK_18 k
set_option maxRecDepth 100000 in
theorem mte_104 : MT[104]? = some m_104 := rfl
theorem lkw_104 : lnk 104 24 3 12 m_104 := ⟨mte_104, ⟨MT_ok m_104 (List.mem_of_getElem? mte_104), (tg5 136 (by decide +kernel) rfl), rfl, rfl, rfl, rfl, fun _ => ⟨_, by decide, rfl, rfl⟩⟩, rfl, by decide⟩
set_option maxRecDepth 100000 in
theorem mte_220 : MT[220]? = some m_220 := rfl
theorem lk_220 : lnk 220 124 3 13 m_220 := ⟨mte_220, ⟨MT_ok m_220 (List.mem_of_getElem? mte_220), (tg8 144 (by decide +kernel) rfl), rfl, rfl, rfl, rfl, fun _ => ⟨_, by decide, rfl, rfl⟩⟩, rfl, by decide⟩
def wr_flight : lgR := (⟨"WingTramsLaw", "flight", "(LWingTrams;II[J)I"⟩, method_6_code, 5, [(0, 10, 13, 18)])
theorem wrk_flight : okWr wr_flight 122 4 := ⟨⟨(tg5 135 (by decide +kernel) rfl), (tg5 133 (by decide +kernel) rfl), (tg5 134 (by decide +kernel) rfl), (tg1 0 (by decide +kernel) rfl)⟩, ⟨by decide, by decide⟩, by decide +kernel, Nat.le_of_ble_eq_true rfl⟩
theorem cs_5 {p : Program} {l : Launch} {e : Env} {R : Room} {s : State} {m : MethodId} {args : Array Value} {below : List Frame} {meth : Method} {c : Code} {Qm : State → Prop} {G : dG} {b L : Nat} {xs : Nat → Int32} {u : Nat × Nat} {σ : dS} {i : Int} {x5 x6 : Option dX} (E : lgE p l R s m args c G b L xs) (h0 : 0 ≤ i) (h1 : i + 5 < L) (hI : INV σ) (hz : σ 1000000 0 = 198) (hu1 : u.1 + 2 ≤ 601024) (hu2 : u.2 + 12 ≤ 7293034) (k : lgK p l e R s m args below meth c Qm G u i) : VW p l e R s m args below meth c Qm G false 7 486 u (lgL i x5 x6) [] σ :=
  lg_B (qs := [(1, false), (2, false)]) (yx := 104) (ym := 220) (bw := 122) (bm := 124) (n := 3) (mc := m_104.2.2.2.2.2.2.1.1) (ms := m_104.2.2.2.2.2.2.1.2) (nz := false) (cd := cdK 18) (w := wr_flight) E (by decide +kernel) wrk_flight lk_220 lk_157 rfl rfl rfl (by decide) (by decide) h0 h1 hz hu1 hu2 (fun Q h => lg_w2 (d := 80) (hc := 18) E.2.1.2.1 (by decide) (Or.inl rfl) ⟨lkw_104.1, lkw_104.2.1, lkw_104.2.2.1, rfl⟩ rfl (by decide +kernel) (aVl_R xs i _) (aVl_R xs i _) h) (fun Q K h hh => p_flight (d := 60) hI h (fun σ1 g => hh 0 1 σ1 rfl g)) cdK_18 k
set_option maxRecDepth 100000 in
theorem mte_105 : MT[105]? = some m_105 := rfl
theorem lkw_105 : lnk 105 27 3 12 m_105 := ⟨mte_105, ⟨MT_ok m_105 (List.mem_of_getElem? mte_105), (tg5 144 (by decide +kernel) rfl), rfl, rfl, rfl, rfl, fun _ => ⟨_, by decide, rfl, rfl⟩⟩, rfl, by decide⟩
set_option maxRecDepth 100000 in
theorem mte_222 : MT[222]? = some m_222 := rfl
theorem lk_222 : lnk 222 127 3 13 m_222 := ⟨mte_222, ⟨MT_ok m_222 (List.mem_of_getElem? mte_222), (tg8 148 (by decide +kernel) rfl), rfl, rfl, rfl, rfl, fun _ => ⟨_, by decide, rfl, rfl⟩⟩, rfl, by decide⟩
def wr_owl : lgR := (⟨"WingTramsLaw", "owl", "(LWingTrams;II[J)I"⟩, method_7_code, 5, [(0, 10, 13, 18)])
theorem wrk_owl : okWr wr_owl 125 4 := ⟨⟨(tg5 143 (by decide +kernel) rfl), (tg5 141 (by decide +kernel) rfl), (tg5 142 (by decide +kernel) rfl), (tg1 0 (by decide +kernel) rfl)⟩, ⟨by decide, by decide⟩, by decide +kernel, Nat.le_of_ble_eq_true rfl⟩
theorem cs_6 {p : Program} {l : Launch} {e : Env} {R : Room} {s : State} {m : MethodId} {args : Array Value} {below : List Frame} {meth : Method} {c : Code} {Qm : State → Prop} {G : dG} {b L : Nat} {xs : Nat → Int32} {u : Nat × Nat} {σ : dS} {i : Int} {x5 x6 : Option dX} (E : lgE p l R s m args c G b L xs) (h0 : 0 ≤ i) (h1 : i + 5 < L) (hI : INV σ) (hz : σ 1000000 0 = 198) (hu1 : u.1 + 2 ≤ 601024) (hu2 : u.2 + 12 ≤ 7293034) (k : lgK p l e R s m args below meth c Qm G u i) : VW p l e R s m args below meth c Qm G false 7 554 u (lgL i x5 x6) [] σ :=
  lg_B (qs := [(1, false), (2, false)]) (yx := 105) (ym := 222) (bw := 125) (bm := 127) (n := 3) (mc := m_105.2.2.2.2.2.2.1.1) (ms := m_105.2.2.2.2.2.2.1.2) (nz := false) (cd := cdK 18) (w := wr_owl) E (by decide +kernel) wrk_owl lk_222 lk_157 rfl rfl rfl (by decide) (by decide) h0 h1 hz hu1 hu2 (fun Q h => lg_w2 (d := 80) (hc := 18) E.2.1.2.1 (by decide) (Or.inl rfl) ⟨lkw_105.1, lkw_105.2.1, lkw_105.2.2.1, rfl⟩ rfl (by decide +kernel) (aVl_R xs i _) (aVl_R xs i _) h) (fun Q K h hh => p_owl (d := 60) hI h (fun σ1 g => hh 0 1 σ1 rfl g)) cdK_18 k
set_option maxRecDepth 100000 in
theorem mte_106 : MT[106]? = some m_106 := rfl
theorem lkw_106 : lnk 106 30 4 12 m_106 := ⟨mte_106, ⟨MT_ok m_106 (List.mem_of_getElem? mte_106), (tg5 167 (by decide +kernel) rfl), rfl, rfl, rfl, rfl, fun _ => ⟨_, by decide, rfl, rfl⟩⟩, rfl, by decide⟩
set_option maxRecDepth 100000 in
theorem mte_223 : MT[223]? = some m_223 := rfl
theorem lk_223 : lnk 223 131 4 13 m_223 := ⟨mte_223, ⟨MT_ok m_223 (List.mem_of_getElem? mte_223), (tg8 164 (by decide +kernel) rfl), rfl, rfl, rfl, rfl, fun _ => ⟨_, by decide, rfl, rfl⟩⟩, rfl, by decide⟩
def wr_stop : lgR := (⟨"WingTramsLaw", "stop", "(LWingTrams;III[J)I"⟩, method_8_code, 6, [(0, 12, 15, 18)])
theorem wrk_stop : okWr wr_stop 128 5 := ⟨⟨(tg5 166 (by decide +kernel) rfl), (tg5 164 (by decide +kernel) rfl), (tg5 165 (by decide +kernel) rfl), (tg1 0 (by decide +kernel) rfl)⟩, ⟨by decide, by decide⟩, by decide +kernel, Nat.le_of_ble_eq_true rfl⟩
theorem cks_stop : ck3 method_8_code 30 7 19 = true := by decide +kernel
theorem cs_7 {p : Program} {l : Launch} {e : Env} {R : Room} {s : State} {m : MethodId} {args : Array Value} {below : List Frame} {meth : Method} {c : Code} {Qm : State → Prop} {G : dG} {b L : Nat} {xs : Nat → Int32} {u : Nat × Nat} {σ : dS} {i : Int} {x5 x6 : Option dX} (E : lgE p l R s m args c G b L xs) (h0 : 0 ≤ i) (h1 : i + 5 < L) (hI : INV σ) (hz : σ 1000000 0 = 198) (hu1 : u.1 + 2 ≤ 601024) (hu2 : u.2 + 12 ≤ 7293034) (k : lgK p l e R s m args below meth c Qm G u i) : VW p l e R s m args below meth c Qm G false 7 622 u (lgL i x5 x6) [] σ :=
  lg_B (qs := [(1, false), (2, false), (3, false)]) (yx := 106) (ym := 223) (bw := 128) (bm := 131) (n := 4) (mc := m_106.2.2.2.2.2.2.1.1) (ms := m_106.2.2.2.2.2.2.1.2) (nz := false) (cd := cdK 18) (w := wr_stop) E (by decide +kernel) wrk_stop lk_223 lk_157 rfl rfl rfl (by decide) (by decide) h0 h1 hz hu1 hu2 (fun Q h => lg_w3 (d := 80) (cd := cdK 18) (g := 7) (t := 19) E.2.1.2.1 (by decide) (cat_3 (g := 7) (t := 19) (Or.inl rfl) (cks_stop)) ⟨lkw_106.1, lkw_106.2.1, lkw_106.2.2.1, rfl⟩ rfl cks_stop (by decide) (aVl_R xs i _) (aVl_R xs i _) (aVl_R xs i _) h) (fun Q K h hh => p_stop (d := 60) hI h (fun σ1 g => hh 0 1 σ1 rfl g)) cdK_18 k
set_option maxRecDepth 100000 in
theorem mte_107 : MT[107]? = some m_107 := rfl
theorem lkw_107 : lnk 107 34 3 12 m_107 := ⟨mte_107, ⟨MT_ok m_107 (List.mem_of_getElem? mte_107), (tg5 175 (by decide +kernel) rfl), rfl, rfl, rfl, rfl, fun _ => ⟨_, by decide, rfl, rfl⟩⟩, rfl, by decide⟩
set_option maxRecDepth 100000 in
theorem mte_224 : MT[224]? = some m_224 := rfl
theorem lk_224 : lnk 224 134 3 13 m_224 := ⟨mte_224, ⟨MT_ok m_224 (List.mem_of_getElem? mte_224), (tg8 168 (by decide +kernel) rfl), rfl, rfl, rfl, rfl, fun _ => ⟨_, by decide, rfl, rfl⟩⟩, rfl, by decide⟩
def wr_rider : lgR := (⟨"WingTramsLaw", "rider", "(LWingTrams;II[J)I"⟩, method_9_code, 5, [(0, 10, 13, 18)])
theorem wrk_rider : okWr wr_rider 132 4 := ⟨⟨(tg5 174 (by decide +kernel) rfl), (tg5 172 (by decide +kernel) rfl), (tg5 173 (by decide +kernel) rfl), (tg1 0 (by decide +kernel) rfl)⟩, ⟨by decide, by decide⟩, by decide +kernel, Nat.le_of_ble_eq_true rfl⟩
theorem cs_8 {p : Program} {l : Launch} {e : Env} {R : Room} {s : State} {m : MethodId} {args : Array Value} {below : List Frame} {meth : Method} {c : Code} {Qm : State → Prop} {G : dG} {b L : Nat} {xs : Nat → Int32} {u : Nat × Nat} {σ : dS} {i : Int} {x5 x6 : Option dX} (E : lgE p l R s m args c G b L xs) (h0 : 0 ≤ i) (h1 : i + 5 < L) (hI : INV σ) (hz : σ 1000000 0 = 198) (hu1 : u.1 + 2 ≤ 601024) (hu2 : u.2 + 12 ≤ 7293034) (k : lgK p l e R s m args below meth c Qm G u i) : VW p l e R s m args below meth c Qm G false 7 702 u (lgL i x5 x6) [] σ :=
  lg_B (qs := [(1, false), (2, false)]) (yx := 107) (ym := 224) (bw := 132) (bm := 134) (n := 3) (mc := m_107.2.2.2.2.2.2.1.1) (ms := m_107.2.2.2.2.2.2.1.2) (nz := false) (cd := cdK 18) (w := wr_rider) E (by decide +kernel) wrk_rider lk_224 lk_157 rfl rfl rfl (by decide) (by decide) h0 h1 hz hu1 hu2 (fun Q h => lg_w2 (d := 80) (hc := 18) E.2.1.2.1 (by decide) (Or.inl rfl) ⟨lkw_107.1, lkw_107.2.1, lkw_107.2.2.1, rfl⟩ rfl (by decide +kernel) (aVl_R xs i _) (aVl_R xs i _) h) (fun Q K h hh => p_rider (d := 60) hI h (fun σ1 g => hh 0 1 σ1 rfl g)) cdK_18 k
set_option maxRecDepth 100000 in
theorem mte_108 : MT[108]? = some m_108 := rfl
theorem lkw_108 : lnk 108 37 3 12 m_108 := ⟨mte_108, ⟨MT_ok m_108 (List.mem_of_getElem? mte_108), (tg5 188 (by decide +kernel) rfl), rfl, rfl, rfl, rfl, fun _ => ⟨_, by decide, rfl, rfl⟩⟩, rfl, by decide⟩
set_option maxRecDepth 100000 in
theorem mte_225 : MT[225]? = some m_225 := rfl
theorem lk_225 : lnk 225 137 3 13 m_225 := ⟨mte_225, ⟨MT_ok m_225 (List.mem_of_getElem? mte_225), (tg8 176 (by decide +kernel) rfl), rfl, rfl, rfl, rfl, fun _ => ⟨_, by decide, rfl, rfl⟩⟩, rfl, by decide⟩
def wr_where : lgR := (⟨"WingTramsLaw", "where", "(LWingTrams;II[J)I"⟩, method_10_code, 5, [(0, 10, 13, 18)])
theorem wrk_where : okWr wr_where 135 4 := ⟨⟨(tg5 187 (by decide +kernel) rfl), (tg5 185 (by decide +kernel) rfl), (tg5 186 (by decide +kernel) rfl), (tg1 0 (by decide +kernel) rfl)⟩, ⟨by decide, by decide⟩, by decide +kernel, Nat.le_of_ble_eq_true rfl⟩
theorem cs_9 {p : Program} {l : Launch} {e : Env} {R : Room} {s : State} {m : MethodId} {args : Array Value} {below : List Frame} {meth : Method} {c : Code} {Qm : State → Prop} {G : dG} {b L : Nat} {xs : Nat → Int32} {u : Nat × Nat} {σ : dS} {i : Int} {x5 x6 : Option dX} (E : lgE p l R s m args c G b L xs) (h0 : 0 ≤ i) (h1 : i + 5 < L) (hI : INV σ) (hz : σ 1000000 0 = 198) (hu1 : u.1 + 2 ≤ 601024) (hu2 : u.2 + 12 ≤ 7293034) (k : lgK p l e R s m args below meth c Qm G u i) : VW p l e R s m args below meth c Qm G false 7 770 u (lgL i x5 x6) [] σ :=
  lg_B (qs := [(1, false), (2, false)]) (yx := 108) (ym := 225) (bw := 135) (bm := 137) (n := 3) (mc := m_108.2.2.2.2.2.2.1.1) (ms := m_108.2.2.2.2.2.2.1.2) (nz := false) (cd := cdK 18) (w := wr_where) E (by decide +kernel) wrk_where lk_225 lk_157 rfl rfl rfl (by decide) (by decide) h0 h1 hz hu1 hu2 (fun Q h => lg_w2 (d := 80) (hc := 18) E.2.1.2.1 (by decide) (Or.inl rfl) ⟨lkw_108.1, lkw_108.2.1, lkw_108.2.2.1, rfl⟩ rfl (by decide +kernel) (aVl_R xs i _) (aVl_R xs i _) h) (fun Q K h hh => p_where (d := 60) hI (aVl_le xs i (2, false)) h (fun σ1 g => hh 0 1 σ1 rfl g)) cdK_18 k
set_option maxRecDepth 100000 in
theorem mte_113 : MT[113]? = some m_113 := rfl
theorem lk_113 : lnk 113 138 2 12 m_113 := ⟨mte_113, ⟨MT_ok m_113 (List.mem_of_getElem? mte_113), (tg3 24 (by decide +kernel) rfl), rfl, rfl, rfl, rfl, fun _ => ⟨_, by decide, rfl, rfl⟩⟩, rfl, by decide⟩
set_option maxRecDepth 100000 in
theorem mte_226 : MT[226]? = some m_226 := rfl
theorem lk_226 : lnk 226 142 2 13 m_226 := ⟨mte_226, ⟨MT_ok m_226 (List.mem_of_getElem? mte_226), (tg8 180 (by decide +kernel) rfl), rfl, rfl, rfl, rfl, fun _ => ⟨_, by decide, rfl, rfl⟩⟩, rfl, by decide⟩
theorem cs_10 {p : Program} {l : Launch} {e : Env} {R : Room} {s : State} {m : MethodId} {args : Array Value} {below : List Frame} {meth : Method} {c : Code} {Qm : State → Prop} {G : dG} {b L : Nat} {xs : Nat → Int32} {u : Nat × Nat} {σ : dS} {i : Int} {x5 x6 : Option dX} (E : lgE p l R s m args c G b L xs) (h0 : 0 ≤ i) (h1 : i + 5 < L) (hI : INV σ) (hz : σ 1000000 0 = 198) (hu1 : u.1 + 2 ≤ 601024) (hu2 : u.2 + 12 ≤ 7293034) (k : lgK p l e R s m args below meth c Qm G u i) : VW p l e R s m args below meth c Qm G false 7 838 u (lgL i x5 x6) [] σ :=
  lg_A (qs := [(1, false)]) (yx := 113) (ym := 226) (bx := 138) (bm := 142) (n := 2) E (by decide +kernel) lk_113 lk_226 rfl (by decide) (by decide) rfl h0 h1 hI hz hu1 hu2 (fun Q K h => p_obey (d := 60) hI (fun v σ1 g => h v σ1 (PRU_of g))) k
set_option maxRecDepth 100000 in
theorem mte_114 : MT[114]? = some m_114 := rfl
theorem lk_114 : lnk 114 143 2 12 m_114 := ⟨mte_114, ⟨MT_ok m_114 (List.mem_of_getElem? mte_114), (tg3 46 (by decide +kernel) rfl), rfl, rfl, rfl, rfl, fun _ => ⟨_, by decide, rfl, rfl⟩⟩, rfl, by decide⟩
set_option maxRecDepth 100000 in
theorem mte_227 : MT[227]? = some m_227 := rfl
theorem lk_227 : lnk 227 146 2 13 m_227 := ⟨mte_227, ⟨MT_ok m_227 (List.mem_of_getElem? mte_227), (tg8 192 (by decide +kernel) rfl), rfl, rfl, rfl, rfl, fun _ => ⟨_, by decide, rfl, rfl⟩⟩, rfl, by decide⟩
theorem cs_11 {p : Program} {l : Launch} {e : Env} {R : Room} {s : State} {m : MethodId} {args : Array Value} {below : List Frame} {meth : Method} {c : Code} {Qm : State → Prop} {G : dG} {b L : Nat} {xs : Nat → Int32} {u : Nat × Nat} {σ : dS} {i : Int} {x5 x6 : Option dX} (E : lgE p l R s m args c G b L xs) (h0 : 0 ≤ i) (h1 : i + 5 < L) (hI : INV σ) (hz : σ 1000000 0 = 198) (hu1 : u.1 + 2 ≤ 601024) (hu2 : u.2 + 12 ≤ 7293034) (k : lgK p l e R s m args below meth c Qm G u i) : VW p l e R s m args below meth c Qm G false 7 863 u (lgL i x5 x6) [] σ :=
  lg_A (qs := [(1, false)]) (yx := 114) (ym := 227) (bx := 143) (bm := 146) (n := 2) E (by decide +kernel) lk_114 lk_227 rfl (by decide) (by decide) rfl h0 h1 hI hz hu1 hu2 (fun Q K h => p_moon (d := 60) hI (fun v σ1 g => h v σ1 (PRU_of g))) k
set_option maxRecDepth 100000 in
theorem mte_115 : MT[115]? = some m_115 := rfl
theorem lk_115 : lnk 115 147 2 12 m_115 := ⟨mte_115, ⟨MT_ok m_115 (List.mem_of_getElem? mte_115), (tg3 50 (by decide +kernel) rfl), rfl, rfl, rfl, rfl, fun _ => ⟨_, by decide, rfl, rfl⟩⟩, rfl, by decide⟩
set_option maxRecDepth 100000 in
theorem mte_228 : MT[228]? = some m_228 := rfl
theorem lk_228 : lnk 228 151 2 13 m_228 := ⟨mte_228, ⟨MT_ok m_228 (List.mem_of_getElem? mte_228), (tg8 196 (by decide +kernel) rfl), rfl, rfl, rfl, rfl, fun _ => ⟨_, by decide, rfl, rfl⟩⟩, rfl, by decide⟩
theorem cs_12 {p : Program} {l : Launch} {e : Env} {R : Room} {s : State} {m : MethodId} {args : Array Value} {below : List Frame} {meth : Method} {c : Code} {Qm : State → Prop} {G : dG} {b L : Nat} {xs : Nat → Int32} {u : Nat × Nat} {σ : dS} {i : Int} {x5 x6 : Option dX} (E : lgE p l R s m args c G b L xs) (h0 : 0 ≤ i) (h1 : i + 5 < L) (hI : INV σ) (hz : σ 1000000 0 = 198) (hu1 : u.1 + 2 ≤ 601024) (hu2 : u.2 + 12 ≤ 7293034) (k : lgK p l e R s m args below meth c Qm G u i) : VW p l e R s m args below meth c Qm G false 7 888 u (lgL i x5 x6) [] σ :=
  lg_A (qs := [(1, true)]) (yx := 115) (ym := 228) (bx := 147) (bm := 151) (n := 2) E (by decide +kernel) lk_115 lk_228 rfl (by decide) (by decide) rfl h0 h1 hI hz hu1 hu2 (fun Q K h => p_wet (d := 60) (nz1_01 _) hI (fun v σ1 g => h v σ1 (PRU_of g))) k
set_option maxRecDepth 100000 in
theorem mte_116 : MT[116]? = some m_116 := rfl
theorem lkw_116 : lnk 116 40 3 12 m_116 := ⟨mte_116, ⟨MT_ok m_116 (List.mem_of_getElem? mte_116), (tg5 195 (by decide +kernel) rfl), rfl, rfl, rfl, rfl, fun _ => ⟨_, by decide, rfl, rfl⟩⟩, rfl, by decide⟩
set_option maxRecDepth 100000 in
theorem mte_229 : MT[229]? = some m_229 := rfl
theorem lk_229 : lnk 229 155 3 13 m_229 := ⟨mte_229, ⟨MT_ok m_229 (List.mem_of_getElem? mte_229), (tg8 200 (by decide +kernel) rfl), rfl, rfl, rfl, rfl, fun _ => ⟨_, by decide, rfl, rfl⟩⟩, rfl, by decide⟩
def wr_nest : lgR := (⟨"WingTramsLaw", "nest", "(LWingTrams;IZ[J)I"⟩, method_11_code, 5, [(0, 17, 20, 18)])
theorem wrk_nest : okWr wr_nest 152 4 := ⟨⟨(tg5 194 (by decide +kernel) rfl), (tg5 192 (by decide +kernel) rfl), (tg5 193 (by decide +kernel) rfl), (tg1 0 (by decide +kernel) rfl)⟩, ⟨by decide, by decide⟩, by decide +kernel, Nat.le_of_ble_eq_true rfl⟩
theorem cs_13 {p : Program} {l : Launch} {e : Env} {R : Room} {s : State} {m : MethodId} {args : Array Value} {below : List Frame} {meth : Method} {c : Code} {Qm : State → Prop} {G : dG} {b L : Nat} {xs : Nat → Int32} {u : Nat × Nat} {σ : dS} {i : Int} {x5 x6 : Option dX} (E : lgE p l R s m args c G b L xs) (h0 : 0 ≤ i) (h1 : i + 5 < L) (hI : INV σ) (hz : σ 1000000 0 = 198) (hu1 : u.1 + 2 ≤ 601024) (hu2 : u.2 + 12 ≤ 7293034) (k : lgK p l e R s m args below meth c Qm G u i) : VW p l e R s m args below meth c Qm G false 7 929 u (lgL i x5 x6) [] σ :=
  lg_B (qs := [(1, false), (2, true)]) (yx := 116) (ym := 229) (bw := 152) (bm := 155) (n := 3) (mc := m_116.2.2.2.2.2.2.1.1) (ms := m_116.2.2.2.2.2.2.1.2) (nz := true) (cd := cdK 18) (w := wr_nest) E (by decide +kernel) wrk_nest lk_229 lk_157 rfl rfl rfl (by decide) (by decide) h0 h1 hz hu1 hu2 (fun Q h => lg_wN (d := 80) (hc := 18) E.2.1.2.1 (by decide) (Or.inl rfl) ⟨lkw_116.1, lkw_116.2.1, lkw_116.2.2.1, rfl⟩ rfl (by decide +kernel) (aVl_R xs i _) (aVl_R xs i _) h) (fun Q K h hh => p_nest (d := 60) hI h (fun σ1 g => hh 0 1 σ1 rfl g)) cdK_18 k
set_option maxRecDepth 100000 in
theorem mte_117 : MT[117]? = some m_117 := rfl
theorem lkw_117 : lnk 117 44 3 12 m_117 := ⟨mte_117, ⟨MT_ok m_117 (List.mem_of_getElem? mte_117), (tg5 202 (by decide +kernel) rfl), rfl, rfl, rfl, rfl, fun _ => ⟨_, by decide, rfl, rfl⟩⟩, rfl, by decide⟩
set_option maxRecDepth 100000 in
theorem mte_230 : MT[230]? = some m_230 := rfl
theorem lk_230 : lnk 230 158 3 13 m_230 := ⟨mte_230, ⟨MT_ok m_230 (List.mem_of_getElem? mte_230), (tg8 204 (by decide +kernel) rfl), rfl, rfl, rfl, rfl, fun _ => ⟨_, by decide, rfl, rfl⟩⟩, rfl, by decide⟩
def wr_grain : lgR := (⟨"WingTramsLaw", "grain", "(LWingTrams;II[J)I"⟩, method_12_code, 5, [(0, 10, 13, 18)])
theorem wrk_grain : okWr wr_grain 156 4 := ⟨⟨(tg5 201 (by decide +kernel) rfl), (tg5 199 (by decide +kernel) rfl), (tg5 200 (by decide +kernel) rfl), (tg1 0 (by decide +kernel) rfl)⟩, ⟨by decide, by decide⟩, by decide +kernel, Nat.le_of_ble_eq_true rfl⟩
theorem cs_14 {p : Program} {l : Launch} {e : Env} {R : Room} {s : State} {m : MethodId} {args : Array Value} {below : List Frame} {meth : Method} {c : Code} {Qm : State → Prop} {G : dG} {b L : Nat} {xs : Nat → Int32} {u : Nat × Nat} {σ : dS} {i : Int} {x5 x6 : Option dX} (E : lgE p l R s m args c G b L xs) (h0 : 0 ≤ i) (h1 : i + 5 < L) (hI : INV σ) (hz : σ 1000000 0 = 198) (hu1 : u.1 + 2 ≤ 601024) (hu2 : u.2 + 12 ≤ 7293034) (k : lgK p l e R s m args below meth c Qm G u i) : VW p l e R s m args below meth c Qm G false 7 1020 u (lgL i x5 x6) [] σ :=
  lg_B (qs := [(1, false), (2, false)]) (yx := 117) (ym := 230) (bw := 156) (bm := 158) (n := 3) (mc := m_117.2.2.2.2.2.2.1.1) (ms := m_117.2.2.2.2.2.2.1.2) (nz := false) (cd := cdK 18) (w := wr_grain) E (by decide +kernel) wrk_grain lk_230 lk_157 rfl rfl rfl (by decide) (by decide) h0 h1 hz hu1 hu2 (fun Q h => lg_w2 (d := 80) (hc := 18) E.2.1.2.1 (by decide) (Or.inl rfl) ⟨lkw_117.1, lkw_117.2.1, lkw_117.2.2.1, rfl⟩ rfl (by decide +kernel) (aVl_R xs i _) (aVl_R xs i _) h) (fun Q K h hh => p_grain (d := 60) hI h (fun σ1 g => hh 0 1 σ1 rfl g)) cdK_18 k
set_option maxRecDepth 100000 in
theorem mte_118 : MT[118]? = some m_118 := rfl
theorem lkw_118 : lnk 118 47 3 12 m_118 := ⟨mte_118, ⟨MT_ok m_118 (List.mem_of_getElem? mte_118), (tg5 209 (by decide +kernel) rfl), rfl, rfl, rfl, rfl, fun _ => ⟨_, by decide, rfl, rfl⟩⟩, rfl, by decide⟩
set_option maxRecDepth 100000 in
theorem mte_231 : MT[231]? = some m_231 := rfl
theorem lk_231 : lnk 231 161 3 13 m_231 := ⟨mte_231, ⟨MT_ok m_231 (List.mem_of_getElem? mte_231), (tg8 208 (by decide +kernel) rfl), rfl, rfl, rfl, rfl, fun _ => ⟨_, by decide, rfl, rfl⟩⟩, rfl, by decide⟩
def wr_start : lgR := (⟨"WingTramsLaw", "start", "(LWingTrams;II[J)I"⟩, method_13_code, 5, [(0, 10, 13, 18)])
theorem wrk_start : okWr wr_start 159 4 := ⟨⟨(tg5 208 (by decide +kernel) rfl), (tg5 206 (by decide +kernel) rfl), (tg5 207 (by decide +kernel) rfl), (tg1 0 (by decide +kernel) rfl)⟩, ⟨by decide, by decide⟩, by decide +kernel, Nat.le_of_ble_eq_true rfl⟩
theorem cs_15 {p : Program} {l : Launch} {e : Env} {R : Room} {s : State} {m : MethodId} {args : Array Value} {below : List Frame} {meth : Method} {c : Code} {Qm : State → Prop} {G : dG} {b L : Nat} {xs : Nat → Int32} {u : Nat × Nat} {σ : dS} {i : Int} {x5 x6 : Option dX} (E : lgE p l R s m args c G b L xs) (h0 : 0 ≤ i) (h1 : i + 5 < L) (hI : INV σ) (hz : σ 1000000 0 = 198) (hu1 : u.1 + 2 ≤ 601024) (hu2 : u.2 + 12 ≤ 7293034) (k : lgK p l e R s m args below meth c Qm G u i) : VW p l e R s m args below meth c Qm G false 7 1088 u (lgL i x5 x6) [] σ :=
  lg_B (qs := [(1, false), (2, false)]) (yx := 118) (ym := 231) (bw := 159) (bm := 161) (n := 3) (mc := m_118.2.2.2.2.2.2.1.1) (ms := m_118.2.2.2.2.2.2.1.2) (nz := false) (cd := cdK 18) (w := wr_start) E (by decide +kernel) wrk_start lk_231 lk_157 rfl rfl rfl (by decide) (by decide) h0 h1 hz hu1 hu2 (fun Q h => lg_w2 (d := 80) (hc := 18) E.2.1.2.1 (by decide) (Or.inl rfl) ⟨lkw_118.1, lkw_118.2.1, lkw_118.2.2.1, rfl⟩ rfl (by decide +kernel) (aVl_R xs i _) (aVl_R xs i _) h) (fun Q K h hh => p_start (d := 60) hI h (fun σ1 g => hh 0 1 σ1 rfl g)) cdK_18 k
set_option maxRecDepth 100000 in
theorem mte_119 : MT[119]? = some m_119 := rfl
theorem lk_119 : lnk 119 162 1 12 m_119 := ⟨mte_119, ⟨MT_ok m_119 (List.mem_of_getElem? mte_119), (tg3 54 (by decide +kernel) rfl), rfl, rfl, rfl, rfl, fun _ => ⟨_, by decide, rfl, rfl⟩⟩, rfl, by decide⟩
set_option maxRecDepth 100000 in
theorem mte_198 : MT[198]? = some m_198 := rfl
theorem lk_198 : lnk 198 165 1 13 m_198 := ⟨mte_198, ⟨MT_ok m_198 (List.mem_of_getElem? mte_198), (tg8 74 (by decide +kernel) rfl), rfl, rfl, rfl, rfl, fun _ => ⟨_, by decide, rfl, rfl⟩⟩, rfl, by decide⟩
theorem cs_16 {p : Program} {l : Launch} {e : Env} {R : Room} {s : State} {m : MethodId} {args : Array Value} {below : List Frame} {meth : Method} {c : Code} {Qm : State → Prop} {G : dG} {b L : Nat} {xs : Nat → Int32} {u : Nat × Nat} {σ : dS} {i : Int} {x5 x6 : Option dX} (E : lgE p l R s m args c G b L xs) (h0 : 0 ≤ i) (h1 : i + 5 < L) (hI : INV σ) (hz : σ 1000000 0 = 198) (hu1 : u.1 + 2 ≤ 601024) (hu2 : u.2 + 12 ≤ 7293034) (k : lgK p l e R s m args below meth c Qm G u i) : VW p l e R s m args below meth c Qm G false 7 1156 u (lgL i x5 x6) [] σ :=
  lg_A (qs := []) (yx := 119) (ym := 198) (bx := 162) (bm := 165) (n := 1) E (by decide +kernel) lk_119 lk_198 rfl (by decide) (by decide) rfl h0 h1 hI hz hu1 hu2 (fun Q K h => p_undo (d := 60) hI (fun v σ1 g => h v σ1 (PRU_of g))) k
set_option maxRecDepth 100000 in
theorem mte_120 : MT[120]? = some m_120 := rfl
theorem lkw_120 : lnk 120 50 2 12 m_120 := ⟨mte_120, ⟨MT_ok m_120 (List.mem_of_getElem? mte_120), (tg5 216 (by decide +kernel) rfl), rfl, rfl, rfl, rfl, fun _ => ⟨_, by decide, rfl, rfl⟩⟩, rfl, by decide⟩
set_option maxRecDepth 100000 in
theorem mte_233 : MT[233]? = some m_233 := rfl
theorem lk_233 : lnk 233 168 2 13 m_233 := ⟨mte_233, ⟨MT_ok m_233 (List.mem_of_getElem? mte_233), (tg8 212 (by decide +kernel) rfl), rfl, rfl, rfl, rfl, fun _ => ⟨_, by decide, rfl, rfl⟩⟩, rfl, by decide⟩
def wr_home : lgR := (⟨"WingTramsLaw", "home", "(LWingTrams;I[J)I"⟩, method_14_code, 4, [(0, 9, 12, 18)])
theorem wrk_home : okWr wr_home 166 3 := ⟨⟨(tg5 215 (by decide +kernel) rfl), (tg5 213 (by decide +kernel) rfl), (tg5 214 (by decide +kernel) rfl), (tg1 0 (by decide +kernel) rfl)⟩, ⟨by decide, by decide⟩, by decide +kernel, Nat.le_of_ble_eq_true rfl⟩
theorem cs_17 {p : Program} {l : Launch} {e : Env} {R : Room} {s : State} {m : MethodId} {args : Array Value} {below : List Frame} {meth : Method} {c : Code} {Qm : State → Prop} {G : dG} {b L : Nat} {xs : Nat → Int32} {u : Nat × Nat} {σ : dS} {i : Int} {x5 x6 : Option dX} (E : lgE p l R s m args c G b L xs) (h0 : 0 ≤ i) (h1 : i + 5 < L) (hI : INV σ) (hz : σ 1000000 0 = 198) (hu1 : u.1 + 2 ≤ 601024) (hu2 : u.2 + 12 ≤ 7293034) (k : lgK p l e R s m args below meth c Qm G u i) : VW p l e R s m args below meth c Qm G false 7 1169 u (lgL i x5 x6) [] σ :=
  lg_B (qs := [(1, false)]) (yx := 120) (ym := 233) (bw := 166) (bm := 168) (n := 2) (mc := m_120.2.2.2.2.2.2.1.1) (ms := m_120.2.2.2.2.2.2.1.2) (nz := false) (cd := cdK 18) (w := wr_home) E (by decide +kernel) wrk_home lk_233 lk_157 rfl rfl rfl (by decide) (by decide) h0 h1 hz hu1 hu2 (fun Q h => lg_w1 (d := 80) (hc := 18) E.2.1.2.1 (by decide) (Or.inl rfl) ⟨lkw_120.1, lkw_120.2.1, lkw_120.2.2.1, rfl⟩ rfl (by decide +kernel) (aVl_R xs i _) h) (fun Q K h hh => p_home (d := 60) hI h (fun σ1 g => hh 0 1 σ1 rfl g)) cdK_18 k
set_option maxRecDepth 100000 in
theorem mte_121 : MT[121]? = some m_121 := rfl
theorem lkw_121 : lnk 121 53 2 12 m_121 := ⟨mte_121, ⟨MT_ok m_121 (List.mem_of_getElem? mte_121), (tg5 223 (by decide +kernel) rfl), rfl, rfl, rfl, rfl, fun _ => ⟨_, by decide, rfl, rfl⟩⟩, rfl, by decide⟩
set_option maxRecDepth 100000 in
theorem mte_235 : MT[235]? = some m_235 := rfl
theorem lk_235 : lnk 235 171 2 13 m_235 := ⟨mte_235, ⟨MT_ok m_235 (List.mem_of_getElem? mte_235), (tg8 219 (by decide +kernel) rfl), rfl, rfl, rfl, rfl, fun _ => ⟨_, by decide, rfl, rfl⟩⟩, rfl, by decide⟩
def wr_changes : lgR := (⟨"WingTramsLaw", "changes", "(LWingTrams;I[J)I"⟩, method_15_code, 4, [(0, 9, 12, 18)])
theorem wrk_changes : okWr wr_changes 169 3 := ⟨⟨(tg5 222 (by decide +kernel) rfl), (tg5 220 (by decide +kernel) rfl), (tg5 221 (by decide +kernel) rfl), (tg1 0 (by decide +kernel) rfl)⟩, ⟨by decide, by decide⟩, by decide +kernel, Nat.le_of_ble_eq_true rfl⟩
theorem cs_18 {p : Program} {l : Launch} {e : Env} {R : Room} {s : State} {m : MethodId} {args : Array Value} {below : List Frame} {meth : Method} {c : Code} {Qm : State → Prop} {G : dG} {b L : Nat} {xs : Nat → Int32} {u : Nat × Nat} {σ : dS} {i : Int} {x5 x6 : Option dX} (E : lgE p l R s m args c G b L xs) (h0 : 0 ≤ i) (h1 : i + 5 < L) (hI : INV σ) (hz : σ 1000000 0 = 198) (hu1 : u.1 + 2 ≤ 601024) (hu2 : u.2 + 12 ≤ 7293034) (k : lgK p l e R s m args below meth c Qm G u i) : VW p l e R s m args below meth c Qm G false 7 1225 u (lgL i x5 x6) [] σ :=
  lg_B (qs := [(1, false)]) (yx := 121) (ym := 235) (bw := 169) (bm := 171) (n := 2) (mc := m_121.2.2.2.2.2.2.1.1) (ms := m_121.2.2.2.2.2.2.1.2) (nz := false) (cd := cdK 18) (w := wr_changes) E (by decide +kernel) wrk_changes lk_235 lk_157 rfl rfl rfl (by decide) (by decide) h0 h1 hz hu1 hu2 (fun Q h => lg_w1 (d := 80) (hc := 18) E.2.1.2.1 (by decide) (Or.inl rfl) ⟨lkw_121.1, lkw_121.2.1, lkw_121.2.2.1, rfl⟩ rfl (by decide +kernel) (aVl_R xs i _) h) (fun Q K h hh => p_changes (d := 60) hI h (fun σ1 g => hh 0 1 σ1 rfl g)) cdK_18 k
set_option maxRecDepth 100000 in
theorem mte_122 : MT[122]? = some m_122 := rfl
theorem lkw_122 : lnk 122 56 2 12 m_122 := ⟨mte_122, ⟨MT_ok m_122 (List.mem_of_getElem? mte_122), (tg5 238 (by decide +kernel) rfl), rfl, rfl, rfl, rfl, fun _ => ⟨_, by decide, rfl, rfl⟩⟩, rfl, by decide⟩
set_option maxRecDepth 100000 in
theorem mte_236 : MT[236]? = some m_236 := rfl
theorem lk_236 : lnk 236 174 2 13 m_236 := ⟨mte_236, ⟨MT_ok m_236 (List.mem_of_getElem? mte_236), (tg8 227 (by decide +kernel) rfl), rfl, rfl, rfl, rfl, fun _ => ⟨_, by decide, rfl, rfl⟩⟩, rfl, by decide⟩
def wr_cheapest : lgR := (⟨"WingTramsLaw", "cheapest", "(LWingTrams;I[J)I"⟩, method_16_code, 4, [(0, 9, 12, 18)])
theorem wrk_cheapest : okWr wr_cheapest 172 3 := ⟨⟨(tg5 237 (by decide +kernel) rfl), (tg5 235 (by decide +kernel) rfl), (tg5 236 (by decide +kernel) rfl), (tg1 0 (by decide +kernel) rfl)⟩, ⟨by decide, by decide⟩, by decide +kernel, Nat.le_of_ble_eq_true rfl⟩
theorem cs_19 {p : Program} {l : Launch} {e : Env} {R : Room} {s : State} {m : MethodId} {args : Array Value} {below : List Frame} {meth : Method} {c : Code} {Qm : State → Prop} {G : dG} {b L : Nat} {xs : Nat → Int32} {u : Nat × Nat} {σ : dS} {i : Int} {x5 x6 : Option dX} (E : lgE p l R s m args c G b L xs) (h0 : 0 ≤ i) (h1 : i + 5 < L) (hI : INV σ) (hz : σ 1000000 0 = 198) (hu1 : u.1 + 2 ≤ 601024) (hu2 : u.2 + 12 ≤ 7293034) (k : lgK p l e R s m args below meth c Qm G u i) : VW p l e R s m args below meth c Qm G false 7 1281 u (lgL i x5 x6) [] σ :=
  lg_B (qs := [(1, false)]) (yx := 122) (ym := 236) (bw := 172) (bm := 174) (n := 2) (mc := m_122.2.2.2.2.2.2.1.1) (ms := m_122.2.2.2.2.2.2.1.2) (nz := false) (cd := cdK 18) (w := wr_cheapest) E (by decide +kernel) wrk_cheapest lk_236 lk_157 rfl rfl rfl (by decide) (by decide) h0 h1 hz hu1 hu2 (fun Q h => lg_w1 (d := 80) (hc := 18) E.2.1.2.1 (by decide) (Or.inl rfl) ⟨lkw_122.1, lkw_122.2.1, lkw_122.2.2.1, rfl⟩ rfl (by decide +kernel) (aVl_R xs i _) h) (fun Q K h hh => p_cheapest (d := 60) hI h (fun σ1 g => hh 0 1 σ1 rfl g)) cdK_18 k
set_option maxRecDepth 100000 in
theorem mte_123 : MT[123]? = some m_123 := rfl
theorem lkw_123 : lnk 123 59 2 12 m_123 := ⟨mte_123, ⟨MT_ok m_123 (List.mem_of_getElem? mte_123), (tg6 5 (by decide +kernel) rfl), rfl, rfl, rfl, rfl, fun _ => ⟨_, by decide, rfl, rfl⟩⟩, rfl, by decide⟩
set_option maxRecDepth 100000 in
theorem mte_237 : MT[237]? = some m_237 := rfl
theorem lk_237 : lnk 237 177 2 13 m_237 := ⟨mte_237, ⟨MT_ok m_237 (List.mem_of_getElem? mte_237), (tg8 231 (by decide +kernel) rfl), rfl, rfl, rfl, rfl, fun _ => ⟨_, by decide, rfl, rfl⟩⟩, rfl, by decide⟩
def wr_last : lgR := (⟨"WingTramsLaw", "last", "(LWingTrams;I[J)I"⟩, method_17_code, 4, [(0, 9, 12, 18)])
theorem wrk_last : okWr wr_last 175 3 := ⟨⟨(tg6 4 (by decide +kernel) rfl), (tg6 2 (by decide +kernel) rfl), (tg6 3 (by decide +kernel) rfl), (tg1 0 (by decide +kernel) rfl)⟩, ⟨by decide, by decide⟩, by decide +kernel, Nat.le_of_ble_eq_true rfl⟩
theorem cs_20 {p : Program} {l : Launch} {e : Env} {R : Room} {s : State} {m : MethodId} {args : Array Value} {below : List Frame} {meth : Method} {c : Code} {Qm : State → Prop} {G : dG} {b L : Nat} {xs : Nat → Int32} {u : Nat × Nat} {σ : dS} {i : Int} {x5 x6 : Option dX} (E : lgE p l R s m args c G b L xs) (h0 : 0 ≤ i) (h1 : i + 5 < L) (hI : INV σ) (hz : σ 1000000 0 = 198) (hu1 : u.1 + 2 ≤ 601024) (hu2 : u.2 + 12 ≤ 7293034) (k : lgK p l e R s m args below meth c Qm G u i) : VW p l e R s m args below meth c Qm G false 7 1337 u (lgL i x5 x6) [] σ :=
  lg_B (qs := [(1, false)]) (yx := 123) (ym := 237) (bw := 175) (bm := 177) (n := 2) (mc := m_123.2.2.2.2.2.2.1.1) (ms := m_123.2.2.2.2.2.2.1.2) (nz := false) (cd := cdK 18) (w := wr_last) E (by decide +kernel) wrk_last lk_237 lk_157 rfl rfl rfl (by decide) (by decide) h0 h1 hz hu1 hu2 (fun Q h => lg_w1 (d := 80) (hc := 18) E.2.1.2.1 (by decide) (Or.inl rfl) ⟨lkw_123.1, lkw_123.2.1, lkw_123.2.2.1, rfl⟩ rfl (by decide +kernel) (aVl_R xs i _) h) (fun Q K h hh => p_last (d := 60) hI h (fun σ1 g => hh 0 1 σ1 rfl g)) cdK_18 k
set_option maxRecDepth 100000 in
theorem mte_124 : MT[124]? = some m_124 := rfl
theorem lk_124 : lnk 124 178 1 12 m_124 := ⟨mte_124, ⟨MT_ok m_124 (List.mem_of_getElem? mte_124), (tg3 64 (by decide +kernel) rfl), rfl, rfl, rfl, rfl, fun _ => ⟨_, by decide, rfl, rfl⟩⟩, rfl, by decide⟩
set_option maxRecDepth 100000 in
theorem mte_238 : MT[238]? = some m_238 := rfl
theorem lk_238 : lnk 238 181 1 13 m_238 := ⟨mte_238, ⟨MT_ok m_238 (List.mem_of_getElem? mte_238), (tg8 239 (by decide +kernel) rfl), rfl, rfl, rfl, rfl, fun _ => ⟨_, by decide, rfl, rfl⟩⟩, rfl, by decide⟩
theorem cs_21 {p : Program} {l : Launch} {e : Env} {R : Room} {s : State} {m : MethodId} {args : Array Value} {below : List Frame} {meth : Method} {c : Code} {Qm : State → Prop} {G : dG} {b L : Nat} {xs : Nat → Int32} {u : Nat × Nat} {σ : dS} {i : Int} {x5 x6 : Option dX} (E : lgE p l R s m args c G b L xs) (h0 : 0 ≤ i) (h1 : i + 5 < L) (hI : INV σ) (hz : σ 1000000 0 = 198) (hu1 : u.1 + 2 ≤ 601024) (hu2 : u.2 + 12 ≤ 7293034) (k : lgK p l e R s m args below meth c Qm G u i) : VW p l e R s m args below meth c Qm G false 7 1393 u (lgL i x5 x6) [] σ :=
  lg_A (qs := []) (yx := 124) (ym := 238) (bx := 178) (bm := 181) (n := 1) E (by decide +kernel) lk_124 lk_238 rfl (by decide) (by decide) rfl h0 h1 hI hz hu1 hu2 (fun Q K h => p_never (d := 60) hI (fun v σ1 g => h v σ1 g)) k
set_option maxRecDepth 100000 in
theorem mte_127 : MT[127]? = some m_127 := rfl
theorem lkw_127 : lnk 127 62 3 12 m_127 := ⟨mte_127, ⟨MT_ok m_127 (List.mem_of_getElem? mte_127), (tg6 20 (by decide +kernel) rfl), rfl, rfl, rfl, rfl, fun _ => ⟨_, by decide, rfl, rfl⟩⟩, rfl, by decide⟩
set_option maxRecDepth 100000 in
theorem mte_240 : MT[240]? = some m_240 := rfl
theorem lk_240 : lnk 240 184 3 13 m_240 := ⟨mte_240, ⟨MT_ok m_240 (List.mem_of_getElem? mte_240), (tg9 3 (by decide +kernel) rfl), rfl, rfl, rfl, rfl, fun _ => ⟨_, by decide, rfl, rfl⟩⟩, rfl, by decide⟩
def wr_lure : lgR := (⟨"WingTramsLaw", "lure", "(LWingTrams;II[J)I"⟩, method_18_code, 5, [(0, 10, 13, 13)])
theorem wrk_lure : okWr wr_lure 182 4 := ⟨⟨(tg6 19 (by decide +kernel) rfl), (tg6 17 (by decide +kernel) rfl), (tg6 18 (by decide +kernel) rfl), (tg1 0 (by decide +kernel) rfl)⟩, ⟨by decide, by decide⟩, by decide +kernel, Nat.le_of_ble_eq_true rfl⟩
theorem cs_22 {p : Program} {l : Launch} {e : Env} {R : Room} {s : State} {m : MethodId} {args : Array Value} {below : List Frame} {meth : Method} {c : Code} {Qm : State → Prop} {G : dG} {b L : Nat} {xs : Nat → Int32} {u : Nat × Nat} {σ : dS} {i : Int} {x5 x6 : Option dX} (E : lgE p l R s m args c G b L xs) (h0 : 0 ≤ i) (h1 : i + 5 < L) (hI : INV σ) (hz : σ 1000000 0 = 198) (hu1 : u.1 + 2 ≤ 601024) (hu2 : u.2 + 12 ≤ 7293034) (k : lgK p l e R s m args below meth c Qm G u i) : VW p l e R s m args below meth c Qm G false 7 1406 u (lgL i x5 x6) [] σ :=
  lg_B (qs := [(1, false), (2, false)]) (yx := 127) (ym := 240) (bw := 182) (bm := 184) (n := 3) (mc := m_127.2.2.2.2.2.2.1.1) (ms := m_127.2.2.2.2.2.2.1.2) (nz := false) (cd := cdK 13) (w := wr_lure) E (by decide +kernel) wrk_lure lk_240 lk_157 rfl rfl rfl (by decide) (by decide) h0 h1 hz hu1 hu2 (fun Q h => lg_w2 (d := 80) (hc := 13) E.2.1.2.1 (by decide) (Or.inr rfl) ⟨lkw_127.1, lkw_127.2.1, lkw_127.2.2.1, rfl⟩ rfl (by decide +kernel) (aVl_R xs i _) (aVl_R xs i _) h) (fun Q K h hh => p_lure (d := 60) hI (aVl_lt xs i (1, false)) h (fun σ1 g => hh 1 1 σ1 rfl g)) cdK_13 k
set_option maxRecDepth 100000 in
theorem mte_128 : MT[128]? = some m_128 := rfl
theorem lkw_128 : lnk 128 65 2 12 m_128 := ⟨mte_128, ⟨MT_ok m_128 (List.mem_of_getElem? mte_128), (tg6 46 (by decide +kernel) rfl), rfl, rfl, rfl, rfl, fun _ => ⟨_, by decide, rfl, rfl⟩⟩, rfl, by decide⟩
set_option maxRecDepth 100000 in
theorem mte_241 : MT[241]? = some m_241 := rfl
theorem lk_241 : lnk 241 187 2 13 m_241 := ⟨mte_241, ⟨MT_ok m_241 (List.mem_of_getElem? mte_241), (tg9 11 (by decide +kernel) rfl), rfl, rfl, rfl, rfl, fun _ => ⟨_, by decide, rfl, rfl⟩⟩, rfl, by decide⟩
def wr_more : lgR := (⟨"WingTramsLaw", "more", "(LWingTrams;I[J)I"⟩, method_19_code, 4, [(0, 9, 12, 18)])
theorem wrk_more : okWr wr_more 185 3 := ⟨⟨(tg6 45 (by decide +kernel) rfl), (tg6 43 (by decide +kernel) rfl), (tg6 44 (by decide +kernel) rfl), (tg1 0 (by decide +kernel) rfl)⟩, ⟨by decide, by decide⟩, by decide +kernel, Nat.le_of_ble_eq_true rfl⟩
theorem cs_23 {p : Program} {l : Launch} {e : Env} {R : Room} {s : State} {m : MethodId} {args : Array Value} {below : List Frame} {meth : Method} {c : Code} {Qm : State → Prop} {G : dG} {b L : Nat} {xs : Nat → Int32} {u : Nat × Nat} {σ : dS} {i : Int} {x5 x6 : Option dX} (E : lgE p l R s m args c G b L xs) (h0 : 0 ≤ i) (h1 : i + 5 < L) (hI : INV σ) (hz : σ 1000000 0 = 198) (hu1 : u.1 + 2 ≤ 601024) (hu2 : u.2 + 12 ≤ 7293034) (k : lgK p l e R s m args below meth c Qm G u i) : VW p l e R s m args below meth c Qm G false 7 1474 u (lgL i x5 x6) [] σ :=
  lg_B (qs := [(1, false)]) (yx := 128) (ym := 241) (bw := 185) (bm := 187) (n := 2) (mc := m_128.2.2.2.2.2.2.1.1) (ms := m_128.2.2.2.2.2.2.1.2) (nz := false) (cd := cdK 18) (w := wr_more) E (by decide +kernel) wrk_more lk_241 lk_157 rfl rfl rfl (by decide) (by decide) h0 h1 hz hu1 hu2 (fun Q h => lg_w1 (d := 80) (hc := 18) E.2.1.2.1 (by decide) (Or.inl rfl) ⟨lkw_128.1, lkw_128.2.1, lkw_128.2.2.1, rfl⟩ rfl (by decide +kernel) (aVl_R xs i _) h) (fun Q K h hh => p_more (d := 60) hI h (fun σ1 g => hh 0 1 σ1 rfl g)) cdK_18 k
set_option maxRecDepth 100000 in
theorem mte_132 : MT[132]? = some m_132 := rfl
theorem lkw_132 : lnk 132 68 4 12 m_132 := ⟨mte_132, ⟨MT_ok m_132 (List.mem_of_getElem? mte_132), (tg6 54 (by decide +kernel) rfl), rfl, rfl, rfl, rfl, fun _ => ⟨_, by decide, rfl, rfl⟩⟩, rfl, by decide⟩
set_option maxRecDepth 100000 in
theorem mte_242 : MT[242]? = some m_242 := rfl
theorem lk_242 : lnk 242 190 4 13 m_242 := ⟨mte_242, ⟨MT_ok m_242 (List.mem_of_getElem? mte_242), (tg9 15 (by decide +kernel) rfl), rfl, rfl, rfl, rfl, fun _ => ⟨_, by decide, rfl, rfl⟩⟩, rfl, by decide⟩
def wr_beams : lgR := (⟨"WingTramsLaw", "beams", "(LWingTrams;III[J)I"⟩, method_20_code, 6, [(0, 12, 15, 18), (0, 12, 19, 13)])
theorem wrk_beams : okWr wr_beams 188 5 := ⟨⟨(tg6 53 (by decide +kernel) rfl), (tg6 51 (by decide +kernel) rfl), (tg6 52 (by decide +kernel) rfl), (tg1 0 (by decide +kernel) rfl)⟩, ⟨by decide, by decide⟩, by decide +kernel, Nat.le_of_ble_eq_true rfl⟩
theorem cks_beams : ck3 method_20_code 68 11 23 = true := by decide +kernel
theorem cs_24 {p : Program} {l : Launch} {e : Env} {R : Room} {s : State} {m : MethodId} {args : Array Value} {below : List Frame} {meth : Method} {c : Code} {Qm : State → Prop} {G : dG} {b L : Nat} {xs : Nat → Int32} {u : Nat × Nat} {σ : dS} {i : Int} {x5 x6 : Option dX} (E : lgE p l R s m args c G b L xs) (h0 : 0 ≤ i) (h1 : i + 5 < L) (hI : INV σ) (hz : σ 1000000 0 = 198) (hu1 : u.1 + 2 ≤ 601024) (hu2 : u.2 + 12 ≤ 7293034) (k : lgK p l e R s m args below meth c Qm G u i) : VW p l e R s m args below meth c Qm G false 7 1530 u (lgL i x5 x6) [] σ :=
  lg_B (qs := [(1, false), (2, false), (3, false)]) (yx := 132) (ym := 242) (bw := 188) (bm := 190) (n := 4) (mc := m_132.2.2.2.2.2.2.1.1) (ms := m_132.2.2.2.2.2.2.1.2) (nz := false) (cd := cdC) (w := wr_beams) E (by decide +kernel) wrk_beams lk_242 lk_157 rfl rfl rfl (by decide) (by decide) h0 h1 hz hu1 hu2 (fun Q h => lg_w3 (d := 80) (cd := cdC) (g := 11) (t := 23) E.2.1.2.1 (by decide) (cat_3b (g := 11) (t := 23) cks_beams (by decide +kernel)) ⟨lkw_132.1, lkw_132.2.1, lkw_132.2.2.1, rfl⟩ rfl cks_beams (by decide) (aVl_R xs i _) (aVl_R xs i _) (aVl_R xs i _) h) (fun Q K h hh => p_beams (d := 60) hI h (fun σ1 g => hh 0 1 σ1 rfl g) (fun σ1 g => hh 1 2 σ1 rfl g)) cdC_0 k
set_option maxRecDepth 100000 in
theorem mte_133 : MT[133]? = some m_133 := rfl
theorem lkw_133 : lnk 133 71 2 12 m_133 := ⟨mte_133, ⟨MT_ok m_133 (List.mem_of_getElem? mte_133), (tg6 87 (by decide +kernel) rfl), rfl, rfl, rfl, rfl, fun _ => ⟨_, by decide, rfl, rfl⟩⟩, rfl, by decide⟩
set_option maxRecDepth 100000 in
theorem mte_246 : MT[246]? = some m_246 := rfl
theorem lk_246 : lnk 246 193 2 13 m_246 := ⟨mte_246, ⟨MT_ok m_246 (List.mem_of_getElem? mte_246), (tg9 22 (by decide +kernel) rfl), rfl, rfl, rfl, rfl, fun _ => ⟨_, by decide, rfl, rfl⟩⟩, rfl, by decide⟩
def wr_straps : lgR := (⟨"WingTramsLaw", "straps", "(LWingTrams;I[J)I"⟩, method_21_code, 4, [(0, 9, 12, 13)])
theorem wrk_straps : okWr wr_straps 191 3 := ⟨⟨(tg6 86 (by decide +kernel) rfl), (tg6 84 (by decide +kernel) rfl), (tg6 85 (by decide +kernel) rfl), (tg1 0 (by decide +kernel) rfl)⟩, ⟨by decide, by decide⟩, by decide +kernel, Nat.le_of_ble_eq_true rfl⟩
theorem cs_25 {p : Program} {l : Launch} {e : Env} {R : Room} {s : State} {m : MethodId} {args : Array Value} {below : List Frame} {meth : Method} {c : Code} {Qm : State → Prop} {G : dG} {b L : Nat} {xs : Nat → Int32} {u : Nat × Nat} {σ : dS} {i : Int} {x5 x6 : Option dX} (E : lgE p l R s m args c G b L xs) (h0 : 0 ≤ i) (h1 : i + 5 < L) (hI : INV σ) (hz : σ 1000000 0 = 198) (hu1 : u.1 + 2 ≤ 601024) (hu2 : u.2 + 12 ≤ 7293034) (k : lgK p l e R s m args below meth c Qm G u i) : VW p l e R s m args below meth c Qm G false 7 1610 u (lgL i x5 x6) [] σ :=
  lg_B (qs := [(1, false)]) (yx := 133) (ym := 246) (bw := 191) (bm := 193) (n := 2) (mc := m_133.2.2.2.2.2.2.1.1) (ms := m_133.2.2.2.2.2.2.1.2) (nz := false) (cd := cdK 13) (w := wr_straps) E (by decide +kernel) wrk_straps lk_246 lk_157 rfl rfl rfl (by decide) (by decide) h0 h1 hz hu1 hu2 (fun Q h => lg_w1 (d := 80) (hc := 13) E.2.1.2.1 (by decide) (Or.inr rfl) ⟨lkw_133.1, lkw_133.2.1, lkw_133.2.2.1, rfl⟩ rfl (by decide +kernel) (aVl_R xs i _) h) (fun Q K h hh => p_straps (d := 60) hI h (fun σ1 g => hh 1 1 σ1 rfl g)) cdK_13 k
set_option maxRecDepth 100000 in
theorem mte_134 : MT[134]? = some m_134 := rfl
theorem lkw_134 : lnk 134 74 2 12 m_134 := ⟨mte_134, ⟨MT_ok m_134 (List.mem_of_getElem? mte_134), (tg6 111 (by decide +kernel) rfl), rfl, rfl, rfl, rfl, fun _ => ⟨_, by decide, rfl, rfl⟩⟩, rfl, by decide⟩
set_option maxRecDepth 100000 in
theorem mte_248 : MT[248]? = some m_248 := rfl
theorem lk_248 : lnk 248 196 2 13 m_248 := ⟨mte_248, ⟨MT_ok m_248 (List.mem_of_getElem? mte_248), (tg9 38 (by decide +kernel) rfl), rfl, rfl, rfl, rfl, fun _ => ⟨_, by decide, rfl, rfl⟩⟩, rfl, by decide⟩
def wr_worth : lgR := (⟨"WingTramsLaw", "worth", "(LWingTrams;I[J)I"⟩, method_22_code, 4, [(0, 9, 12, 18)])
theorem wrk_worth : okWr wr_worth 194 3 := ⟨⟨(tg6 110 (by decide +kernel) rfl), (tg6 108 (by decide +kernel) rfl), (tg6 109 (by decide +kernel) rfl), (tg1 0 (by decide +kernel) rfl)⟩, ⟨by decide, by decide⟩, by decide +kernel, Nat.le_of_ble_eq_true rfl⟩
theorem cs_26 {p : Program} {l : Launch} {e : Env} {R : Room} {s : State} {m : MethodId} {args : Array Value} {below : List Frame} {meth : Method} {c : Code} {Qm : State → Prop} {G : dG} {b L : Nat} {xs : Nat → Int32} {u : Nat × Nat} {σ : dS} {i : Int} {x5 x6 : Option dX} (E : lgE p l R s m args c G b L xs) (h0 : 0 ≤ i) (h1 : i + 5 < L) (hI : INV σ) (hz : σ 1000000 0 = 198) (hu1 : u.1 + 2 ≤ 601024) (hu2 : u.2 + 12 ≤ 7293034) (k : lgK p l e R s m args below meth c Qm G u i) : VW p l e R s m args below meth c Qm G false 7 1666 u (lgL i x5 x6) [] σ :=
  lg_B (qs := [(1, false)]) (yx := 134) (ym := 248) (bw := 194) (bm := 196) (n := 2) (mc := m_134.2.2.2.2.2.2.1.1) (ms := m_134.2.2.2.2.2.2.1.2) (nz := false) (cd := cdK 18) (w := wr_worth) E (by decide +kernel) wrk_worth lk_248 lk_157 rfl rfl rfl (by decide) (by decide) h0 h1 hz hu1 hu2 (fun Q h => lg_w1 (d := 80) (hc := 18) E.2.1.2.1 (by decide) (Or.inl rfl) ⟨lkw_134.1, lkw_134.2.1, lkw_134.2.2.1, rfl⟩ rfl (by decide +kernel) (aVl_R xs i _) h) (fun Q K h hh => p_worth (d := 60) hI h (fun σ1 g => hh 0 1 σ1 rfl g)) cdK_18 k
set_option maxRecDepth 100000 in
theorem mte_135 : MT[135]? = some m_135 := rfl
theorem lk_135 : lnk 135 197 1 12 m_135 := ⟨mte_135, ⟨MT_ok m_135 (List.mem_of_getElem? mte_135), (tg3 130 (by decide +kernel) rfl), rfl, rfl, rfl, rfl, fun _ => ⟨_, by decide, rfl, rfl⟩⟩, rfl, by decide⟩
set_option maxRecDepth 100000 in
theorem mte_249 : MT[249]? = some m_249 := rfl
theorem lk_249 : lnk 249 200 1 13 m_249 := ⟨mte_249, ⟨MT_ok m_249 (List.mem_of_getElem? mte_249), (tg9 46 (by decide +kernel) rfl), rfl, rfl, rfl, rfl, fun _ => ⟨_, by decide, rfl, rfl⟩⟩, rfl, by decide⟩
theorem cs_27 {p : Program} {l : Launch} {e : Env} {R : Room} {s : State} {m : MethodId} {args : Array Value} {below : List Frame} {meth : Method} {c : Code} {Qm : State → Prop} {G : dG} {b L : Nat} {xs : Nat → Int32} {u : Nat × Nat} {σ : dS} {i : Int} {x5 x6 : Option dX} (E : lgE p l R s m args c G b L xs) (h0 : 0 ≤ i) (h1 : i + 5 < L) (hI : INV σ) (hz : σ 1000000 0 = 198) (hu1 : u.1 + 2 ≤ 601024) (hu2 : u.2 + 12 ≤ 7293034) (k : lgK p l e R s m args below meth c Qm G u i) : VW p l e R s m args below meth c Qm G false 7 1722 u (lgL i x5 x6) [] σ :=
  lg_A (qs := []) (yx := 135) (ym := 249) (bx := 197) (bm := 200) (n := 1) E (by decide +kernel) lk_135 lk_249 rfl (by decide) (by decide) rfl h0 h1 hI hz hu1 hu2 (fun Q K h => p_vital (d := 60) hI (fun v σ1 g => h v σ1 g)) k
set_option maxRecDepth 100000 in
theorem mte_137 : MT[137]? = some m_137 := rfl
theorem lkw_137 : lnk 137 77 4 12 m_137 := ⟨mte_137, ⟨MT_ok m_137 (List.mem_of_getElem? mte_137), (tg6 118 (by decide +kernel) rfl), rfl, rfl, rfl, rfl, fun _ => ⟨_, by decide, rfl, rfl⟩⟩, rfl, by decide⟩
set_option maxRecDepth 100000 in
theorem mte_256 : MT[256]? = some m_256 := rfl
theorem lk_256 : lnk 256 203 4 13 m_256 := ⟨mte_256, ⟨MT_ok m_256 (List.mem_of_getElem? mte_256), (tg9 74 (by decide +kernel) rfl), rfl, rfl, rfl, rfl, fun _ => ⟨_, by decide, rfl, rfl⟩⟩, rfl, by decide⟩
def wr_see : lgR := (⟨"WingTramsLaw", "see", "(LWingTrams;III[J)I"⟩, method_23_code, 6, [(0, 12, 15, 18)])
theorem wrk_see : okWr wr_see 201 5 := ⟨⟨(tg6 117 (by decide +kernel) rfl), (tg6 115 (by decide +kernel) rfl), (tg6 116 (by decide +kernel) rfl), (tg1 0 (by decide +kernel) rfl)⟩, ⟨by decide, by decide⟩, by decide +kernel, Nat.le_of_ble_eq_true rfl⟩
theorem cks_see : ck3 method_23_code 77 7 19 = true := by decide +kernel
theorem cs_28 {p : Program} {l : Launch} {e : Env} {R : Room} {s : State} {m : MethodId} {args : Array Value} {below : List Frame} {meth : Method} {c : Code} {Qm : State → Prop} {G : dG} {b L : Nat} {xs : Nat → Int32} {u : Nat × Nat} {σ : dS} {i : Int} {x5 x6 : Option dX} (E : lgE p l R s m args c G b L xs) (h0 : 0 ≤ i) (h1 : i + 5 < L) (hI : INV σ) (hz : σ 1000000 0 = 198) (hu1 : u.1 + 2 ≤ 601024) (hu2 : u.2 + 12 ≤ 7293034) (k : lgK p l e R s m args below meth c Qm G u i) : VW p l e R s m args below meth c Qm G false 7 1735 u (lgL i x5 x6) [] σ :=
  lg_B (qs := [(1, false), (2, false), (3, false)]) (yx := 137) (ym := 256) (bw := 201) (bm := 203) (n := 4) (mc := m_137.2.2.2.2.2.2.1.1) (ms := m_137.2.2.2.2.2.2.1.2) (nz := false) (cd := cdK 18) (w := wr_see) E (by decide +kernel) wrk_see lk_256 lk_157 rfl rfl rfl (by decide) (by decide) h0 h1 hz hu1 hu2 (fun Q h => lg_w3 (d := 80) (cd := cdK 18) (g := 7) (t := 19) E.2.1.2.1 (by decide) (cat_3 (g := 7) (t := 19) (Or.inl rfl) (cks_see)) ⟨lkw_137.1, lkw_137.2.1, lkw_137.2.2.1, rfl⟩ rfl cks_see (by decide) (aVl_R xs i _) (aVl_R xs i _) (aVl_R xs i _) h) (fun Q K h hh => p_see (d := 60) hI h (fun σ1 g => hh 0 1 σ1 rfl g)) cdK_18 k
set_option maxRecDepth 100000 in
theorem mte_138 : MT[138]? = some m_138 := rfl
theorem lk_138 : lnk 138 204 1 12 m_138 := ⟨mte_138, ⟨MT_ok m_138 (List.mem_of_getElem? mte_138), (tg3 155 (by decide +kernel) rfl), rfl, rfl, rfl, rfl, fun _ => ⟨_, by decide, rfl, rfl⟩⟩, rfl, by decide⟩
set_option maxRecDepth 100000 in
theorem mte_257 : MT[257]? = some m_257 := rfl
theorem lk_257 : lnk 257 207 1 13 m_257 := ⟨mte_257, ⟨MT_ok m_257 (List.mem_of_getElem? mte_257), (tg9 78 (by decide +kernel) rfl), rfl, rfl, rfl, rfl, fun _ => ⟨_, by decide, rfl, rfl⟩⟩, rfl, by decide⟩
theorem cs_29 {p : Program} {l : Launch} {e : Env} {R : Room} {s : State} {m : MethodId} {args : Array Value} {below : List Frame} {meth : Method} {c : Code} {Qm : State → Prop} {G : dG} {b L : Nat} {xs : Nat → Int32} {u : Nat × Nat} {σ : dS} {i : Int} {x5 x6 : Option dX} (E : lgE p l R s m args c G b L xs) (h0 : 0 ≤ i) (h1 : i + 5 < L) (hI : INV σ) (hz : σ 1000000 0 = 198) (hu1 : u.1 + 2 ≤ 601024) (hu2 : u.2 + 12 ≤ 7293034) (k : lgK p l e R s m args below meth c Qm G u i) : VW p l e R s m args below meth c Qm G false 7 1815 u (lgL i x5 x6) [] σ :=
  lg_V (yx := 138) (ym := 257) (bx := 204) (bm := 207) E (by decide +kernel) lk_138 lk_257 (by decide) (by decide) rfl hz hu1 hu2 (fun Q K h => p_forget (d := 60) hI h) k
set_option maxRecDepth 100000 in
theorem mte_139 : MT[139]? = some m_139 := rfl
theorem lk_139 : lnk 139 208 1 12 m_139 := ⟨mte_139, ⟨MT_ok m_139 (List.mem_of_getElem? mte_139), (tg3 159 (by decide +kernel) rfl), rfl, rfl, rfl, rfl, fun _ => ⟨_, by decide, rfl, rfl⟩⟩, rfl, by decide⟩
set_option maxRecDepth 100000 in
theorem mte_259 : MT[259]? = some m_259 := rfl
theorem lk_259 : lnk 259 211 1 13 m_259 := ⟨mte_259, ⟨MT_ok m_259 (List.mem_of_getElem? mte_259), (tg9 82 (by decide +kernel) rfl), rfl, rfl, rfl, rfl, fun _ => ⟨_, by decide, rfl, rfl⟩⟩, rfl, by decide⟩
theorem cs_30 {p : Program} {l : Launch} {e : Env} {R : Room} {s : State} {m : MethodId} {args : Array Value} {below : List Frame} {meth : Method} {c : Code} {Qm : State → Prop} {G : dG} {b L : Nat} {xs : Nat → Int32} {u : Nat × Nat} {σ : dS} {i : Int} {x5 x6 : Option dX} (E : lgE p l R s m args c G b L xs) (h0 : 0 ≤ i) (h1 : i + 5 < L) (hI : INV σ) (hz : σ 1000000 0 = 198) (hu1 : u.1 + 2 ≤ 601024) (hu2 : u.2 + 12 ≤ 7293034) (k : lgK p l e R s m args below meth c Qm G u i) : VW p l e R s m args below meth c Qm G false 7 1826 u (lgL i x5 x6) [] σ :=
  lg_A (qs := []) (yx := 139) (ym := 259) (bx := 208) (bm := 211) (n := 1) E (by decide +kernel) lk_139 lk_259 rfl (by decide) (by decide) rfl h0 h1 hI hz hu1 hu2 (fun Q K h => p_fits (d := 60) hI (fun v σ1 g => h v σ1 g)) k
set_option maxRecDepth 100000 in
theorem mte_140 : MT[140]? = some m_140 := rfl
theorem lk_140 : lnk 140 212 2 12 m_140 := ⟨mte_140, ⟨MT_ok m_140 (List.mem_of_getElem? mte_140), (tg3 183 (by decide +kernel) rfl), rfl, rfl, rfl, rfl, fun _ => ⟨_, by decide, rfl, rfl⟩⟩, rfl, by decide⟩
set_option maxRecDepth 100000 in
theorem mte_260 : MT[260]? = some m_260 := rfl
theorem lk_260 : lnk 260 215 2 13 m_260 := ⟨mte_260, ⟨MT_ok m_260 (List.mem_of_getElem? mte_260), (tg9 90 (by decide +kernel) rfl), rfl, rfl, rfl, rfl, fun _ => ⟨_, by decide, rfl, rfl⟩⟩, rfl, by decide⟩
theorem cs_31 {p : Program} {l : Launch} {e : Env} {R : Room} {s : State} {m : MethodId} {args : Array Value} {below : List Frame} {meth : Method} {c : Code} {Qm : State → Prop} {G : dG} {b L : Nat} {xs : Nat → Int32} {u : Nat × Nat} {σ : dS} {i : Int} {x5 x6 : Option dX} (E : lgE p l R s m args c G b L xs) (h0 : 0 ≤ i) (h1 : i + 5 < L) (hI : INV σ) (hz : σ 1000000 0 = 198) (hu1 : u.1 + 2 ≤ 601024) (hu2 : u.2 + 12 ≤ 7293034) (k : lgK p l e R s m args below meth c Qm G u i) : VW p l e R s m args below meth c Qm G false 7 1839 u (lgL i x5 x6) [] σ :=
  lg_A (qs := [(1, false)]) (yx := 140) (ym := 260) (bx := 212) (bm := 215) (n := 2) E (by decide +kernel) lk_140 lk_260 rfl (by decide) (by decide) rfl h0 h1 hI hz hu1 hu2 (fun Q K h => p_watch (d := 60) hI (aVl_le xs i (1, false)) (fun v σ1 g => h v σ1 g)) k
set_option maxRecDepth 100000 in
theorem mte_145 : MT[145]? = some m_145 := rfl
theorem lkw_145 : lnk 145 80 2 12 m_145 := ⟨mte_145, ⟨MT_ok m_145 (List.mem_of_getElem? mte_145), (tg6 125 (by decide +kernel) rfl), rfl, rfl, rfl, rfl, fun _ => ⟨_, by decide, rfl, rfl⟩⟩, rfl, by decide⟩
set_option maxRecDepth 100000 in
theorem mte_263 : MT[263]? = some m_263 := rfl
theorem lk_263 : lnk 263 218 2 13 m_263 := ⟨mte_263, ⟨MT_ok m_263 (List.mem_of_getElem? mte_263), (tg9 97 (by decide +kernel) rfl), rfl, rfl, rfl, rfl, fun _ => ⟨_, by decide, rfl, rfl⟩⟩, rfl, by decide⟩
def wr_bats : lgR := (⟨"WingTramsLaw", "bats", "(LWingTrams;I[J)I"⟩, method_24_code, 4, [(0, 9, 12, 18)])
theorem wrk_bats : okWr wr_bats 216 3 := ⟨⟨(tg6 124 (by decide +kernel) rfl), (tg6 122 (by decide +kernel) rfl), (tg6 123 (by decide +kernel) rfl), (tg1 0 (by decide +kernel) rfl)⟩, ⟨by decide, by decide⟩, by decide +kernel, Nat.le_of_ble_eq_true rfl⟩
theorem cs_32 {p : Program} {l : Launch} {e : Env} {R : Room} {s : State} {m : MethodId} {args : Array Value} {below : List Frame} {meth : Method} {c : Code} {Qm : State → Prop} {G : dG} {b L : Nat} {xs : Nat → Int32} {u : Nat × Nat} {σ : dS} {i : Int} {x5 x6 : Option dX} (E : lgE p l R s m args c G b L xs) (h0 : 0 ≤ i) (h1 : i + 5 < L) (hI : INV σ) (hz : σ 1000000 0 = 198) (hu1 : u.1 + 2 ≤ 601024) (hu2 : u.2 + 12 ≤ 7293034) (k : lgK p l e R s m args below meth c Qm G u i) : VW p l e R s m args below meth c Qm G false 7 1864 u (lgL i x5 x6) [] σ :=
  lg_B (qs := [(1, false)]) (yx := 145) (ym := 263) (bw := 216) (bm := 218) (n := 2) (mc := m_145.2.2.2.2.2.2.1.1) (ms := m_145.2.2.2.2.2.2.1.2) (nz := false) (cd := cdK 18) (w := wr_bats) E (by decide +kernel) wrk_bats lk_263 lk_157 rfl rfl rfl (by decide) (by decide) h0 h1 hz hu1 hu2 (fun Q h => lg_w1 (d := 80) (hc := 18) E.2.1.2.1 (by decide) (Or.inl rfl) ⟨lkw_145.1, lkw_145.2.1, lkw_145.2.2.1, rfl⟩ rfl (by decide +kernel) (aVl_R xs i _) h) (fun Q K h hh => p_bats (d := 60) hI h (fun σ1 g => hh 0 1 σ1 rfl g)) cdK_18 k
set_option maxRecDepth 100000 in
theorem mte_149 : MT[149]? = some m_149 := rfl
theorem lkw_149 : lnk 149 83 4 12 m_149 := ⟨mte_149, ⟨MT_ok m_149 (List.mem_of_getElem? mte_149), (tg6 149 (by decide +kernel) rfl), rfl, rfl, rfl, rfl, fun _ => ⟨_, by decide, rfl, rfl⟩⟩, rfl, by decide⟩
set_option maxRecDepth 100000 in
theorem mte_264 : MT[264]? = some m_264 := rfl
theorem lk_264 : lnk 264 221 4 13 m_264 := ⟨mte_264, ⟨MT_ok m_264 (List.mem_of_getElem? mte_264), (tg9 109 (by decide +kernel) rfl), rfl, rfl, rfl, rfl, fun _ => ⟨_, by decide, rfl, rfl⟩⟩, rfl, by decide⟩
def wr_years : lgR := (⟨"WingTramsLaw", "years", "(LWingTrams;III[J)I"⟩, method_25_code, 6, [(0, 12, 15, 18), (0, 12, 19, 13)])
theorem wrk_years : okWr wr_years 219 5 := ⟨⟨(tg6 148 (by decide +kernel) rfl), (tg6 146 (by decide +kernel) rfl), (tg6 147 (by decide +kernel) rfl), (tg1 0 (by decide +kernel) rfl)⟩, ⟨by decide, by decide⟩, by decide +kernel, Nat.le_of_ble_eq_true rfl⟩
theorem cks_years : ck3 method_25_code 83 11 23 = true := by decide +kernel
theorem cs_33 {p : Program} {l : Launch} {e : Env} {R : Room} {s : State} {m : MethodId} {args : Array Value} {below : List Frame} {meth : Method} {c : Code} {Qm : State → Prop} {G : dG} {b L : Nat} {xs : Nat → Int32} {u : Nat × Nat} {σ : dS} {i : Int} {x5 x6 : Option dX} (E : lgE p l R s m args c G b L xs) (h0 : 0 ≤ i) (h1 : i + 5 < L) (hI : INV σ) (hz : σ 1000000 0 = 198) (hu1 : u.1 + 2 ≤ 601024) (hu2 : u.2 + 12 ≤ 7293034) (k : lgK p l e R s m args below meth c Qm G u i) : VW p l e R s m args below meth c Qm G false 7 1920 u (lgL i x5 x6) [] σ :=
  lg_B (qs := [(1, false), (2, false), (3, false)]) (yx := 149) (ym := 264) (bw := 219) (bm := 221) (n := 4) (mc := m_149.2.2.2.2.2.2.1.1) (ms := m_149.2.2.2.2.2.2.1.2) (nz := false) (cd := cdC) (w := wr_years) E (by decide +kernel) wrk_years lk_264 lk_157 rfl rfl rfl (by decide) (by decide) h0 h1 hz hu1 hu2 (fun Q h => lg_w3 (d := 80) (cd := cdC) (g := 11) (t := 23) E.2.1.2.1 (by decide) (cat_3b (g := 11) (t := 23) cks_years (by decide +kernel)) ⟨lkw_149.1, lkw_149.2.1, lkw_149.2.2.1, rfl⟩ rfl cks_years (by decide) (aVl_R xs i _) (aVl_R xs i _) (aVl_R xs i _) h) (fun Q K h hh => p_years (d := 60) hI h (fun σ1 g => hh 0 1 σ1 rfl g) (fun σ1 g => hh 1 2 σ1 rfl g)) cdC_0 k
set_option maxRecDepth 100000 in
theorem mte_125 : MT[125]? = some m_125 := rfl
theorem lkw_125 : lnk 125 86 3 12 m_125 := ⟨mte_125, ⟨MT_ok m_125 (List.mem_of_getElem? mte_125), (tg6 159 (by decide +kernel) rfl), rfl, rfl, rfl, rfl, fun _ => ⟨_, by decide, rfl, rfl⟩⟩, rfl, by decide⟩
set_option maxRecDepth 100000 in
theorem mte_250 : MT[250]? = some m_250 := rfl
theorem lk_250 : lnk 250 224 3 13 m_250 := ⟨mte_250, ⟨MT_ok m_250 (List.mem_of_getElem? mte_250), (tg9 50 (by decide +kernel) rfl), rfl, rfl, rfl, rfl, fun _ => ⟨_, by decide, rfl, rfl⟩⟩, rfl, by decide⟩
def wr_reach : lgR := (⟨"WingTramsLaw", "reach", "(LWingTrams;II[J)I"⟩, method_26_code, 5, [(0, 10, 13, 18)])
theorem wrk_reach : okWr wr_reach 222 4 := ⟨⟨(tg6 158 (by decide +kernel) rfl), (tg6 156 (by decide +kernel) rfl), (tg6 157 (by decide +kernel) rfl), (tg1 0 (by decide +kernel) rfl)⟩, ⟨by decide, by decide⟩, by decide +kernel, Nat.le_of_ble_eq_true rfl⟩
theorem cs_34 {p : Program} {l : Launch} {e : Env} {R : Room} {s : State} {m : MethodId} {args : Array Value} {below : List Frame} {meth : Method} {c : Code} {Qm : State → Prop} {G : dG} {b L : Nat} {xs : Nat → Int32} {u : Nat × Nat} {σ : dS} {i : Int} {x5 x6 : Option dX} (E : lgE p l R s m args c G b L xs) (h0 : 0 ≤ i) (h1 : i + 5 < L) (hI : INV σ) (hz : σ 1000000 0 = 198) (hu1 : u.1 + 2 ≤ 601024) (hu2 : u.2 + 12 ≤ 7293034) (k : lgK p l e R s m args below meth c Qm G u i) : VW p l e R s m args below meth c Qm G false 7 2000 u (lgL i x5 x6) [] σ :=
  lg_B (qs := [(1, false), (2, false)]) (yx := 125) (ym := 250) (bw := 222) (bm := 224) (n := 3) (mc := m_125.2.2.2.2.2.2.1.1) (ms := m_125.2.2.2.2.2.2.1.2) (nz := false) (cd := cdK 18) (w := wr_reach) E (by decide +kernel) wrk_reach lk_250 lk_157 rfl rfl rfl (by decide) (by decide) h0 h1 hz hu1 hu2 (fun Q h => lg_w2 (d := 80) (hc := 18) E.2.1.2.1 (by decide) (Or.inl rfl) ⟨lkw_125.1, lkw_125.2.1, lkw_125.2.2.1, rfl⟩ rfl (by decide +kernel) (aVl_R xs i _) (aVl_R xs i _) h) (fun Q K h hh => p_reach (d := 60) hI h (fun σ1 g => hh 0 1 σ1 rfl g)) cdK_18 k
set_option maxRecDepth 100000 in
theorem mte_150 : MT[150]? = some m_150 := rfl
theorem lkw_150 : lnk 150 89 2 12 m_150 := ⟨mte_150, ⟨MT_ok m_150 (List.mem_of_getElem? mte_150), (tg6 170 (by decide +kernel) rfl), rfl, rfl, rfl, rfl, fun _ => ⟨_, by decide, rfl, rfl⟩⟩, rfl, by decide⟩
set_option maxRecDepth 100000 in
theorem mte_251 : MT[251]? = some m_251 := rfl
theorem lk_251 : lnk 251 227 2 13 m_251 := ⟨mte_251, ⟨MT_ok m_251 (List.mem_of_getElem? mte_251), (tg9 54 (by decide +kernel) rfl), rfl, rfl, rfl, rfl, fun _ => ⟨_, by decide, rfl, rfl⟩⟩, rfl, by decide⟩
def wr_late : lgR := (⟨"WingTramsLaw", "late", "(LWingTrams;I[J)I"⟩, method_27_code, 4, [(0, 9, 12, 18)])
theorem wrk_late : okWr wr_late 225 3 := ⟨⟨(tg6 169 (by decide +kernel) rfl), (tg6 167 (by decide +kernel) rfl), (tg6 168 (by decide +kernel) rfl), (tg1 0 (by decide +kernel) rfl)⟩, ⟨by decide, by decide⟩, by decide +kernel, Nat.le_of_ble_eq_true rfl⟩
theorem cs_35 {p : Program} {l : Launch} {e : Env} {R : Room} {s : State} {m : MethodId} {args : Array Value} {below : List Frame} {meth : Method} {c : Code} {Qm : State → Prop} {G : dG} {b L : Nat} {xs : Nat → Int32} {u : Nat × Nat} {σ : dS} {i : Int} {x5 x6 : Option dX} (E : lgE p l R s m args c G b L xs) (h0 : 0 ≤ i) (h1 : i + 5 < L) (hI : INV σ) (hz : σ 1000000 0 = 198) (hu1 : u.1 + 2 ≤ 601024) (hu2 : u.2 + 12 ≤ 7293034) (k : lgK p l e R s m args below meth c Qm G u i) : VW p l e R s m args below meth c Qm G false 7 2068 u (lgL i x5 x6) [] σ :=
  lg_B (qs := [(1, false)]) (yx := 150) (ym := 251) (bw := 225) (bm := 227) (n := 2) (mc := m_150.2.2.2.2.2.2.1.1) (ms := m_150.2.2.2.2.2.2.1.2) (nz := false) (cd := cdK 18) (w := wr_late) E (by decide +kernel) wrk_late lk_251 lk_157 rfl rfl rfl (by decide) (by decide) h0 h1 hz hu1 hu2 (fun Q h => lg_w1 (d := 80) (hc := 18) E.2.1.2.1 (by decide) (Or.inl rfl) ⟨lkw_150.1, lkw_150.2.1, lkw_150.2.2.1, rfl⟩ rfl (by decide +kernel) (aVl_R xs i _) h) (fun Q K h hh => p_late (d := 60) hI h (fun σ1 g => hh 0 1 σ1 rfl g)) cdK_18 k
set_option maxRecDepth 100000 in
theorem mte_151 : MT[151]? = some m_151 := rfl
theorem lk_151 : lnk 151 228 1 12 m_151 := ⟨mte_151, ⟨MT_ok m_151 (List.mem_of_getElem? mte_151), (tg3 202 (by decide +kernel) rfl), rfl, rfl, rfl, rfl, fun _ => ⟨_, by decide, rfl, rfl⟩⟩, rfl, by decide⟩
set_option maxRecDepth 100000 in
theorem mte_253 : MT[253]? = some m_253 := rfl
theorem lk_253 : lnk 253 231 1 13 m_253 := ⟨mte_253, ⟨MT_ok m_253 (List.mem_of_getElem? mte_253), (tg9 58 (by decide +kernel) rfl), rfl, rfl, rfl, rfl, fun _ => ⟨_, by decide, rfl, rfl⟩⟩, rfl, by decide⟩
theorem cs_36 {p : Program} {l : Launch} {e : Env} {R : Room} {s : State} {m : MethodId} {args : Array Value} {below : List Frame} {meth : Method} {c : Code} {Qm : State → Prop} {G : dG} {b L : Nat} {xs : Nat → Int32} {u : Nat × Nat} {σ : dS} {i : Int} {x5 x6 : Option dX} (E : lgE p l R s m args c G b L xs) (h0 : 0 ≤ i) (h1 : i + 5 < L) (hI : INV σ) (hz : σ 1000000 0 = 198) (hu1 : u.1 + 2 ≤ 601024) (hu2 : u.2 + 12 ≤ 7293034) (k : lgK p l e R s m args below meth c Qm G u i) : VW p l e R s m args below meth c Qm G false 7 2124 u (lgL i x5 x6) [] σ :=
  lg_A (qs := []) (yx := 151) (ym := 253) (bx := 228) (bm := 231) (n := 1) E (by decide +kernel) lk_151 lk_253 rfl (by decide) (by decide) rfl h0 h1 hI hz hu1 hu2 (fun Q K h => p_best (d := 60) hI (fun v σ1 g => h v σ1 g)) k
set_option maxRecDepth 100000 in
theorem mte_152 : MT[152]? = some m_152 := rfl
theorem lk_152 : lnk 152 232 1 12 m_152 := ⟨mte_152, ⟨MT_ok m_152 (List.mem_of_getElem? mte_152), (tg3 206 (by decide +kernel) rfl), rfl, rfl, rfl, rfl, fun _ => ⟨_, by decide, rfl, rfl⟩⟩, rfl, by decide⟩
set_option maxRecDepth 100000 in
theorem mte_254 : MT[254]? = some m_254 := rfl
theorem lk_254 : lnk 254 235 1 13 m_254 := ⟨mte_254, ⟨MT_ok m_254 (List.mem_of_getElem? mte_254), (tg9 66 (by decide +kernel) rfl), rfl, rfl, rfl, rfl, fun _ => ⟨_, by decide, rfl, rfl⟩⟩, rfl, by decide⟩
theorem cs_37 {p : Program} {l : Launch} {e : Env} {R : Room} {s : State} {m : MethodId} {args : Array Value} {below : List Frame} {meth : Method} {c : Code} {Qm : State → Prop} {G : dG} {b L : Nat} {xs : Nat → Int32} {u : Nat × Nat} {σ : dS} {i : Int} {x5 x6 : Option dX} (E : lgE p l R s m args c G b L xs) (h0 : 0 ≤ i) (h1 : i + 5 < L) (hI : INV σ) (hz : σ 1000000 0 = 198) (hu1 : u.1 + 2 ≤ 601024) (hu2 : u.2 + 12 ≤ 7293034) (k : lgK p l e R s m args below meth c Qm G u i) : VW p l e R s m args below meth c Qm G false 7 2137 u (lgL i x5 x6) [] σ :=
  lg_A (qs := []) (yx := 152) (ym := 254) (bx := 232) (bm := 235) (n := 1) E (by decide +kernel) lk_152 lk_254 rfl (by decide) (by decide) rfl h0 h1 hI hz hu1 hu2 (fun Q K h => p_bright (d := 60) hI (fun v σ1 g => h v σ1 g)) k
set_option maxRecDepth 100000 in
theorem mte_153 : MT[153]? = some m_153 := rfl
theorem lk_153 : lnk 153 236 1 12 m_153 := ⟨mte_153, ⟨MT_ok m_153 (List.mem_of_getElem? mte_153), (tg3 210 (by decide +kernel) rfl), rfl, rfl, rfl, rfl, fun _ => ⟨_, by decide, rfl, rfl⟩⟩, rfl, by decide⟩
set_option maxRecDepth 100000 in
theorem mte_255 : MT[255]? = some m_255 := rfl
theorem lk_255 : lnk 255 239 1 13 m_255 := ⟨mte_255, ⟨MT_ok m_255 (List.mem_of_getElem? mte_255), (tg9 70 (by decide +kernel) rfl), rfl, rfl, rfl, rfl, fun _ => ⟨_, by decide, rfl, rfl⟩⟩, rfl, by decide⟩
theorem cs_38 {p : Program} {l : Launch} {e : Env} {R : Room} {s : State} {m : MethodId} {args : Array Value} {below : List Frame} {meth : Method} {c : Code} {Qm : State → Prop} {G : dG} {b L : Nat} {xs : Nat → Int32} {u : Nat × Nat} {σ : dS} {i : Int} {x5 x6 : Option dX} (E : lgE p l R s m args c G b L xs) (h0 : 0 ≤ i) (h1 : i + 5 < L) (hI : INV σ) (hz : σ 1000000 0 = 198) (hu1 : u.1 + 2 ≤ 601024) (hu2 : u.2 + 12 ≤ 7293034) (k : lgK p l e R s m args below meth c Qm G u i) : VW p l e R s m args below meth c Qm G false 7 2150 u (lgL i x5 x6) [] σ :=
  lg_A (qs := []) (yx := 153) (ym := 255) (bx := 236) (bm := 239) (n := 1) E (by decide +kernel) lk_153 lk_255 rfl (by decide) (by decide) rfl h0 h1 hI hz hu1 hu2 (fun Q K h => p_hunter (d := 60) hI (fun v σ1 g => h v σ1 g)) k
set_option maxRecDepth 100000 in
theorem mte_154 : MT[154]? = some m_154 := rfl
theorem lk_154 : lnk 154 240 1 12 m_154 := ⟨mte_154, ⟨MT_ok m_154 (List.mem_of_getElem? mte_154), (tg3 214 (by decide +kernel) rfl), rfl, rfl, rfl, rfl, fun _ => ⟨_, by decide, rfl, rfl⟩⟩, rfl, by decide⟩
set_option maxRecDepth 100000 in
theorem mte_265 : MT[265]? = some m_265 := rfl
theorem lk_265 : lnk 265 243 1 13 m_265 := ⟨mte_265, ⟨MT_ok m_265 (List.mem_of_getElem? mte_265), (tg9 114 (by decide +kernel) rfl), rfl, rfl, rfl, rfl, fun _ => ⟨_, by decide, rfl, rfl⟩⟩, rfl, by decide⟩
theorem cs_39 {p : Program} {l : Launch} {e : Env} {R : Room} {s : State} {m : MethodId} {args : Array Value} {below : List Frame} {meth : Method} {c : Code} {Qm : State → Prop} {G : dG} {b L : Nat} {xs : Nat → Int32} {u : Nat × Nat} {σ : dS} {i : Int} {x5 x6 : Option dX} (E : lgE p l R s m args c G b L xs) (h0 : 0 ≤ i) (h1 : i + 5 < L) (hI : INV σ) (hz : σ 1000000 0 = 198) (hu1 : u.1 + 2 ≤ 601024) (hu2 : u.2 + 12 ≤ 7293034) (k : lgK p l e R s m args below meth c Qm G u i) : VW p l e R s m args below meth c Qm G false 7 2163 u (lgL i x5 x6) [] σ :=
  lg_V (yx := 154) (ym := 265) (bx := 240) (bm := 243) E (by decide +kernel) lk_154 lk_265 (by decide) (by decide) rfl hz hu1 hu2 (fun Q K h => p_image (d := 60) hI h) k
set_option maxRecDepth 100000 in
theorem mte_155 : MT[155]? = some m_155 := rfl
theorem lk_155 : lnk 155 244 1 12 m_155 := ⟨mte_155, ⟨MT_ok m_155 (List.mem_of_getElem? mte_155), (tg3 228 (by decide +kernel) rfl), rfl, rfl, rfl, rfl, fun _ => ⟨_, by decide, rfl, rfl⟩⟩, rfl, by decide⟩
set_option maxRecDepth 100000 in
theorem mte_266 : MT[266]? = some m_266 := rfl
theorem lk_266 : lnk 266 248 1 13 m_266 := ⟨mte_266, ⟨MT_ok m_266 (List.mem_of_getElem? mte_266), (tg9 118 (by decide +kernel) rfl), rfl, rfl, rfl, rfl, fun _ => ⟨_, by decide, rfl, rfl⟩⟩, rfl, by decide⟩
theorem cs_40 {p : Program} {l : Launch} {e : Env} {R : Room} {s : State} {m : MethodId} {args : Array Value} {below : List Frame} {meth : Method} {c : Code} {Qm : State → Prop} {G : dG} {b L : Nat} {xs : Nat → Int32} {u : Nat × Nat} {σ : dS} {i : Int} {x5 x6 : Option dX} (E : lgE p l R s m args c G b L xs) (h0 : 0 ≤ i) (h1 : i + 5 < L) (hI : INV σ) (hz : σ 1000000 0 = 198) (hu1 : u.1 + 2 ≤ 601024) (hu2 : u.2 + 12 ≤ 7293034) (k : lgK p l e R s m args below meth c Qm G u i) : VW p l e R s m args below meth c Qm G false 7 2174 u (lgL i x5 x6) [] σ :=
  lg_A (qs := []) (yx := 155) (ym := 266) (bx := 244) (bm := 248) (n := 1) E (by decide +kernel) lk_155 lk_266 rfl (by decide) (by decide) rfl h0 h1 hI hz hu1 hu2 (fun Q K h => p_restore (d := 60) hI (fun v σ1 g => h v σ1 (PRU_of g))) k
