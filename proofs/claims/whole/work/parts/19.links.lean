/-! THE TABLES FIT, by program (wip/whole/gen/g19.py): links of the items, each method checked -/
def okJ (own : String) (fr : Bool) (q : dI) : Prop := match q.1 with
  | 3 => Cond.constant own q.2.2.1 (Int32.ofInt q.2.1) ∈ TBg
  | 4 => Cond.constant own q.2.2.1 (Int32.ofInt q.2.1) ∈ TBg
  | 39 => Cond.constantLong own q.2.2.1 (Int64.ofInt q.2.1) ∈ TBg
  | 56 => okF own q.2.2.1 (n0 q.2.2.2 0) (n0 q.2.2.2 1)
  | 57 => okP own q.2.2.1 (n0 q.2.2.2 0) (n0 q.2.2.2 1) (n0 q.2.2.2 2) false
  | 79 => okP own q.2.2.1 (n0 q.2.2.2 0) (n0 q.2.2.2 1) (n0 q.2.2.2 2) true
  | 65 => ∃ m : dM, MT[n0 q.2.2.2 0]? = some m ∧ okK own q.2.2.1 q.2.2.2 0 m ∧ m.2.2.2.2.2.2.2 = fr ∧ n0 q.2.2.2 2 ≠ 999
  | 66 => ∃ m : dM, MT[n0 q.2.2.2 0]? = some m ∧ okK own q.2.2.1 q.2.2.2 1 m ∧ m.2.2.2.2.2.2.2 = fr
  | 67 => ∃ m : dM, MT[n0 q.2.2.2 0]? = some m ∧ okK own q.2.2.1 q.2.2.2 2 m ∧ m.2.2.2.2.2.2.2 = fr
  | 68 => Cond.methodLink own q.2.2.1 Lib.objectInit ∈ TBg ∧ Cond.instanceMethod Lib.objectInit ∈ TBg ∧ Cond.code Lib.objectInit ⟨#[0xb1]⟩ 1 none ∈ TBg
  | 69 => okN own q.2.2.1 (n0 q.2.2.2 0) (n0 q.2.2.2 1)
  | 70 => Cond.arrayClass (newarray.typeOf (aTy (n0 q.2.2.2 0))) ∈ TBg
  | 76 => fr = false ∧ own = "WingTrams" ∧ ∃ tx : String, (own, n0 q.2.2.2 2, tx) ∈ STs ∧ (n0 q.2.2.2 0 = 0 ∧ n0 q.2.2.2 1 = 203 ∧ n0 q.2.2.2 3 = 207 ∨ n0 q.2.2.2 0 = 1 ∧ n0 q.2.2.2 1 = 112 ∧ n0 q.2.2.2 3 = 116)
  | 84 => own = "WingTrams$Tokens" ∧ q.2.2.2 = [1, 69, 71]
  | 85 => own = "WingTrams$Tokens" ∧ q.2.2.2 = [1, 69, 75]
  | 86 => own = "WingTrams$Tokens" ∧ q.2.2.2 = [0, 58, 60]
  | _ => True
def lkOK (LK : List dI) (ret : Option FieldType) (init fr : Bool) (op : Nat) (a : Int) (b : Nat) (tl : List Nat) : Bool := match op with
  | 3 => LK.contains (3, a, b, tl)
  | 4 => LK.contains (4, a, b, tl)
  | 39 => LK.contains (39, a, b, tl)
  | 56 => LK.contains (56, a, b, tl)
  | 57 => LK.contains (57, a, b, tl)
  | 65 => LK.contains (65, a, b, tl)
  | 66 => LK.contains (66, a, b, tl)
  | 67 => LK.contains (67, a, b, tl)
  | 68 => LK.contains (68, a, b, tl)
  | 69 => LK.contains (69, a, b, tl)
  | 70 => LK.contains (70, a, b, tl)
  | 76 => LK.contains (76, a, b, tl)
  | 84 => LK.contains (84, a, b, tl)
  | 85 => LK.contains (85, a, b, tl)
  | 86 => LK.contains (86, a, b, tl)
  | 79 => init && LK.contains (79, a, b, tl)
  | 62 => !fr
  | 63 => !fr
  | 71 => decide (n0 tl 0 = 0) && decide (ret = some .int) || decide (n0 tl 0 = 1) && decide (ret = some .boolean)
  | 72 => decide (ret = some .long)
  | 73 => decide (ret = none)
  | _ => true
theorem lk_sound {own : String} {ret : Option FieldType} {init fr : Bool} {LK : List dI} (h : ∀ q ∈ LK, okJ own fr q) {op : Nat} {a : Int} {b : Nat} {tl : List Nat} (hc : lkOK LK ret init fr op a b tl = true) : okI own ret init fr op a b tl := by
  unfold lkOK at hc
  split at hc
  · exact h _ (List.contains_iff_mem.mp hc)
  · exact h _ (List.contains_iff_mem.mp hc)
  · exact h _ (List.contains_iff_mem.mp hc)
  · exact h _ (List.contains_iff_mem.mp hc)
  · exact h _ (List.contains_iff_mem.mp hc)
  · exact h _ (List.contains_iff_mem.mp hc)
  · exact h _ (List.contains_iff_mem.mp hc)
  · exact h _ (List.contains_iff_mem.mp hc)
  · exact h _ (List.contains_iff_mem.mp hc)
  · exact h _ (List.contains_iff_mem.mp hc)
  · exact h _ (List.contains_iff_mem.mp hc)
  · exact h _ (List.contains_iff_mem.mp hc)
  · exact h _ (List.contains_iff_mem.mp hc)
  · exact h _ (List.contains_iff_mem.mp hc)
  · exact h _ (List.contains_iff_mem.mp hc)
  · rw [Bool.and_eq_true] at hc
    exact ⟨hc.1, h _ (List.contains_iff_mem.mp hc.2)⟩
  · have h9 : fr = false := by simpa using hc
    exact h9
  · have h9 : fr = false := by simpa using hc
    exact h9
  · simp only [Bool.or_eq_true, Bool.and_eq_true, decide_eq_true_eq] at hc
    exact hc
  · have h9 : ret = some .long := of_decide_eq_true hc
    exact h9
  · have h9 : ret = none := of_decide_eq_true hc
    exact h9
  · unfold okI
    split <;> first | trivial | (exfalso; simp_all)
def okYc (LK : List dI) (y : Nat) (q : dM) : Bool := decide (inf y = (q.2.2.1, q.2.2.2.2.2.2.2, q.2.2.2.2.2.2.1)) && (plainFor q.1 && (decide ((pcL.getD y [])[0]? = some 0) && (List.range (pcL.getD y []).length).all (fun lb => chk q.2.1 (pcL.getD y []) ((pcL.getD y []).getD lb 0) (blk y lb) && (blk y lb).all (fun it => lkOK LK q.2.2.2.1 (q.1.name == "<init>") q.2.2.2.2.2.2.2 it.1 it.2.1 it.2.2.1 it.2.2.2))))
theorem okYc_sound {LK : List dI} {y : Nat} {q : dM} (h : ∀ it ∈ LK, okJ q.1.cls q.2.2.2.2.2.2.2 it) (hc : okYc LK y q = true) : okY blk inf y q := by
  unfold okYc at hc
  rw [Bool.and_eq_true, Bool.and_eq_true, Bool.and_eq_true, decide_eq_true_eq, decide_eq_true_eq] at hc
  obtain ⟨h1, h2, h3, h4⟩ := hc
  refine ⟨h1, h2, pcL.getD y [], h3, fun lb t ht => ?_⟩
  have hl := (List.getElem?_eq_some_iff.mp ht).1
  have h5 := List.all_eq_true.mp h4 lb (List.mem_range.mpr hl)
  rw [Bool.and_eq_true] at h5
  have e : (pcL.getD y []).getD lb 0 = t := by rw [List.getD_eq_getElem?_getD, ht]; rfl
  rw [e] at h5
  exact ⟨h5.1, fun it hit => lk_sound h (List.all_eq_true.mp h5.2 it hit)⟩
set_option maxRecDepth 100000 in
theorem mtg_0 : MT[0]? = some m_0 := rfl
set_option maxRecDepth 100000 in
theorem mtg_1 : MT[1]? = some m_1 := rfl
set_option maxRecDepth 100000 in
theorem mtg_2 : MT[2]? = some m_2 := rfl
set_option maxRecDepth 100000 in
theorem mtg_3 : MT[3]? = some m_3 := rfl
set_option maxRecDepth 100000 in
theorem mtg_4 : MT[4]? = some m_4 := rfl
set_option maxRecDepth 100000 in
theorem mtg_5 : MT[5]? = some m_5 := rfl
set_option maxRecDepth 100000 in
theorem mtg_6 : MT[6]? = some m_6 := rfl
set_option maxRecDepth 100000 in
theorem mtg_7 : MT[7]? = some m_7 := rfl
set_option maxRecDepth 100000 in
theorem mtg_8 : MT[8]? = some m_8 := rfl
set_option maxRecDepth 100000 in
theorem mtg_9 : MT[9]? = some m_9 := rfl
set_option maxRecDepth 100000 in
theorem mtg_10 : MT[10]? = some m_10 := rfl
set_option maxRecDepth 100000 in
theorem mtg_11 : MT[11]? = some m_11 := rfl
set_option maxRecDepth 100000 in
theorem mtg_12 : MT[12]? = some m_12 := rfl
set_option maxRecDepth 100000 in
theorem mtg_13 : MT[13]? = some m_13 := rfl
set_option maxRecDepth 100000 in
theorem mtg_14 : MT[14]? = some m_14 := rfl
set_option maxRecDepth 100000 in
theorem mtg_15 : MT[15]? = some m_15 := rfl
set_option maxRecDepth 100000 in
theorem mtg_16 : MT[16]? = some m_16 := rfl
set_option maxRecDepth 100000 in
theorem mtg_17 : MT[17]? = some m_17 := rfl
set_option maxRecDepth 100000 in
theorem mtg_18 : MT[18]? = some m_18 := rfl
set_option maxRecDepth 100000 in
theorem mtg_19 : MT[19]? = some m_19 := rfl
set_option maxRecDepth 100000 in
theorem mtg_20 : MT[20]? = some m_20 := rfl
set_option maxRecDepth 100000 in
theorem mtg_21 : MT[21]? = some m_21 := rfl
set_option maxRecDepth 100000 in
theorem mtg_22 : MT[22]? = some m_22 := rfl
set_option maxRecDepth 100000 in
theorem mtg_23 : MT[23]? = some m_23 := rfl
set_option maxRecDepth 100000 in
theorem mtg_24 : MT[24]? = some m_24 := rfl
set_option maxRecDepth 100000 in
theorem mtg_25 : MT[25]? = some m_25 := rfl
set_option maxRecDepth 100000 in
theorem mtg_26 : MT[26]? = some m_26 := rfl
set_option maxRecDepth 100000 in
theorem mtg_27 : MT[27]? = some m_27 := rfl
set_option maxRecDepth 100000 in
theorem mtg_28 : MT[28]? = some m_28 := rfl
set_option maxRecDepth 100000 in
theorem mtg_29 : MT[29]? = some m_29 := rfl
set_option maxRecDepth 100000 in
theorem mtg_30 : MT[30]? = some m_30 := rfl
set_option maxRecDepth 100000 in
theorem mtg_31 : MT[31]? = some m_31 := rfl
set_option maxRecDepth 100000 in
theorem mtg_32 : MT[32]? = some m_32 := rfl
set_option maxRecDepth 100000 in
theorem mtg_33 : MT[33]? = some m_33 := rfl
set_option maxRecDepth 100000 in
theorem mtg_34 : MT[34]? = some m_34 := rfl
set_option maxRecDepth 100000 in
theorem mtg_35 : MT[35]? = some m_35 := rfl
set_option maxRecDepth 100000 in
theorem mtg_36 : MT[36]? = some m_36 := rfl
set_option maxRecDepth 100000 in
theorem mtg_37 : MT[37]? = some m_37 := rfl
set_option maxRecDepth 100000 in
theorem mtg_38 : MT[38]? = some m_38 := rfl
set_option maxRecDepth 100000 in
theorem mtg_39 : MT[39]? = some m_39 := rfl
set_option maxRecDepth 100000 in
theorem mtg_40 : MT[40]? = some m_40 := rfl
set_option maxRecDepth 100000 in
theorem mtg_41 : MT[41]? = some m_41 := rfl
set_option maxRecDepth 100000 in
theorem mtg_42 : MT[42]? = some m_42 := rfl
set_option maxRecDepth 100000 in
theorem mtg_43 : MT[43]? = some m_43 := rfl
set_option maxRecDepth 100000 in
theorem mtg_44 : MT[44]? = some m_44 := rfl
set_option maxRecDepth 100000 in
theorem mtg_45 : MT[45]? = some m_45 := rfl
set_option maxRecDepth 100000 in
theorem mtg_46 : MT[46]? = some m_46 := rfl
set_option maxRecDepth 100000 in
theorem mtg_47 : MT[47]? = some m_47 := rfl
set_option maxRecDepth 100000 in
theorem mtg_48 : MT[48]? = some m_48 := rfl
set_option maxRecDepth 100000 in
theorem mtg_49 : MT[49]? = some m_49 := rfl
set_option maxRecDepth 100000 in
theorem mtg_50 : MT[50]? = some m_50 := rfl
set_option maxRecDepth 100000 in
theorem mtg_51 : MT[51]? = some m_51 := rfl
set_option maxRecDepth 100000 in
theorem mtg_52 : MT[52]? = some m_52 := rfl
set_option maxRecDepth 100000 in
theorem mtg_53 : MT[53]? = some m_53 := rfl
set_option maxRecDepth 100000 in
theorem mtg_54 : MT[54]? = some m_54 := rfl
set_option maxRecDepth 100000 in
theorem mtg_55 : MT[55]? = some m_55 := rfl
set_option maxRecDepth 100000 in
theorem mtg_56 : MT[56]? = some m_56 := rfl
set_option maxRecDepth 100000 in
theorem mtg_57 : MT[57]? = some m_57 := rfl
set_option maxRecDepth 100000 in
theorem mtg_58 : MT[58]? = some m_58 := rfl
set_option maxRecDepth 100000 in
theorem mtg_59 : MT[59]? = some m_59 := rfl
set_option maxRecDepth 100000 in
theorem mtg_60 : MT[60]? = some m_60 := rfl
set_option maxRecDepth 100000 in
theorem mtg_61 : MT[61]? = some m_61 := rfl
set_option maxRecDepth 100000 in
theorem mtg_62 : MT[62]? = some m_62 := rfl
set_option maxRecDepth 100000 in
theorem mtg_63 : MT[63]? = some m_63 := rfl
set_option maxRecDepth 100000 in
theorem mtg_64 : MT[64]? = some m_64 := rfl
set_option maxRecDepth 100000 in
theorem mtg_65 : MT[65]? = some m_65 := rfl
set_option maxRecDepth 100000 in
theorem mtg_66 : MT[66]? = some m_66 := rfl
set_option maxRecDepth 100000 in
theorem mtg_67 : MT[67]? = some m_67 := rfl
set_option maxRecDepth 100000 in
theorem mtg_68 : MT[68]? = some m_68 := rfl
set_option maxRecDepth 100000 in
theorem mtg_69 : MT[69]? = some m_69 := rfl
set_option maxRecDepth 100000 in
theorem mtg_70 : MT[70]? = some m_70 := rfl
set_option maxRecDepth 100000 in
theorem mtg_71 : MT[71]? = some m_71 := rfl
set_option maxRecDepth 100000 in
theorem mtg_72 : MT[72]? = some m_72 := rfl
set_option maxRecDepth 100000 in
theorem mtg_73 : MT[73]? = some m_73 := rfl
set_option maxRecDepth 100000 in
theorem mtg_74 : MT[74]? = some m_74 := rfl
set_option maxRecDepth 100000 in
theorem mtg_75 : MT[75]? = some m_75 := rfl
set_option maxRecDepth 100000 in
theorem mtg_76 : MT[76]? = some m_76 := rfl
set_option maxRecDepth 100000 in
theorem mtg_77 : MT[77]? = some m_77 := rfl
set_option maxRecDepth 100000 in
theorem mtg_78 : MT[78]? = some m_78 := rfl
set_option maxRecDepth 100000 in
theorem mtg_79 : MT[79]? = some m_79 := rfl
set_option maxRecDepth 100000 in
theorem mtg_80 : MT[80]? = some m_80 := rfl
set_option maxRecDepth 100000 in
theorem mtg_81 : MT[81]? = some m_81 := rfl
set_option maxRecDepth 100000 in
theorem mtg_82 : MT[82]? = some m_82 := rfl
set_option maxRecDepth 100000 in
theorem mtg_83 : MT[83]? = some m_83 := rfl
set_option maxRecDepth 100000 in
theorem mtg_84 : MT[84]? = some m_84 := rfl
set_option maxRecDepth 100000 in
theorem mtg_85 : MT[85]? = some m_85 := rfl
set_option maxRecDepth 100000 in
theorem mtg_86 : MT[86]? = some m_86 := rfl
set_option maxRecDepth 100000 in
theorem mtg_87 : MT[87]? = some m_87 := rfl
set_option maxRecDepth 100000 in
theorem mtg_88 : MT[88]? = some m_88 := rfl
set_option maxRecDepth 100000 in
theorem mtg_89 : MT[89]? = some m_89 := rfl
set_option maxRecDepth 100000 in
theorem mtg_90 : MT[90]? = some m_90 := rfl
set_option maxRecDepth 100000 in
theorem mtg_91 : MT[91]? = some m_91 := rfl
set_option maxRecDepth 100000 in
theorem mtg_92 : MT[92]? = some m_92 := rfl
set_option maxRecDepth 100000 in
theorem mtg_93 : MT[93]? = some m_93 := rfl
set_option maxRecDepth 100000 in
theorem mtg_94 : MT[94]? = some m_94 := rfl
set_option maxRecDepth 100000 in
theorem mtg_95 : MT[95]? = some m_95 := rfl
set_option maxRecDepth 100000 in
theorem mtg_96 : MT[96]? = some m_96 := rfl
set_option maxRecDepth 100000 in
theorem mtg_97 : MT[97]? = some m_97 := rfl
set_option maxRecDepth 100000 in
theorem mtg_98 : MT[98]? = some m_98 := rfl
set_option maxRecDepth 100000 in
theorem mtg_99 : MT[99]? = some m_99 := rfl
set_option maxRecDepth 100000 in
theorem mtg_100 : MT[100]? = some m_100 := rfl
set_option maxRecDepth 100000 in
theorem mtg_101 : MT[101]? = some m_101 := rfl
set_option maxRecDepth 100000 in
theorem mtg_102 : MT[102]? = some m_102 := rfl
set_option maxRecDepth 100000 in
theorem mtg_103 : MT[103]? = some m_103 := rfl
set_option maxRecDepth 100000 in
theorem mtg_104 : MT[104]? = some m_104 := rfl
set_option maxRecDepth 100000 in
theorem mtg_105 : MT[105]? = some m_105 := rfl
set_option maxRecDepth 100000 in
theorem mtg_106 : MT[106]? = some m_106 := rfl
set_option maxRecDepth 100000 in
theorem mtg_107 : MT[107]? = some m_107 := rfl
set_option maxRecDepth 100000 in
theorem mtg_108 : MT[108]? = some m_108 := rfl
set_option maxRecDepth 100000 in
theorem mtg_109 : MT[109]? = some m_109 := rfl
set_option maxRecDepth 100000 in
theorem mtg_110 : MT[110]? = some m_110 := rfl
set_option maxRecDepth 100000 in
theorem mtg_111 : MT[111]? = some m_111 := rfl
set_option maxRecDepth 100000 in
theorem mtg_112 : MT[112]? = some m_112 := rfl
set_option maxRecDepth 100000 in
theorem mtg_113 : MT[113]? = some m_113 := rfl
set_option maxRecDepth 100000 in
theorem mtg_114 : MT[114]? = some m_114 := rfl
set_option maxRecDepth 100000 in
theorem mtg_115 : MT[115]? = some m_115 := rfl
set_option maxRecDepth 100000 in
theorem mtg_116 : MT[116]? = some m_116 := rfl
set_option maxRecDepth 100000 in
theorem mtg_117 : MT[117]? = some m_117 := rfl
set_option maxRecDepth 100000 in
theorem mtg_118 : MT[118]? = some m_118 := rfl
set_option maxRecDepth 100000 in
theorem mtg_119 : MT[119]? = some m_119 := rfl
set_option maxRecDepth 100000 in
theorem mtg_120 : MT[120]? = some m_120 := rfl
set_option maxRecDepth 100000 in
theorem mtg_121 : MT[121]? = some m_121 := rfl
set_option maxRecDepth 100000 in
theorem mtg_122 : MT[122]? = some m_122 := rfl
set_option maxRecDepth 100000 in
theorem mtg_123 : MT[123]? = some m_123 := rfl
set_option maxRecDepth 100000 in
theorem mtg_124 : MT[124]? = some m_124 := rfl
set_option maxRecDepth 100000 in
theorem mtg_125 : MT[125]? = some m_125 := rfl
set_option maxRecDepth 100000 in
theorem mtg_126 : MT[126]? = some m_126 := rfl
set_option maxRecDepth 100000 in
theorem mtg_127 : MT[127]? = some m_127 := rfl
set_option maxRecDepth 100000 in
theorem mtg_128 : MT[128]? = some m_128 := rfl
set_option maxRecDepth 100000 in
theorem mtg_129 : MT[129]? = some m_129 := rfl
set_option maxRecDepth 100000 in
theorem mtg_130 : MT[130]? = some m_130 := rfl
set_option maxRecDepth 100000 in
theorem mtg_131 : MT[131]? = some m_131 := rfl
set_option maxRecDepth 100000 in
theorem mtg_132 : MT[132]? = some m_132 := rfl
set_option maxRecDepth 100000 in
theorem mtg_133 : MT[133]? = some m_133 := rfl
set_option maxRecDepth 100000 in
theorem mtg_134 : MT[134]? = some m_134 := rfl
set_option maxRecDepth 100000 in
theorem mtg_135 : MT[135]? = some m_135 := rfl
set_option maxRecDepth 100000 in
theorem mtg_136 : MT[136]? = some m_136 := rfl
set_option maxRecDepth 100000 in
theorem mtg_137 : MT[137]? = some m_137 := rfl
set_option maxRecDepth 100000 in
theorem mtg_138 : MT[138]? = some m_138 := rfl
set_option maxRecDepth 100000 in
theorem mtg_139 : MT[139]? = some m_139 := rfl
set_option maxRecDepth 100000 in
theorem mtg_140 : MT[140]? = some m_140 := rfl
set_option maxRecDepth 100000 in
theorem mtg_141 : MT[141]? = some m_141 := rfl
set_option maxRecDepth 100000 in
theorem mtg_142 : MT[142]? = some m_142 := rfl
set_option maxRecDepth 100000 in
theorem mtg_143 : MT[143]? = some m_143 := rfl
set_option maxRecDepth 100000 in
theorem mtg_144 : MT[144]? = some m_144 := rfl
set_option maxRecDepth 100000 in
theorem mtg_145 : MT[145]? = some m_145 := rfl
set_option maxRecDepth 100000 in
theorem mtg_146 : MT[146]? = some m_146 := rfl
set_option maxRecDepth 100000 in
theorem mtg_147 : MT[147]? = some m_147 := rfl
set_option maxRecDepth 100000 in
theorem mtg_148 : MT[148]? = some m_148 := rfl
set_option maxRecDepth 100000 in
theorem mtg_149 : MT[149]? = some m_149 := rfl
set_option maxRecDepth 100000 in
theorem mtg_150 : MT[150]? = some m_150 := rfl
set_option maxRecDepth 100000 in
theorem mtg_151 : MT[151]? = some m_151 := rfl
set_option maxRecDepth 100000 in
theorem mtg_152 : MT[152]? = some m_152 := rfl
set_option maxRecDepth 100000 in
theorem mtg_153 : MT[153]? = some m_153 := rfl
set_option maxRecDepth 100000 in
theorem mtg_154 : MT[154]? = some m_154 := rfl
set_option maxRecDepth 100000 in
theorem mtg_155 : MT[155]? = some m_155 := rfl
set_option maxRecDepth 100000 in
theorem mtg_156 : MT[156]? = some m_156 := rfl
set_option maxRecDepth 100000 in
theorem mtg_157 : MT[157]? = some m_157 := rfl
set_option maxRecDepth 100000 in
theorem mtg_158 : MT[158]? = some m_158 := rfl
set_option maxRecDepth 100000 in
theorem mtg_159 : MT[159]? = some m_159 := rfl
set_option maxRecDepth 100000 in
theorem mtg_160 : MT[160]? = some m_160 := rfl
set_option maxRecDepth 100000 in
theorem mtg_161 : MT[161]? = some m_161 := rfl
set_option maxRecDepth 100000 in
theorem mtg_162 : MT[162]? = some m_162 := rfl
set_option maxRecDepth 100000 in
theorem mtg_163 : MT[163]? = some m_163 := rfl
set_option maxRecDepth 100000 in
theorem mtg_164 : MT[164]? = some m_164 := rfl
set_option maxRecDepth 100000 in
theorem mtg_165 : MT[165]? = some m_165 := rfl
set_option maxRecDepth 100000 in
theorem mtg_166 : MT[166]? = some m_166 := rfl
set_option maxRecDepth 100000 in
theorem mtg_167 : MT[167]? = some m_167 := rfl
set_option maxRecDepth 100000 in
theorem mtg_168 : MT[168]? = some m_168 := rfl
set_option maxRecDepth 100000 in
theorem mtg_169 : MT[169]? = some m_169 := rfl
set_option maxRecDepth 100000 in
theorem mtg_170 : MT[170]? = some m_170 := rfl
set_option maxRecDepth 100000 in
theorem mtg_171 : MT[171]? = some m_171 := rfl
set_option maxRecDepth 100000 in
theorem mtg_172 : MT[172]? = some m_172 := rfl
set_option maxRecDepth 100000 in
theorem mtg_173 : MT[173]? = some m_173 := rfl
set_option maxRecDepth 100000 in
theorem mtg_174 : MT[174]? = some m_174 := rfl
set_option maxRecDepth 100000 in
theorem mtg_175 : MT[175]? = some m_175 := rfl
set_option maxRecDepth 100000 in
theorem mtg_176 : MT[176]? = some m_176 := rfl
set_option maxRecDepth 100000 in
theorem mtg_177 : MT[177]? = some m_177 := rfl
set_option maxRecDepth 100000 in
theorem mtg_178 : MT[178]? = some m_178 := rfl
set_option maxRecDepth 100000 in
theorem mtg_179 : MT[179]? = some m_179 := rfl
set_option maxRecDepth 100000 in
theorem mtg_180 : MT[180]? = some m_180 := rfl
set_option maxRecDepth 100000 in
theorem mtg_181 : MT[181]? = some m_181 := rfl
set_option maxRecDepth 100000 in
theorem mtg_182 : MT[182]? = some m_182 := rfl
set_option maxRecDepth 100000 in
theorem mtg_183 : MT[183]? = some m_183 := rfl
set_option maxRecDepth 100000 in
theorem mtg_184 : MT[184]? = some m_184 := rfl
set_option maxRecDepth 100000 in
theorem mtg_185 : MT[185]? = some m_185 := rfl
set_option maxRecDepth 100000 in
theorem mtg_186 : MT[186]? = some m_186 := rfl
set_option maxRecDepth 100000 in
theorem mtg_187 : MT[187]? = some m_187 := rfl
set_option maxRecDepth 100000 in
theorem mtg_188 : MT[188]? = some m_188 := rfl
set_option maxRecDepth 100000 in
theorem mtg_189 : MT[189]? = some m_189 := rfl
set_option maxRecDepth 100000 in
theorem mtg_190 : MT[190]? = some m_190 := rfl
set_option maxRecDepth 100000 in
theorem mtg_191 : MT[191]? = some m_191 := rfl
set_option maxRecDepth 100000 in
theorem mtg_192 : MT[192]? = some m_192 := rfl
set_option maxRecDepth 100000 in
theorem mtg_193 : MT[193]? = some m_193 := rfl
set_option maxRecDepth 100000 in
theorem mtg_194 : MT[194]? = some m_194 := rfl
set_option maxRecDepth 100000 in
theorem mtg_195 : MT[195]? = some m_195 := rfl
set_option maxRecDepth 100000 in
theorem mtg_196 : MT[196]? = some m_196 := rfl
set_option maxRecDepth 100000 in
theorem mtg_197 : MT[197]? = some m_197 := rfl
set_option maxRecDepth 100000 in
theorem mtg_198 : MT[198]? = some m_198 := rfl
set_option maxRecDepth 100000 in
theorem mtg_199 : MT[199]? = some m_199 := rfl
set_option maxRecDepth 100000 in
theorem mtg_200 : MT[200]? = some m_200 := rfl
set_option maxRecDepth 100000 in
theorem mtg_201 : MT[201]? = some m_201 := rfl
set_option maxRecDepth 100000 in
theorem mtg_202 : MT[202]? = some m_202 := rfl
set_option maxRecDepth 100000 in
theorem mtg_203 : MT[203]? = some m_203 := rfl
set_option maxRecDepth 100000 in
theorem mtg_204 : MT[204]? = some m_204 := rfl
set_option maxRecDepth 100000 in
theorem mtg_205 : MT[205]? = some m_205 := rfl
set_option maxRecDepth 100000 in
theorem mtg_206 : MT[206]? = some m_206 := rfl
set_option maxRecDepth 100000 in
theorem mtg_207 : MT[207]? = some m_207 := rfl
set_option maxRecDepth 100000 in
theorem mtg_208 : MT[208]? = some m_208 := rfl
set_option maxRecDepth 100000 in
theorem mtg_209 : MT[209]? = some m_209 := rfl
set_option maxRecDepth 100000 in
theorem mtg_210 : MT[210]? = some m_210 := rfl
set_option maxRecDepth 100000 in
theorem mtg_211 : MT[211]? = some m_211 := rfl
set_option maxRecDepth 100000 in
theorem mtg_212 : MT[212]? = some m_212 := rfl
set_option maxRecDepth 100000 in
theorem mtg_213 : MT[213]? = some m_213 := rfl
set_option maxRecDepth 100000 in
theorem mtg_214 : MT[214]? = some m_214 := rfl
set_option maxRecDepth 100000 in
theorem mtg_215 : MT[215]? = some m_215 := rfl
set_option maxRecDepth 100000 in
theorem mtg_216 : MT[216]? = some m_216 := rfl
set_option maxRecDepth 100000 in
theorem mtg_217 : MT[217]? = some m_217 := rfl
set_option maxRecDepth 100000 in
theorem mtg_218 : MT[218]? = some m_218 := rfl
set_option maxRecDepth 100000 in
theorem mtg_219 : MT[219]? = some m_219 := rfl
set_option maxRecDepth 100000 in
theorem mtg_220 : MT[220]? = some m_220 := rfl
set_option maxRecDepth 100000 in
theorem mtg_221 : MT[221]? = some m_221 := rfl
set_option maxRecDepth 100000 in
theorem mtg_222 : MT[222]? = some m_222 := rfl
set_option maxRecDepth 100000 in
theorem mtg_223 : MT[223]? = some m_223 := rfl
set_option maxRecDepth 100000 in
theorem mtg_224 : MT[224]? = some m_224 := rfl
set_option maxRecDepth 100000 in
theorem mtg_225 : MT[225]? = some m_225 := rfl
set_option maxRecDepth 100000 in
theorem mtg_226 : MT[226]? = some m_226 := rfl
set_option maxRecDepth 100000 in
theorem mtg_227 : MT[227]? = some m_227 := rfl
set_option maxRecDepth 100000 in
theorem mtg_228 : MT[228]? = some m_228 := rfl
set_option maxRecDepth 100000 in
theorem mtg_229 : MT[229]? = some m_229 := rfl
set_option maxRecDepth 100000 in
theorem mtg_230 : MT[230]? = some m_230 := rfl
set_option maxRecDepth 100000 in
theorem mtg_231 : MT[231]? = some m_231 := rfl
set_option maxRecDepth 100000 in
theorem mtg_232 : MT[232]? = some m_232 := rfl
set_option maxRecDepth 100000 in
theorem mtg_233 : MT[233]? = some m_233 := rfl
set_option maxRecDepth 100000 in
theorem mtg_234 : MT[234]? = some m_234 := rfl
set_option maxRecDepth 100000 in
theorem mtg_235 : MT[235]? = some m_235 := rfl
set_option maxRecDepth 100000 in
theorem mtg_236 : MT[236]? = some m_236 := rfl
set_option maxRecDepth 100000 in
theorem mtg_237 : MT[237]? = some m_237 := rfl
set_option maxRecDepth 100000 in
theorem mtg_238 : MT[238]? = some m_238 := rfl
set_option maxRecDepth 100000 in
theorem mtg_239 : MT[239]? = some m_239 := rfl
set_option maxRecDepth 100000 in
theorem mtg_240 : MT[240]? = some m_240 := rfl
set_option maxRecDepth 100000 in
theorem mtg_241 : MT[241]? = some m_241 := rfl
set_option maxRecDepth 100000 in
theorem mtg_242 : MT[242]? = some m_242 := rfl
set_option maxRecDepth 100000 in
theorem mtg_243 : MT[243]? = some m_243 := rfl
set_option maxRecDepth 100000 in
theorem mtg_244 : MT[244]? = some m_244 := rfl
set_option maxRecDepth 100000 in
theorem mtg_245 : MT[245]? = some m_245 := rfl
set_option maxRecDepth 100000 in
theorem mtg_246 : MT[246]? = some m_246 := rfl
set_option maxRecDepth 100000 in
theorem mtg_247 : MT[247]? = some m_247 := rfl
set_option maxRecDepth 100000 in
theorem mtg_248 : MT[248]? = some m_248 := rfl
set_option maxRecDepth 100000 in
theorem mtg_249 : MT[249]? = some m_249 := rfl
set_option maxRecDepth 100000 in
theorem mtg_250 : MT[250]? = some m_250 := rfl
set_option maxRecDepth 100000 in
theorem mtg_251 : MT[251]? = some m_251 := rfl
set_option maxRecDepth 100000 in
theorem mtg_252 : MT[252]? = some m_252 := rfl
set_option maxRecDepth 100000 in
theorem mtg_253 : MT[253]? = some m_253 := rfl
set_option maxRecDepth 100000 in
theorem mtg_254 : MT[254]? = some m_254 := rfl
set_option maxRecDepth 100000 in
theorem mtg_255 : MT[255]? = some m_255 := rfl
set_option maxRecDepth 100000 in
theorem mtg_256 : MT[256]? = some m_256 := rfl
set_option maxRecDepth 100000 in
theorem mtg_257 : MT[257]? = some m_257 := rfl
set_option maxRecDepth 100000 in
theorem mtg_258 : MT[258]? = some m_258 := rfl
set_option maxRecDepth 100000 in
theorem mtg_259 : MT[259]? = some m_259 := rfl
set_option maxRecDepth 100000 in
theorem mtg_260 : MT[260]? = some m_260 := rfl
set_option maxRecDepth 100000 in
theorem mtg_261 : MT[261]? = some m_261 := rfl
set_option maxRecDepth 100000 in
theorem mtg_262 : MT[262]? = some m_262 := rfl
set_option maxRecDepth 100000 in
theorem mtg_263 : MT[263]? = some m_263 := rfl
set_option maxRecDepth 100000 in
theorem mtg_264 : MT[264]? = some m_264 := rfl
set_option maxRecDepth 100000 in
theorem mtg_265 : MT[265]? = some m_265 := rfl
set_option maxRecDepth 100000 in
theorem mtg_266 : MT[266]? = some m_266 := rfl
def LK_0 : List dI := [(56, 0, 102, [11, 1]), (65, 0, 105, [99, 2, 12, 0, 0]), (56, 0, 14, [11, 0]), (65, 0, 108, [6, 3, 7, 0, 0]), (57, 0, 102, [11, 1, 0]), (76, 0, 0, [1, 112, 114, 116, 0]), (56, 0, 38, [11, 6]), (65, 0, 119, [37, 3, 11, 0, 0]), (56, 0, 47, [11, 7]), (65, 0, 123, [46, 1, 5, 0, 0]), (56, 0, 127, [4, 4]), (57, 0, 18, [11, 2, 0]), (65, 0, 130, [112, 2, 12, 0, 0]), (56, 0, 28, [11, 4]), (56, 0, 32, [11, 5]), (65, 0, 134, [26, 2, 2, 0, 0]), (56, 0, 54, [11, 8]), (65, 0, 137, [33, 2, 10, 0, 0]), (57, 0, 140, [11, 10, 1]), (57, 0, 144, [11, 17, 1]), (56, 0, 18, [11, 2]), (56, 0, 147, [1, 0]), (56, 0, 150, [1, 1]), (56, 0, 153, [1, 2]), (56, 0, 156, [1, 3]), (56, 0, 159, [1, 15]), (56, 0, 163, [7, 0]), (56, 0, 168, [9, 0]), (56, 0, 171, [8, 0]), (56, 0, 174, [1, 4]), (56, 0, 177, [8, 1]), (56, 0, 180, [8, 2]), (56, 0, 183, [8, 3]), (65, 0, 186, [126, 2, 12, 0, 0]), (56, 0, 190, [9, 1]), (56, 0, 194, [2, 0]), (56, 0, 197, [9, 2]), (56, 0, 22, [11, 3]), (65, 0, 200, [5, 2, 7, 0, 0]), (76, 0, 0, [0, 203, 205, 207, 0]), (65, 0, 208, [109, 2, 12, 1, 6]), (56, 0, 211, [8, 4]), (56, 0, 73, [11, 12]), (65, 0, 214, [68, 2, 4, 0, 0]), (56, 0, 218, [3, 3]), (65, 0, 221, [30, 2, 2, 0, 0]), (65, 0, 224, [29, 2, 2, 0, 0]), (76, 0, 0, [0, 203, 227, 207, 0]), (65, 0, 229, [28, 3, 2, 0, 0]), (65, 0, 233, [110, 2, 12, 1, 6]), (56, 0, 236, [1, 7]), (56, 0, 239, [8, 5]), (56, 0, 242, [1, 9]), (56, 0, 245, [3, 4]), (65, 0, 248, [23, 2, 9, 0, 0]), (65, 0, 252, [75, 2, 4, 0, 0]), (76, 0, 0, [0, 203, 255, 207, 0]), (76, 0, 0, [0, 203, 257, 207, 1]), (56, 0, 259, [1, 10]), (56, 0, 262, [3, 1]), (56, 0, 265, [3, 2]), (65, 0, 268, [111, 2, 12, 1, 6]), (56, 0, 271, [1, 11]), (56, 0, 274, [1, 12]), (56, 0, 277, [1, 13]), (56, 0, 280, [1, 14]), (76, 0, 0, [0, 203, 283, 207, 1]), (65, 0, 285, [74, 3, 4, 0, 0]), (76, 0, 0, [0, 203, 288, 207, 1]), (76, 0, 0, [0, 203, 290, 207, 1]), (76, 0, 0, [0, 203, 292, 207, 1]), (65, 0, 294, [10, 4, 3, 0, 0]), (57, 0, 171, [8, 0, 0]), (57, 0, 177, [8, 1, 0]), (57, 0, 180, [8, 2, 1]), (57, 0, 183, [8, 3, 0]), (65, 0, 298, [35, 1, 10, 0, 0]), (56, 0, 82, [11, 13]), (65, 0, 301, [79, 2, 6, 0, 0]), (65, 0, 304, [85, 3, 6, 0, 0]), (65, 0, 308, [83, 2, 6, 0, 0]), (65, 0, 311, [82, 3, 6, 0, 0]), (65, 0, 314, [80, 1, 6, 0, 0]), (76, 0, 0, [1, 112, 317, 116, 1]), (66, 0, 319, [3, 2, 0, 0, 0]), (65, 0, 324, [129, 3, 12, 0, 0]), (56, 0, 93, [11, 15]), (56, 0, 96, [11, 16]), (65, 0, 327, [8, 2, 7, 0, 0]), (56, 0, 144, [11, 17]), (76, 0, 0, [0, 203, 330, 207, 1]), (65, 0, 332, [7, 2, 7, 0, 0]), (65, 0, 335, [131, 3, 12, 0, 0]), (65, 0, 339, [130, 1, 12, 0, 0]), (56, 0, 64, [11, 11]), (65, 0, 343, [22, 2, 9, 0, 0]), (65, 0, 345, [81, 3, 6, 0, 0]), (76, 0, 0, [0, 203, 348, 207, 1]), (76, 0, 0, [1, 112, 350, 116, 1]), (56, 0, 89, [11, 14]), (65, 0, 352, [92, 3, 1, 0, 0]), (56, 0, 355, [0, 3]), (56, 0, 358, [0, 4]), (76, 0, 0, [1, 112, 361, 116, 1]), (65, 0, 363, [87, 2, 6, 0, 0]), (65, 0, 366, [136, 2, 12, 0, 0]), (57, 0, 194, [2, 0, 0]), (65, 0, 369, [141, 1, 12, 0, 0]), (4, 2147483647, 372, []), (56, 0, 99, [11, 18]), (65, 0, 373, [142, 2, 12, 0, 0]), (65, 0, 376, [144, 2, 12, 0, 0]), (66, 0, 379, [0, 1, 0, 0, 0]), (66, 0, 384, [1, 1, 0, 0, 0]), (65, 0, 387, [143, 1, 12, 0, 0]), (56, 0, 390, [2, 2]), (56, 0, 393, [2, 3]), (56, 0, 396, [2, 4]), (76, 0, 0, [0, 203, 399, 207, 1]), (65, 0, 401, [146, 3, 12, 0, 0]), (65, 0, 404, [147, 3, 12, 0, 0]), (65, 0, 407, [148, 3, 12, 0, 0]), (65, 0, 410, [31, 2, 2, 0, 0]), (76, 0, 0, [0, 203, 413, 207, 1]), (76, 0, 0, [1, 112, 415, 116, 1]), (4, 1103515245, 417, []), (56, 0, 58, [11, 9]), (65, 0, 418, [34, 2, 10, 0, 0]), (56, 0, 140, [11, 10])]
theorem lk_0_0 : okJ "WingTrams" false (56, 0, 102, [11, 1]) := ⟨(RX11, TX11, 19), tyX11, rfl, rfl, okC11, by decide, tg2 191 (by decide +kernel) rfl⟩
theorem lk_0_1 : okJ "WingTrams" false (65, 0, 105, [99, 2, 12, 0, 0]) := ⟨m_99, mtg_99, ⟨okM_99, tg3 12 (by decide +kernel) rfl, rfl, rfl, rfl, rfl, fun _ => ⟨(RX11, TX11, 19), by decide, rfl, rfl⟩⟩, rfl, by decide⟩
theorem lk_0_2 : okJ "WingTrams" false (56, 0, 14, [11, 0]) := ⟨(RX11, TX11, 19), tyX11, rfl, rfl, okC11, by decide, tg2 190 (by decide +kernel) rfl⟩
theorem lk_0_3 : okJ "WingTrams" false (65, 0, 108, [6, 3, 7, 0, 0]) := ⟨m_6, mtg_6, ⟨okM_6, tg3 16 (by decide +kernel) rfl, rfl, rfl, rfl, rfl, fun _ => ⟨(RX6, TX6, 1), by decide, rfl, rfl⟩⟩, rfl, by decide⟩
theorem lk_0_4 : okJ "WingTrams" false (57, 0, 102, [11, 1, 0]) := ⟨(RX11, TX11, 19), tyX11, rfl, rfl, okC11, by decide, tg2 191 (by decide +kernel) rfl, rfl, fun h => (by cases h), Or.inl ⟨rfl, rfl⟩⟩
theorem lk_0_5 : okJ "WingTrams" false (76, 0, 0, [1, 112, 114, 116, 0]) := ⟨rfl, rfl, "the tape has not so many bytes", by decide +kernel, Or.inr ⟨rfl, rfl, rfl⟩⟩
theorem lk_0_6 : okJ "WingTrams" false (56, 0, 38, [11, 6]) := ⟨(RX11, TX11, 19), tyX11, rfl, rfl, okC11, by decide, tg2 196 (by decide +kernel) rfl⟩
theorem lk_0_7 : okJ "WingTrams" false (65, 0, 119, [37, 3, 11, 0, 0]) := ⟨m_37, mtg_37, ⟨okM_37, tg4 67 (by decide +kernel) rfl, rfl, rfl, rfl, rfl, fun _ => ⟨(RX10, TX10, 4), by decide, rfl, rfl⟩⟩, rfl, by decide⟩
theorem lk_0_8 : okJ "WingTrams" false (56, 0, 47, [11, 7]) := ⟨(RX11, TX11, 19), tyX11, rfl, rfl, okC11, by decide, tg2 197 (by decide +kernel) rfl⟩
theorem lk_0_9 : okJ "WingTrams" false (65, 0, 123, [46, 1, 5, 0, 0]) := ⟨m_46, mtg_46, ⟨okM_46, tg4 200 (by decide +kernel) rfl, rfl, rfl, rfl, rfl, fun _ => ⟨(RX4, TX4, 6), by decide, rfl, rfl⟩⟩, rfl, by decide⟩
theorem lk_0_10 : okJ "WingTrams" false (56, 0, 127, [4, 4]) := ⟨(RX4, TX4, 6), tyX4, rfl, rfl, okC4, by decide, tg1 214 (by decide +kernel) rfl⟩
theorem lk_0_11 : okJ "WingTrams" false (57, 0, 18, [11, 2, 0]) := ⟨(RX11, TX11, 19), tyX11, rfl, rfl, okC11, by decide, tg2 192 (by decide +kernel) rfl, rfl, fun h => (by cases h), Or.inl ⟨rfl, rfl⟩⟩
theorem lk_0_12 : okJ "WingTrams" false (65, 0, 130, [112, 2, 12, 0, 0]) := ⟨m_112, mtg_112, ⟨okM_112, tg3 28 (by decide +kernel) rfl, rfl, rfl, rfl, rfl, fun _ => ⟨(RX11, TX11, 19), by decide, rfl, rfl⟩⟩, rfl, by decide⟩
theorem lk_0_13 : okJ "WingTrams" false (56, 0, 28, [11, 4]) := ⟨(RX11, TX11, 19), tyX11, rfl, rfl, okC11, by decide, tg2 194 (by decide +kernel) rfl⟩
theorem lk_0_14 : okJ "WingTrams" false (56, 0, 32, [11, 5]) := ⟨(RX11, TX11, 19), tyX11, rfl, rfl, okC11, by decide, tg2 195 (by decide +kernel) rfl⟩
theorem lk_0_15 : okJ "WingTrams" false (65, 0, 134, [26, 2, 2, 0, 0]) := ⟨m_26, mtg_26, ⟨okM_26, tg5 69 (by decide +kernel) rfl, rfl, rfl, rfl, rfl, fun _ => ⟨(RX1, TX1, 16), by decide, rfl, rfl⟩⟩, rfl, by decide⟩
theorem lk_0_16 : okJ "WingTrams" false (56, 0, 54, [11, 8]) := ⟨(RX11, TX11, 19), tyX11, rfl, rfl, okC11, by decide, tg2 198 (by decide +kernel) rfl⟩
theorem lk_0_17 : okJ "WingTrams" false (65, 0, 137, [33, 2, 10, 0, 0]) := ⟨m_33, mtg_33, ⟨okM_33, tg5 79 (by decide +kernel) rfl, rfl, rfl, rfl, rfl, fun _ => ⟨(RX9, TX9, 3), by decide, rfl, rfl⟩⟩, rfl, by decide⟩
theorem lk_0_18 : okJ "WingTrams" false (57, 0, 140, [11, 10, 1]) := ⟨(RX11, TX11, 19), tyX11, rfl, rfl, okC11, by decide, tg2 200 (by decide +kernel) rfl, rfl, fun h => (by cases h), Or.inr (Or.inl ⟨rfl, rfl⟩)⟩
theorem lk_0_19 : okJ "WingTrams" false (57, 0, 144, [11, 17, 1]) := ⟨(RX11, TX11, 19), tyX11, rfl, rfl, okC11, by decide, tg2 207 (by decide +kernel) rfl, rfl, fun h => (by cases h), Or.inr (Or.inl ⟨rfl, rfl⟩)⟩
theorem lk_0_20 : okJ "WingTrams" false (56, 0, 18, [11, 2]) := ⟨(RX11, TX11, 19), tyX11, rfl, rfl, okC11, by decide, tg2 192 (by decide +kernel) rfl⟩
theorem lk_0_21 : okJ "WingTrams" false (56, 0, 147, [1, 0]) := ⟨(RX1, TX1, 16), tyX1, rfl, rfl, okC1, by decide, tg1 84 (by decide +kernel) rfl⟩
theorem lk_0_22 : okJ "WingTrams" false (56, 0, 150, [1, 1]) := ⟨(RX1, TX1, 16), tyX1, rfl, rfl, okC1, by decide, tg1 87 (by decide +kernel) rfl⟩
theorem lk_0_23 : okJ "WingTrams" false (56, 0, 153, [1, 2]) := ⟨(RX1, TX1, 16), tyX1, rfl, rfl, okC1, by decide, tg1 91 (by decide +kernel) rfl⟩
theorem lk_0_24 : okJ "WingTrams" false (56, 0, 156, [1, 3]) := ⟨(RX1, TX1, 16), tyX1, rfl, rfl, okC1, by decide, tg1 97 (by decide +kernel) rfl⟩
theorem lk_0_25 : okJ "WingTrams" false (56, 0, 159, [1, 15]) := ⟨(RX1, TX1, 16), tyX1, rfl, rfl, okC1, by decide, tg1 144 (by decide +kernel) rfl⟩
theorem lk_0_26 : okJ "WingTrams" false (56, 0, 163, [7, 0]) := ⟨(RX7, TX7, 5), tyX7, rfl, rfl, okC7, by decide, tg1 63 (by decide +kernel) rfl⟩
theorem lk_0_27 : okJ "WingTrams" false (56, 0, 168, [9, 0]) := ⟨(RX9, TX9, 3), tyX9, rfl, rfl, okC9, by decide, tg2 72 (by decide +kernel) rfl⟩
theorem lk_0_28 : okJ "WingTrams" false (56, 0, 171, [8, 0]) := ⟨(RX8, TX8, 6), tyX8, rfl, rfl, okC8, by decide, tg2 6 (by decide +kernel) rfl⟩
theorem lk_0_29 : okJ "WingTrams" false (56, 0, 174, [1, 4]) := ⟨(RX1, TX1, 16), tyX1, rfl, rfl, okC1, by decide, tg1 101 (by decide +kernel) rfl⟩
theorem lk_0_30 : okJ "WingTrams" false (56, 0, 177, [8, 1]) := ⟨(RX8, TX8, 6), tyX8, rfl, rfl, okC8, by decide, tg2 10 (by decide +kernel) rfl⟩
theorem lk_0_31 : okJ "WingTrams" false (56, 0, 180, [8, 2]) := ⟨(RX8, TX8, 6), tyX8, rfl, rfl, okC8, by decide, tg2 14 (by decide +kernel) rfl⟩
theorem lk_0_32 : okJ "WingTrams" false (56, 0, 183, [8, 3]) := ⟨(RX8, TX8, 6), tyX8, rfl, rfl, okC8, by decide, tg2 17 (by decide +kernel) rfl⟩
theorem lk_0_33 : okJ "WingTrams" false (65, 0, 186, [126, 2, 12, 0, 0]) := ⟨m_126, mtg_126, ⟨okM_126, tg3 146 (by decide +kernel) rfl, rfl, rfl, rfl, rfl, fun _ => ⟨(RX11, TX11, 19), by decide, rfl, rfl⟩⟩, rfl, by decide⟩
theorem lk_0_34 : okJ "WingTrams" false (56, 0, 190, [9, 1]) := ⟨(RX9, TX9, 3), tyX9, rfl, rfl, okC9, by decide, tg2 74 (by decide +kernel) rfl⟩
theorem lk_0_35 : okJ "WingTrams" false (56, 0, 194, [2, 0]) := ⟨(RX2, TX2, 5), tyX2, rfl, rfl, okC2, by decide, tg2 49 (by decide +kernel) rfl⟩
theorem lk_0_36 : okJ "WingTrams" false (56, 0, 197, [9, 2]) := ⟨(RX9, TX9, 3), tyX9, rfl, rfl, okC9, by decide, tg2 76 (by decide +kernel) rfl⟩
theorem lk_0_37 : okJ "WingTrams" false (56, 0, 22, [11, 3]) := ⟨(RX11, TX11, 19), tyX11, rfl, rfl, okC11, by decide, tg2 193 (by decide +kernel) rfl⟩
theorem lk_0_38 : okJ "WingTrams" false (65, 0, 200, [5, 2, 7, 0, 0]) := ⟨m_5, mtg_5, ⟨okM_5, tg3 32 (by decide +kernel) rfl, rfl, rfl, rfl, rfl, fun _ => ⟨(RX6, TX6, 1), by decide, rfl, rfl⟩⟩, rfl, by decide⟩
theorem lk_0_39 : okJ "WingTrams" false (76, 0, 0, [0, 203, 205, 207, 0]) := ⟨rfl, rfl, "no such count", by decide +kernel, Or.inl ⟨rfl, rfl, rfl⟩⟩
theorem lk_0_40 : okJ "WingTrams" false (65, 0, 208, [109, 2, 12, 1, 6]) := ⟨m_109, mtg_109, ⟨okM_109, tg5 118 (by decide +kernel) rfl, rfl, rfl, rfl, rfl, fun _ => ⟨(RX11, TX11, 19), by decide, rfl, rfl⟩⟩, rfl, by decide⟩
theorem lk_0_41 : okJ "WingTrams" false (56, 0, 211, [8, 4]) := ⟨(RX8, TX8, 6), tyX8, rfl, rfl, okC8, by decide, tg2 21 (by decide +kernel) rfl⟩
theorem lk_0_42 : okJ "WingTrams" false (56, 0, 73, [11, 12]) := ⟨(RX11, TX11, 19), tyX11, rfl, rfl, okC11, by decide, tg2 202 (by decide +kernel) rfl⟩
theorem lk_0_43 : okJ "WingTrams" false (65, 0, 214, [68, 2, 4, 0, 0]) := ⟨m_68, mtg_68, ⟨okM_68, tg3 68 (by decide +kernel) rfl, rfl, rfl, rfl, rfl, fun _ => ⟨(RX3, TX3, 11), by decide, rfl, rfl⟩⟩, rfl, by decide⟩
theorem lk_0_44 : okJ "WingTrams" false (56, 0, 218, [3, 3]) := ⟨(RX3, TX3, 11), tyX3, rfl, rfl, okC3, by decide, tg2 102 (by decide +kernel) rfl⟩
theorem lk_0_45 : okJ "WingTrams" false (65, 0, 221, [30, 2, 2, 0, 0]) := ⟨m_30, mtg_30, ⟨okM_30, tg5 123 (by decide +kernel) rfl, rfl, rfl, rfl, rfl, fun _ => ⟨(RX1, TX1, 16), by decide, rfl, rfl⟩⟩, rfl, by decide⟩
theorem lk_0_46 : okJ "WingTrams" false (65, 0, 224, [29, 2, 2, 0, 0]) := ⟨m_29, mtg_29, ⟨okM_29, tg5 127 (by decide +kernel) rfl, rfl, rfl, rfl, rfl, fun _ => ⟨(RX1, TX1, 16), by decide, rfl, rfl⟩⟩, rfl, by decide⟩
theorem lk_0_47 : okJ "WingTrams" false (76, 0, 0, [0, 203, 227, 207, 0]) := ⟨rfl, rfl, "no such thing of a roof", by decide +kernel, Or.inl ⟨rfl, rfl, rfl⟩⟩
theorem lk_0_48 : okJ "WingTrams" false (65, 0, 229, [28, 3, 2, 0, 0]) := ⟨m_28, mtg_28, ⟨okM_28, tg5 140 (by decide +kernel) rfl, rfl, rfl, rfl, rfl, fun _ => ⟨(RX1, TX1, 16), by decide, rfl, rfl⟩⟩, rfl, by decide⟩
theorem lk_0_49 : okJ "WingTrams" false (65, 0, 233, [110, 2, 12, 1, 6]) := ⟨m_110, mtg_110, ⟨okM_110, tg5 148 (by decide +kernel) rfl, rfl, rfl, rfl, rfl, fun _ => ⟨(RX11, TX11, 19), by decide, rfl, rfl⟩⟩, rfl, by decide⟩
theorem lk_0_50 : okJ "WingTrams" false (56, 0, 236, [1, 7]) := ⟨(RX1, TX1, 16), tyX1, rfl, rfl, okC1, by decide, tg1 110 (by decide +kernel) rfl⟩
theorem lk_0_51 : okJ "WingTrams" false (56, 0, 239, [8, 5]) := ⟨(RX8, TX8, 6), tyX8, rfl, rfl, okC8, by decide, tg2 25 (by decide +kernel) rfl⟩
theorem lk_0_52 : okJ "WingTrams" false (56, 0, 242, [1, 9]) := ⟨(RX1, TX1, 16), tyX1, rfl, rfl, okC1, by decide, tg1 118 (by decide +kernel) rfl⟩
theorem lk_0_53 : okJ "WingTrams" false (56, 0, 245, [3, 4]) := ⟨(RX3, TX3, 11), tyX3, rfl, rfl, okC3, by decide, tg2 104 (by decide +kernel) rfl⟩
theorem lk_0_54 : okJ "WingTrams" false (65, 0, 248, [23, 2, 9, 0, 0]) := ⟨m_23, mtg_23, ⟨okM_23, tg5 153 (by decide +kernel) rfl, rfl, rfl, rfl, rfl, fun _ => ⟨(RX8, TX8, 6), by decide, rfl, rfl⟩⟩, rfl, by decide⟩
theorem lk_0_55 : okJ "WingTrams" false (65, 0, 252, [75, 2, 4, 0, 0]) := ⟨m_75, mtg_75, ⟨okM_75, tg5 154 (by decide +kernel) rfl, rfl, rfl, rfl, rfl, fun _ => ⟨(RX3, TX3, 11), by decide, rfl, rfl⟩⟩, rfl, by decide⟩
theorem lk_0_56 : okJ "WingTrams" false (76, 0, 0, [0, 203, 255, 207, 0]) := ⟨rfl, rfl, "no such thing of an owl", by decide +kernel, Or.inl ⟨rfl, rfl, rfl⟩⟩
theorem lk_0_57 : okJ "WingTrams" false (76, 0, 0, [0, 203, 257, 207, 1]) := ⟨rfl, rfl, "no such stop, or thing of a stop", by decide +kernel, Or.inl ⟨rfl, rfl, rfl⟩⟩
theorem lk_0_58 : okJ "WingTrams" false (56, 0, 259, [1, 10]) := ⟨(RX1, TX1, 16), tyX1, rfl, rfl, okC1, by decide, tg1 123 (by decide +kernel) rfl⟩
theorem lk_0_59 : okJ "WingTrams" false (56, 0, 262, [3, 1]) := ⟨(RX3, TX3, 11), tyX3, rfl, rfl, okC3, by decide, tg2 97 (by decide +kernel) rfl⟩
theorem lk_0_60 : okJ "WingTrams" false (56, 0, 265, [3, 2]) := ⟨(RX3, TX3, 11), tyX3, rfl, rfl, okC3, by decide, tg2 100 (by decide +kernel) rfl⟩
theorem lk_0_61 : okJ "WingTrams" false (65, 0, 268, [111, 2, 12, 1, 6]) := ⟨m_111, mtg_111, ⟨okM_111, tg5 179 (by decide +kernel) rfl, rfl, rfl, rfl, rfl, fun _ => ⟨(RX11, TX11, 19), by decide, rfl, rfl⟩⟩, rfl, by decide⟩
theorem lk_0_62 : okJ "WingTrams" false (56, 0, 271, [1, 11]) := ⟨(RX1, TX1, 16), tyX1, rfl, rfl, okC1, by decide, tg1 127 (by decide +kernel) rfl⟩
theorem lk_0_63 : okJ "WingTrams" false (56, 0, 274, [1, 12]) := ⟨(RX1, TX1, 16), tyX1, rfl, rfl, okC1, by decide, tg1 132 (by decide +kernel) rfl⟩
theorem lk_0_64 : okJ "WingTrams" false (56, 0, 277, [1, 13]) := ⟨(RX1, TX1, 16), tyX1, rfl, rfl, okC1, by decide, tg1 136 (by decide +kernel) rfl⟩
theorem lk_0_65 : okJ "WingTrams" false (56, 0, 280, [1, 14]) := ⟨(RX1, TX1, 16), tyX1, rfl, rfl, okC1, by decide, tg1 139 (by decide +kernel) rfl⟩
theorem lk_0_66 : okJ "WingTrams" false (76, 0, 0, [0, 203, 283, 207, 1]) := ⟨rfl, rfl, "no such thing of a rider", by decide +kernel, Or.inl ⟨rfl, rfl, rfl⟩⟩
theorem lk_0_67 : okJ "WingTrams" false (65, 0, 285, [74, 3, 4, 0, 0]) := ⟨m_74, mtg_74, ⟨okM_74, tg3 175 (by decide +kernel) rfl, rfl, rfl, rfl, rfl, fun _ => ⟨(RX3, TX3, 11), by decide, rfl, rfl⟩⟩, rfl, by decide⟩
theorem lk_0_68 : okJ "WingTrams" false (76, 0, 0, [0, 203, 288, 207, 1]) := ⟨rfl, rfl, "no such roof", by decide +kernel, Or.inl ⟨rfl, rfl, rfl⟩⟩
theorem lk_0_69 : okJ "WingTrams" false (76, 0, 0, [0, 203, 290, 207, 1]) := ⟨rfl, rfl, "no such owl", by decide +kernel, Or.inl ⟨rfl, rfl, rfl⟩⟩
theorem lk_0_70 : okJ "WingTrams" false (76, 0, 0, [0, 203, 292, 207, 1]) := ⟨rfl, rfl, "no such rider", by decide +kernel, Or.inl ⟨rfl, rfl, rfl⟩⟩
theorem lk_0_71 : okJ "WingTrams" false (65, 0, 294, [10, 4, 3, 0, 0]) := ⟨m_10, mtg_10, ⟨okM_10, tg3 36 (by decide +kernel) rfl, rfl, rfl, rfl, rfl, fun _ => ⟨(RX2, TX2, 5), by decide, rfl, rfl⟩⟩, rfl, by decide⟩
theorem lk_0_72 : okJ "WingTrams" false (57, 0, 171, [8, 0, 0]) := ⟨(RX8, TX8, 6), tyX8, rfl, rfl, okC8, by decide, tg2 6 (by decide +kernel) rfl, rfl, fun h => (by cases h), Or.inl ⟨rfl, rfl⟩⟩
theorem lk_0_73 : okJ "WingTrams" false (57, 0, 177, [8, 1, 0]) := ⟨(RX8, TX8, 6), tyX8, rfl, rfl, okC8, by decide, tg2 10 (by decide +kernel) rfl, rfl, fun h => (by cases h), Or.inl ⟨rfl, rfl⟩⟩
theorem lk_0_74 : okJ "WingTrams" false (57, 0, 180, [8, 2, 1]) := ⟨(RX8, TX8, 6), tyX8, rfl, rfl, okC8, by decide, tg2 14 (by decide +kernel) rfl, rfl, fun h => (by cases h), Or.inr (Or.inl ⟨rfl, rfl⟩)⟩
theorem lk_0_75 : okJ "WingTrams" false (57, 0, 183, [8, 3, 0]) := ⟨(RX8, TX8, 6), tyX8, rfl, rfl, okC8, by decide, tg2 17 (by decide +kernel) rfl, rfl, fun h => (by cases h), Or.inl ⟨rfl, rfl⟩⟩
theorem lk_0_76 : okJ "WingTrams" false (65, 0, 298, [35, 1, 10, 0, 0]) := ⟨m_35, mtg_35, ⟨okM_35, tg3 58 (by decide +kernel) rfl, rfl, rfl, rfl, rfl, fun _ => ⟨(RX9, TX9, 3), by decide, rfl, rfl⟩⟩, rfl, by decide⟩
theorem lk_0_77 : okJ "WingTrams" false (56, 0, 82, [11, 13]) := ⟨(RX11, TX11, 19), tyX11, rfl, rfl, okC11, by decide, tg2 203 (by decide +kernel) rfl⟩
theorem lk_0_78 : okJ "WingTrams" false (65, 0, 301, [79, 2, 6, 0, 0]) := ⟨m_79, mtg_79, ⟨okM_79, tg3 115 (by decide +kernel) rfl, rfl, rfl, rfl, rfl, fun _ => ⟨(RX5, TX5, 6), by decide, rfl, rfl⟩⟩, rfl, by decide⟩
theorem lk_0_79 : okJ "WingTrams" false (65, 0, 304, [85, 3, 6, 0, 0]) := ⟨m_85, mtg_85, ⟨okM_85, tg5 227 (by decide +kernel) rfl, rfl, rfl, rfl, rfl, fun _ => ⟨(RX5, TX5, 6), by decide, rfl, rfl⟩⟩, rfl, by decide⟩
theorem lk_0_80 : okJ "WingTrams" false (65, 0, 308, [83, 2, 6, 0, 0]) := ⟨m_83, mtg_83, ⟨okM_83, tg6 9 (by decide +kernel) rfl, rfl, rfl, rfl, rfl, fun _ => ⟨(RX5, TX5, 6), by decide, rfl, rfl⟩⟩, rfl, by decide⟩
theorem lk_0_81 : okJ "WingTrams" false (65, 0, 311, [82, 3, 6, 0, 0]) := ⟨m_82, mtg_82, ⟨okM_82, tg6 163 (by decide +kernel) rfl, rfl, rfl, rfl, rfl, fun _ => ⟨(RX5, TX5, 6), by decide, rfl, rfl⟩⟩, rfl, by decide⟩
theorem lk_0_82 : okJ "WingTrams" false (65, 0, 314, [80, 1, 6, 0, 0]) := ⟨m_80, mtg_80, ⟨okM_80, tg3 150 (by decide +kernel) rfl, rfl, rfl, rfl, rfl, fun _ => ⟨(RX5, TX5, 6), by decide, rfl, rfl⟩⟩, rfl, by decide⟩
theorem lk_0_83 : okJ "WingTrams" false (76, 0, 0, [1, 112, 317, 116, 1]) := ⟨rfl, rfl, "riders that there aren't, or a minute below 0", by decide +kernel, Or.inr ⟨rfl, rfl, rfl⟩⟩
theorem lk_0_84 : okJ "WingTrams" false (66, 0, 319, [3, 2, 0, 0, 0]) := ⟨m_3, mtg_3, ⟨okM_3, tg6 25 (by decide +kernel) rfl, rfl, rfl, rfl, rfl, fun h => absurd h (by decide)⟩, rfl⟩
theorem lk_0_85 : okJ "WingTrams" false (65, 0, 324, [129, 3, 12, 0, 0]) := ⟨m_129, mtg_129, ⟨okM_129, tg6 26 (by decide +kernel) rfl, rfl, rfl, rfl, rfl, fun _ => ⟨(RX11, TX11, 19), by decide, rfl, rfl⟩⟩, rfl, by decide⟩
theorem lk_0_86 : okJ "WingTrams" false (56, 0, 93, [11, 15]) := ⟨(RX11, TX11, 19), tyX11, rfl, rfl, okC11, by decide, tg2 205 (by decide +kernel) rfl⟩
theorem lk_0_87 : okJ "WingTrams" false (56, 0, 96, [11, 16]) := ⟨(RX11, TX11, 19), tyX11, rfl, rfl, okC11, by decide, tg2 206 (by decide +kernel) rfl⟩
theorem lk_0_88 : okJ "WingTrams" false (65, 0, 327, [8, 2, 7, 0, 0]) := ⟨m_8, mtg_8, ⟨okM_8, tg6 42 (by decide +kernel) rfl, rfl, rfl, rfl, rfl, fun _ => ⟨(RX6, TX6, 1), by decide, rfl, rfl⟩⟩, rfl, by decide⟩
theorem lk_0_89 : okJ "WingTrams" false (56, 0, 144, [11, 17]) := ⟨(RX11, TX11, 19), tyX11, rfl, rfl, okC11, by decide, tg2 207 (by decide +kernel) rfl⟩
theorem lk_0_90 : okJ "WingTrams" false (76, 0, 0, [0, 203, 330, 207, 1]) := ⟨rfl, rfl, "no row is kept", by decide +kernel, Or.inl ⟨rfl, rfl, rfl⟩⟩
theorem lk_0_91 : okJ "WingTrams" false (65, 0, 332, [7, 2, 7, 0, 0]) := ⟨m_7, mtg_7, ⟨okM_7, tg3 188 (by decide +kernel) rfl, rfl, rfl, rfl, rfl, fun _ => ⟨(RX6, TX6, 1), by decide, rfl, rfl⟩⟩, rfl, by decide⟩
theorem lk_0_92 : okJ "WingTrams" false (65, 0, 335, [131, 3, 12, 0, 0]) := ⟨m_131, mtg_131, ⟨okM_131, tg6 30 (by decide +kernel) rfl, rfl, rfl, rfl, rfl, fun _ => ⟨(RX11, TX11, 19), by decide, rfl, rfl⟩⟩, rfl, by decide⟩
theorem lk_0_93 : okJ "WingTrams" false (65, 0, 339, [130, 1, 12, 0, 0]) := ⟨m_130, mtg_130, ⟨okM_130, tg6 38 (by decide +kernel) rfl, rfl, rfl, rfl, rfl, fun _ => ⟨(RX11, TX11, 19), by decide, rfl, rfl⟩⟩, rfl, by decide⟩
theorem lk_0_94 : okJ "WingTrams" false (56, 0, 64, [11, 11]) := ⟨(RX11, TX11, 19), tyX11, rfl, rfl, okC11, by decide, tg2 201 (by decide +kernel) rfl⟩
theorem lk_0_95 : okJ "WingTrams" false (65, 0, 343, [22, 2, 9, 0, 0]) := ⟨m_22, mtg_22, ⟨okM_22, tg3 138 (by decide +kernel) rfl, rfl, rfl, rfl, rfl, fun _ => ⟨(RX8, TX8, 6), by decide, rfl, rfl⟩⟩, rfl, by decide⟩
theorem lk_0_96 : okJ "WingTrams" false (65, 0, 345, [81, 3, 6, 0, 0]) := ⟨m_81, mtg_81, ⟨okM_81, tg6 34 (by decide +kernel) rfl, rfl, rfl, rfl, rfl, fun _ => ⟨(RX5, TX5, 6), by decide, rfl, rfl⟩⟩, rfl, by decide⟩
theorem lk_0_97 : okJ "WingTrams" false (76, 0, 0, [0, 203, 348, 207, 1]) := ⟨rfl, rfl, "no such thing of beams", by decide +kernel, Or.inl ⟨rfl, rfl, rfl⟩⟩
theorem lk_0_98 : okJ "WingTrams" false (76, 0, 0, [1, 112, 350, 116, 1]) := ⟨rfl, rfl, "not so many beams, or minutes", by decide +kernel, Or.inr ⟨rfl, rfl, rfl⟩⟩
theorem lk_0_99 : okJ "WingTrams" false (56, 0, 89, [11, 14]) := ⟨(RX11, TX11, 19), tyX11, rfl, rfl, okC11, by decide, tg2 204 (by decide +kernel) rfl⟩
theorem lk_0_100 : okJ "WingTrams" false (65, 0, 352, [92, 3, 1, 0, 0]) := ⟨m_92, mtg_92, ⟨okM_92, tg6 60 (by decide +kernel) rfl, rfl, rfl, rfl, rfl, fun _ => ⟨(RX0, TX0, 5), by decide, rfl, rfl⟩⟩, rfl, by decide⟩
theorem lk_0_101 : okJ "WingTrams" false (56, 0, 355, [0, 3]) := ⟨(RX0, TX0, 5), tyX0, rfl, rfl, okC0, by decide, tg2 176 (by decide +kernel) rfl⟩
theorem lk_0_102 : okJ "WingTrams" false (56, 0, 358, [0, 4]) := ⟨(RX0, TX0, 5), tyX0, rfl, rfl, okC0, by decide, tg2 178 (by decide +kernel) rfl⟩
theorem lk_0_103 : okJ "WingTrams" false (76, 0, 0, [1, 112, 361, 116, 1]) := ⟨rfl, rfl, "not 1 to 8 straps", by decide +kernel, Or.inr ⟨rfl, rfl, rfl⟩⟩
theorem lk_0_104 : okJ "WingTrams" false (65, 0, 363, [87, 2, 6, 0, 0]) := ⟨m_87, mtg_87, ⟨okM_87, tg6 92 (by decide +kernel) rfl, rfl, rfl, rfl, rfl, fun _ => ⟨(RX5, TX5, 6), by decide, rfl, rfl⟩⟩, rfl, by decide⟩
theorem lk_0_105 : okJ "WingTrams" false (65, 0, 366, [136, 2, 12, 0, 0]) := ⟨m_136, mtg_136, ⟨okM_136, tg3 134 (by decide +kernel) rfl, rfl, rfl, rfl, rfl, fun _ => ⟨(RX11, TX11, 19), by decide, rfl, rfl⟩⟩, rfl, by decide⟩
theorem lk_0_106 : okJ "WingTrams" false (57, 0, 194, [2, 0, 0]) := ⟨(RX2, TX2, 5), tyX2, rfl, rfl, okC2, by decide, tg2 49 (by decide +kernel) rfl, rfl, fun h => (by cases h), Or.inl ⟨rfl, rfl⟩⟩
theorem lk_0_107 : okJ "WingTrams" false (65, 0, 369, [141, 1, 12, 0, 0]) := ⟨m_141, mtg_141, ⟨okM_141, tg3 163 (by decide +kernel) rfl, rfl, rfl, rfl, rfl, fun _ => ⟨(RX11, TX11, 19), by decide, rfl, rfl⟩⟩, rfl, by decide⟩
theorem lk_0_108 : okJ "WingTrams" false (4, 2147483647, 372, []) := tg3 187 (by decide +kernel) rfl
theorem lk_0_109 : okJ "WingTrams" false (56, 0, 99, [11, 18]) := ⟨(RX11, TX11, 19), tyX11, rfl, rfl, okC11, by decide, tg2 208 (by decide +kernel) rfl⟩
theorem lk_0_110 : okJ "WingTrams" false (65, 0, 373, [142, 2, 12, 0, 0]) := ⟨m_142, mtg_142, ⟨okM_142, tg3 167 (by decide +kernel) rfl, rfl, rfl, rfl, rfl, fun _ => ⟨(RX11, TX11, 19), by decide, rfl, rfl⟩⟩, rfl, by decide⟩
theorem lk_0_111 : okJ "WingTrams" false (65, 0, 376, [144, 2, 12, 0, 0]) := ⟨m_144, mtg_144, ⟨okM_144, tg3 189 (by decide +kernel) rfl, rfl, rfl, rfl, rfl, fun _ => ⟨(RX11, TX11, 19), by decide, rfl, rfl⟩⟩, rfl, by decide⟩
theorem lk_0_112 : okJ "WingTrams" false (66, 0, 379, [0, 1, 0, 0, 0]) := ⟨m_0, mtg_0, ⟨okM_0, tg3 193 (by decide +kernel) rfl, rfl, rfl, rfl, rfl, fun h => absurd h (by decide)⟩, rfl⟩
theorem lk_0_113 : okJ "WingTrams" false (66, 0, 384, [1, 1, 0, 0, 0]) := ⟨m_1, mtg_1, ⟨okM_1, tg3 199 (by decide +kernel) rfl, rfl, rfl, rfl, rfl, fun h => absurd h (by decide)⟩, rfl⟩
theorem lk_0_114 : okJ "WingTrams" false (65, 0, 387, [143, 1, 12, 0, 0]) := ⟨m_143, mtg_143, ⟨okM_143, tg3 171 (by decide +kernel) rfl, rfl, rfl, rfl, rfl, fun _ => ⟨(RX11, TX11, 19), by decide, rfl, rfl⟩⟩, rfl, by decide⟩
theorem lk_0_115 : okJ "WingTrams" false (56, 0, 390, [2, 2]) := ⟨(RX2, TX2, 5), tyX2, rfl, rfl, okC2, by decide, tg2 53 (by decide +kernel) rfl⟩
theorem lk_0_116 : okJ "WingTrams" false (56, 0, 393, [2, 3]) := ⟨(RX2, TX2, 5), tyX2, rfl, rfl, okC2, by decide, tg2 56 (by decide +kernel) rfl⟩
theorem lk_0_117 : okJ "WingTrams" false (56, 0, 396, [2, 4]) := ⟨(RX2, TX2, 5), tyX2, rfl, rfl, okC2, by decide, tg2 59 (by decide +kernel) rfl⟩
theorem lk_0_118 : okJ "WingTrams" false (76, 0, 0, [0, 203, 399, 207, 1]) := ⟨rfl, rfl, "no such thing of bats", by decide +kernel, Or.inl ⟨rfl, rfl, rfl⟩⟩
theorem lk_0_119 : okJ "WingTrams" false (65, 0, 401, [146, 3, 12, 0, 0]) := ⟨m_146, mtg_146, ⟨okM_146, tg6 130 (by decide +kernel) rfl, rfl, rfl, rfl, rfl, fun _ => ⟨(RX11, TX11, 19), by decide, rfl, rfl⟩⟩, rfl, by decide⟩
theorem lk_0_120 : okJ "WingTrams" false (65, 0, 404, [147, 3, 12, 0, 0]) := ⟨m_147, mtg_147, ⟨okM_147, tg6 134 (by decide +kernel) rfl, rfl, rfl, rfl, rfl, fun _ => ⟨(RX11, TX11, 19), by decide, rfl, rfl⟩⟩, rfl, by decide⟩
theorem lk_0_121 : okJ "WingTrams" false (65, 0, 407, [148, 3, 12, 0, 0]) := ⟨m_148, mtg_148, ⟨okM_148, tg6 142 (by decide +kernel) rfl, rfl, rfl, rfl, rfl, fun _ => ⟨(RX11, TX11, 19), by decide, rfl, rfl⟩⟩, rfl, by decide⟩
theorem lk_0_122 : okJ "WingTrams" false (65, 0, 410, [31, 2, 2, 0, 0]) := ⟨m_31, mtg_31, ⟨okM_31, tg6 138 (by decide +kernel) rfl, rfl, rfl, rfl, rfl, fun _ => ⟨(RX1, TX1, 16), by decide, rfl, rfl⟩⟩, rfl, by decide⟩
theorem lk_0_123 : okJ "WingTrams" false (76, 0, 0, [0, 203, 413, 207, 1]) := ⟨rfl, rfl, "no such thing of years", by decide +kernel, Or.inl ⟨rfl, rfl, rfl⟩⟩
theorem lk_0_124 : okJ "WingTrams" false (76, 0, 0, [1, 112, 415, 116, 1]) := ⟨rfl, rfl, "not 0 to 60 nights", by decide +kernel, Or.inr ⟨rfl, rfl, rfl⟩⟩
theorem lk_0_125 : okJ "WingTrams" false (4, 1103515245, 417, []) := tg6 155 (by decide +kernel) rfl
theorem lk_0_126 : okJ "WingTrams" false (56, 0, 58, [11, 9]) := ⟨(RX11, TX11, 19), tyX11, rfl, rfl, okC11, by decide, tg2 199 (by decide +kernel) rfl⟩
theorem lk_0_127 : okJ "WingTrams" false (65, 0, 418, [34, 2, 10, 0, 0]) := ⟨m_34, mtg_34, ⟨okM_34, tg3 218 (by decide +kernel) rfl, rfl, rfl, rfl, rfl, fun _ => ⟨(RX9, TX9, 3), by decide, rfl, rfl⟩⟩, rfl, by decide⟩
theorem lk_0_128 : okJ "WingTrams" false (56, 0, 140, [11, 10]) := ⟨(RX11, TX11, 19), tyX11, rfl, rfl, okC11, by decide, tg2 200 (by decide +kernel) rfl⟩
set_option maxRecDepth 100000 in
theorem LK_0_ok : ∀ q ∈ LK_0, okJ "WingTrams" false q := List.forall_mem_cons.mpr ⟨lk_0_0, List.forall_mem_cons.mpr ⟨lk_0_1, List.forall_mem_cons.mpr ⟨lk_0_2, List.forall_mem_cons.mpr ⟨lk_0_3, List.forall_mem_cons.mpr ⟨lk_0_4, List.forall_mem_cons.mpr ⟨lk_0_5, List.forall_mem_cons.mpr ⟨lk_0_6, List.forall_mem_cons.mpr ⟨lk_0_7, List.forall_mem_cons.mpr ⟨lk_0_8, List.forall_mem_cons.mpr ⟨lk_0_9, List.forall_mem_cons.mpr ⟨lk_0_10, List.forall_mem_cons.mpr ⟨lk_0_11, List.forall_mem_cons.mpr ⟨lk_0_12, List.forall_mem_cons.mpr ⟨lk_0_13, List.forall_mem_cons.mpr ⟨lk_0_14, List.forall_mem_cons.mpr ⟨lk_0_15, List.forall_mem_cons.mpr ⟨lk_0_16, List.forall_mem_cons.mpr ⟨lk_0_17, List.forall_mem_cons.mpr ⟨lk_0_18, List.forall_mem_cons.mpr ⟨lk_0_19, List.forall_mem_cons.mpr ⟨lk_0_20, List.forall_mem_cons.mpr ⟨lk_0_21, List.forall_mem_cons.mpr ⟨lk_0_22, List.forall_mem_cons.mpr ⟨lk_0_23, List.forall_mem_cons.mpr ⟨lk_0_24, List.forall_mem_cons.mpr ⟨lk_0_25, List.forall_mem_cons.mpr ⟨lk_0_26, List.forall_mem_cons.mpr ⟨lk_0_27, List.forall_mem_cons.mpr ⟨lk_0_28, List.forall_mem_cons.mpr ⟨lk_0_29, List.forall_mem_cons.mpr ⟨lk_0_30, List.forall_mem_cons.mpr ⟨lk_0_31, List.forall_mem_cons.mpr ⟨lk_0_32, List.forall_mem_cons.mpr ⟨lk_0_33, List.forall_mem_cons.mpr ⟨lk_0_34, List.forall_mem_cons.mpr ⟨lk_0_35, List.forall_mem_cons.mpr ⟨lk_0_36, List.forall_mem_cons.mpr ⟨lk_0_37, List.forall_mem_cons.mpr ⟨lk_0_38, List.forall_mem_cons.mpr ⟨lk_0_39, List.forall_mem_cons.mpr ⟨lk_0_40, List.forall_mem_cons.mpr ⟨lk_0_41, List.forall_mem_cons.mpr ⟨lk_0_42, List.forall_mem_cons.mpr ⟨lk_0_43, List.forall_mem_cons.mpr ⟨lk_0_44, List.forall_mem_cons.mpr ⟨lk_0_45, List.forall_mem_cons.mpr ⟨lk_0_46, List.forall_mem_cons.mpr ⟨lk_0_47, List.forall_mem_cons.mpr ⟨lk_0_48, List.forall_mem_cons.mpr ⟨lk_0_49, List.forall_mem_cons.mpr ⟨lk_0_50, List.forall_mem_cons.mpr ⟨lk_0_51, List.forall_mem_cons.mpr ⟨lk_0_52, List.forall_mem_cons.mpr ⟨lk_0_53, List.forall_mem_cons.mpr ⟨lk_0_54, List.forall_mem_cons.mpr ⟨lk_0_55, List.forall_mem_cons.mpr ⟨lk_0_56, List.forall_mem_cons.mpr ⟨lk_0_57, List.forall_mem_cons.mpr ⟨lk_0_58, List.forall_mem_cons.mpr ⟨lk_0_59, List.forall_mem_cons.mpr ⟨lk_0_60, List.forall_mem_cons.mpr ⟨lk_0_61, List.forall_mem_cons.mpr ⟨lk_0_62, List.forall_mem_cons.mpr ⟨lk_0_63, List.forall_mem_cons.mpr ⟨lk_0_64, List.forall_mem_cons.mpr ⟨lk_0_65, List.forall_mem_cons.mpr ⟨lk_0_66, List.forall_mem_cons.mpr ⟨lk_0_67, List.forall_mem_cons.mpr ⟨lk_0_68, List.forall_mem_cons.mpr ⟨lk_0_69, List.forall_mem_cons.mpr ⟨lk_0_70, List.forall_mem_cons.mpr ⟨lk_0_71, List.forall_mem_cons.mpr ⟨lk_0_72, List.forall_mem_cons.mpr ⟨lk_0_73, List.forall_mem_cons.mpr ⟨lk_0_74, List.forall_mem_cons.mpr ⟨lk_0_75, List.forall_mem_cons.mpr ⟨lk_0_76, List.forall_mem_cons.mpr ⟨lk_0_77, List.forall_mem_cons.mpr ⟨lk_0_78, List.forall_mem_cons.mpr ⟨lk_0_79, List.forall_mem_cons.mpr ⟨lk_0_80, List.forall_mem_cons.mpr ⟨lk_0_81, List.forall_mem_cons.mpr ⟨lk_0_82, List.forall_mem_cons.mpr ⟨lk_0_83, List.forall_mem_cons.mpr ⟨lk_0_84, List.forall_mem_cons.mpr ⟨lk_0_85, List.forall_mem_cons.mpr ⟨lk_0_86, List.forall_mem_cons.mpr ⟨lk_0_87, List.forall_mem_cons.mpr ⟨lk_0_88, List.forall_mem_cons.mpr ⟨lk_0_89, List.forall_mem_cons.mpr ⟨lk_0_90, List.forall_mem_cons.mpr ⟨lk_0_91, List.forall_mem_cons.mpr ⟨lk_0_92, List.forall_mem_cons.mpr ⟨lk_0_93, List.forall_mem_cons.mpr ⟨lk_0_94, List.forall_mem_cons.mpr ⟨lk_0_95, List.forall_mem_cons.mpr ⟨lk_0_96, List.forall_mem_cons.mpr ⟨lk_0_97, List.forall_mem_cons.mpr ⟨lk_0_98, List.forall_mem_cons.mpr ⟨lk_0_99, List.forall_mem_cons.mpr ⟨lk_0_100, List.forall_mem_cons.mpr ⟨lk_0_101, List.forall_mem_cons.mpr ⟨lk_0_102, List.forall_mem_cons.mpr ⟨lk_0_103, List.forall_mem_cons.mpr ⟨lk_0_104, List.forall_mem_cons.mpr ⟨lk_0_105, List.forall_mem_cons.mpr ⟨lk_0_106, List.forall_mem_cons.mpr ⟨lk_0_107, List.forall_mem_cons.mpr ⟨lk_0_108, List.forall_mem_cons.mpr ⟨lk_0_109, List.forall_mem_cons.mpr ⟨lk_0_110, List.forall_mem_cons.mpr ⟨lk_0_111, List.forall_mem_cons.mpr ⟨lk_0_112, List.forall_mem_cons.mpr ⟨lk_0_113, List.forall_mem_cons.mpr ⟨lk_0_114, List.forall_mem_cons.mpr ⟨lk_0_115, List.forall_mem_cons.mpr ⟨lk_0_116, List.forall_mem_cons.mpr ⟨lk_0_117, List.forall_mem_cons.mpr ⟨lk_0_118, List.forall_mem_cons.mpr ⟨lk_0_119, List.forall_mem_cons.mpr ⟨lk_0_120, List.forall_mem_cons.mpr ⟨lk_0_121, List.forall_mem_cons.mpr ⟨lk_0_122, List.forall_mem_cons.mpr ⟨lk_0_123, List.forall_mem_cons.mpr ⟨lk_0_124, List.forall_mem_cons.mpr ⟨lk_0_125, List.forall_mem_cons.mpr ⟨lk_0_126, List.forall_mem_cons.mpr ⟨lk_0_127, List.forall_mem_cons.mpr ⟨lk_0_128, fun _ h => absurd h List.not_mem_nil⟩⟩⟩⟩⟩⟩⟩⟩⟩⟩⟩⟩⟩⟩⟩⟩⟩⟩⟩⟩⟩⟩⟩⟩⟩⟩⟩⟩⟩⟩⟩⟩⟩⟩⟩⟩⟩⟩⟩⟩⟩⟩⟩⟩⟩⟩⟩⟩⟩⟩⟩⟩⟩⟩⟩⟩⟩⟩⟩⟩⟩⟩⟩⟩⟩⟩⟩⟩⟩⟩⟩⟩⟩⟩⟩⟩⟩⟩⟩⟩⟩⟩⟩⟩⟩⟩⟩⟩⟩⟩⟩⟩⟩⟩⟩⟩⟩⟩⟩⟩⟩⟩⟩⟩⟩⟩⟩⟩⟩⟩⟩⟩⟩⟩⟩⟩⟩⟩⟩⟩⟩⟩⟩⟩⟩⟩⟩⟩⟩
def LK_1 : List dI := [(68, 0, 1, []), (69, 0, 7, [6, 1]), (67, 0, 11, [4, 2, 0, 1, 1000]), (79, 0, 14, [11, 0, 3]), (57, 0, 18, [11, 2, 0]), (79, 0, 22, [11, 3, 3]), (69, 0, 25, [1, 16]), (67, 0, 27, [24, 1, 0, 27, 27000]), (79, 0, 28, [11, 4, 3]), (79, 0, 32, [11, 5, 3]), (69, 0, 35, [10, 4]), (67, 0, 37, [36, 1, 0, 6, 6000]), (79, 0, 38, [11, 6, 3]), (69, 0, 42, [4, 6]), (56, 0, 38, [11, 6]), (56, 0, 32, [11, 5]), (67, 0, 44, [45, 3, 0, 0, 0]), (79, 0, 47, [11, 7, 3]), (69, 0, 51, [9, 3]), (67, 0, 53, [32, 1, 0, 19, 19000]), (79, 0, 54, [11, 8, 3]), (79, 0, 58, [11, 9, 3]), (69, 0, 61, [8, 6]), (67, 0, 63, [20, 1, 0, 4, 4000]), (79, 0, 64, [11, 11, 3]), (69, 0, 68, [3, 11]), (56, 0, 28, [11, 4]), (67, 0, 70, [67, 2, 0, 18, 18000]), (79, 0, 73, [11, 12, 3]), (69, 0, 77, [5, 6]), (56, 0, 73, [11, 12]), (67, 0, 79, [77, 3, 0, 8, 8000]), (79, 0, 82, [11, 13, 3]), (69, 0, 86, [0, 5]), (67, 0, 88, [91, 2, 0, 4, 4000]), (79, 0, 89, [11, 14, 3]), (79, 0, 93, [11, 15, 3]), (79, 0, 96, [11, 16, 3]), (79, 0, 99, [11, 18, 3])]
theorem lk_1_0 : okJ "WingTrams" true (68, 0, 1, []) := ⟨tg1 31 (by decide +kernel) rfl, tg1 32 (by decide +kernel) rfl, tg1 33 (by decide +kernel) rfl⟩
theorem lk_1_1 : okJ "WingTrams" true (69, 0, 7, [6, 1]) := ⟨(RX6, TX6, 1), tyX6, rfl, rfl, okC6, rfl, tg1 34 (by decide +kernel) rfl⟩
theorem lk_1_2 : okJ "WingTrams" true (67, 0, 11, [4, 2, 0, 1, 1000]) := ⟨m_4, mtg_4, ⟨okM_4, tg1 36 (by decide +kernel) rfl, rfl, rfl, rfl, rfl, fun h => absurd h (by decide)⟩, rfl⟩
theorem lk_1_3 : okJ "WingTrams" true (79, 0, 14, [11, 0, 3]) := ⟨(RX11, TX11, 19), tyX11, rfl, rfl, okC11, by decide, tg2 190 (by decide +kernel) rfl, rfl, fun h => rfl, Or.inr (Or.inr (Or.inr ⟨rfl, fun _ => ⟨rfl, rfl⟩⟩))⟩
theorem lk_1_4 : okJ "WingTrams" true (57, 0, 18, [11, 2, 0]) := ⟨(RX11, TX11, 19), tyX11, rfl, rfl, okC11, by decide, tg2 192 (by decide +kernel) rfl, rfl, fun h => (by cases h), Or.inl ⟨rfl, rfl⟩⟩
theorem lk_1_5 : okJ "WingTrams" true (79, 0, 22, [11, 3, 3]) := ⟨(RX11, TX11, 19), tyX11, rfl, rfl, okC11, by decide, tg2 193 (by decide +kernel) rfl, rfl, fun h => rfl, Or.inr (Or.inr (Or.inr ⟨rfl, fun _ => ⟨rfl, rfl⟩⟩))⟩
theorem lk_1_6 : okJ "WingTrams" true (69, 0, 25, [1, 16]) := ⟨(RX1, TX1, 16), tyX1, rfl, rfl, okC1, rfl, tg1 45 (by decide +kernel) rfl⟩
theorem lk_1_7 : okJ "WingTrams" true (67, 0, 27, [24, 1, 0, 27, 27000]) := ⟨m_24, mtg_24, ⟨okM_24, tg1 47 (by decide +kernel) rfl, rfl, rfl, rfl, rfl, fun h => absurd h (by decide)⟩, rfl⟩
theorem lk_1_8 : okJ "WingTrams" true (79, 0, 28, [11, 4, 3]) := ⟨(RX11, TX11, 19), tyX11, rfl, rfl, okC11, by decide, tg2 194 (by decide +kernel) rfl, rfl, fun h => rfl, Or.inr (Or.inr (Or.inr ⟨rfl, fun _ => ⟨rfl, rfl⟩⟩))⟩
theorem lk_1_9 : okJ "WingTrams" true (79, 0, 32, [11, 5, 3]) := ⟨(RX11, TX11, 19), tyX11, rfl, rfl, okC11, by decide, tg2 195 (by decide +kernel) rfl, rfl, fun h => rfl, Or.inr (Or.inr (Or.inr ⟨rfl, fun _ => ⟨rfl, rfl⟩⟩))⟩
theorem lk_1_10 : okJ "WingTrams" true (69, 0, 35, [10, 4]) := ⟨(RX10, TX10, 4), tyX10, rfl, rfl, okC10, rfl, tg1 179 (by decide +kernel) rfl⟩
theorem lk_1_11 : okJ "WingTrams" true (67, 0, 37, [36, 1, 0, 6, 6000]) := ⟨m_36, mtg_36, ⟨okM_36, tg1 181 (by decide +kernel) rfl, rfl, rfl, rfl, rfl, fun h => absurd h (by decide)⟩, rfl⟩
theorem lk_1_12 : okJ "WingTrams" true (79, 0, 38, [11, 6, 3]) := ⟨(RX11, TX11, 19), tyX11, rfl, rfl, okC11, by decide, tg2 196 (by decide +kernel) rfl, rfl, fun h => rfl, Or.inr (Or.inr (Or.inr ⟨rfl, fun _ => ⟨rfl, rfl⟩⟩))⟩
theorem lk_1_13 : okJ "WingTrams" true (69, 0, 42, [4, 6]) := ⟨(RX4, TX4, 6), tyX4, rfl, rfl, okC4, rfl, tg1 203 (by decide +kernel) rfl⟩
theorem lk_1_14 : okJ "WingTrams" true (56, 0, 38, [11, 6]) := ⟨(RX11, TX11, 19), tyX11, rfl, rfl, okC11, by decide, tg2 196 (by decide +kernel) rfl⟩
theorem lk_1_15 : okJ "WingTrams" true (56, 0, 32, [11, 5]) := ⟨(RX11, TX11, 19), tyX11, rfl, rfl, okC11, by decide, tg2 195 (by decide +kernel) rfl⟩
theorem lk_1_16 : okJ "WingTrams" true (67, 0, 44, [45, 3, 0, 0, 0]) := ⟨m_45, mtg_45, ⟨okM_45, tg1 205 (by decide +kernel) rfl, rfl, rfl, rfl, rfl, fun h => absurd h (by decide)⟩, rfl⟩
theorem lk_1_17 : okJ "WingTrams" true (79, 0, 47, [11, 7, 3]) := ⟨(RX11, TX11, 19), tyX11, rfl, rfl, okC11, by decide, tg2 197 (by decide +kernel) rfl, rfl, fun h => rfl, Or.inr (Or.inr (Or.inr ⟨rfl, fun _ => ⟨rfl, rfl⟩⟩))⟩
theorem lk_1_18 : okJ "WingTrams" true (69, 0, 51, [9, 3]) := ⟨(RX9, TX9, 3), tyX9, rfl, rfl, okC9, rfl, tg1 229 (by decide +kernel) rfl⟩
theorem lk_1_19 : okJ "WingTrams" true (67, 0, 53, [32, 1, 0, 19, 19000]) := ⟨m_32, mtg_32, ⟨okM_32, tg1 231 (by decide +kernel) rfl, rfl, rfl, rfl, rfl, fun h => absurd h (by decide)⟩, rfl⟩
theorem lk_1_20 : okJ "WingTrams" true (79, 0, 54, [11, 8, 3]) := ⟨(RX11, TX11, 19), tyX11, rfl, rfl, okC11, by decide, tg2 198 (by decide +kernel) rfl, rfl, fun h => rfl, Or.inr (Or.inr (Or.inr ⟨rfl, fun _ => ⟨rfl, rfl⟩⟩))⟩
theorem lk_1_21 : okJ "WingTrams" true (79, 0, 58, [11, 9, 3]) := ⟨(RX11, TX11, 19), tyX11, rfl, rfl, okC11, by decide, tg2 199 (by decide +kernel) rfl, rfl, fun h => rfl, Or.inr (Or.inr (Or.inr ⟨rfl, fun _ => ⟨rfl, rfl⟩⟩))⟩
theorem lk_1_22 : okJ "WingTrams" true (69, 0, 61, [8, 6]) := ⟨(RX8, TX8, 6), tyX8, rfl, rfl, okC8, rfl, tg2 84 (by decide +kernel) rfl⟩
theorem lk_1_23 : okJ "WingTrams" true (67, 0, 63, [20, 1, 0, 4, 4000]) := ⟨m_20, mtg_20, ⟨okM_20, tg2 85 (by decide +kernel) rfl, rfl, rfl, rfl, rfl, fun h => absurd h (by decide)⟩, rfl⟩
theorem lk_1_24 : okJ "WingTrams" true (79, 0, 64, [11, 11, 3]) := ⟨(RX11, TX11, 19), tyX11, rfl, rfl, okC11, by decide, tg2 201 (by decide +kernel) rfl, rfl, fun h => rfl, Or.inr (Or.inr (Or.inr ⟨rfl, fun _ => ⟨rfl, rfl⟩⟩))⟩
theorem lk_1_25 : okJ "WingTrams" true (69, 0, 68, [3, 11]) := ⟨(RX3, TX3, 11), tyX3, rfl, rfl, okC3, rfl, tg2 86 (by decide +kernel) rfl⟩
theorem lk_1_26 : okJ "WingTrams" true (56, 0, 28, [11, 4]) := ⟨(RX11, TX11, 19), tyX11, rfl, rfl, okC11, by decide, tg2 194 (by decide +kernel) rfl⟩
theorem lk_1_27 : okJ "WingTrams" true (67, 0, 70, [67, 2, 0, 18, 18000]) := ⟨m_67, mtg_67, ⟨okM_67, tg2 88 (by decide +kernel) rfl, rfl, rfl, rfl, rfl, fun h => absurd h (by decide)⟩, rfl⟩
theorem lk_1_28 : okJ "WingTrams" true (79, 0, 73, [11, 12, 3]) := ⟨(RX11, TX11, 19), tyX11, rfl, rfl, okC11, by decide, tg2 202 (by decide +kernel) rfl, rfl, fun h => rfl, Or.inr (Or.inr (Or.inr ⟨rfl, fun _ => ⟨rfl, rfl⟩⟩))⟩
theorem lk_1_29 : okJ "WingTrams" true (69, 0, 77, [5, 6]) := ⟨(RX5, TX5, 6), tyX5, rfl, rfl, okC5, rfl, tg2 137 (by decide +kernel) rfl⟩
theorem lk_1_30 : okJ "WingTrams" true (56, 0, 73, [11, 12]) := ⟨(RX11, TX11, 19), tyX11, rfl, rfl, okC11, by decide, tg2 202 (by decide +kernel) rfl⟩
theorem lk_1_31 : okJ "WingTrams" true (67, 0, 79, [77, 3, 0, 8, 8000]) := ⟨m_77, mtg_77, ⟨okM_77, tg2 139 (by decide +kernel) rfl, rfl, rfl, rfl, rfl, fun h => absurd h (by decide)⟩, rfl⟩
theorem lk_1_32 : okJ "WingTrams" true (79, 0, 82, [11, 13, 3]) := ⟨(RX11, TX11, 19), tyX11, rfl, rfl, okC11, by decide, tg2 203 (by decide +kernel) rfl, rfl, fun h => rfl, Or.inr (Or.inr (Or.inr ⟨rfl, fun _ => ⟨rfl, rfl⟩⟩))⟩
theorem lk_1_33 : okJ "WingTrams" true (69, 0, 86, [0, 5]) := ⟨(RX0, TX0, 5), tyX0, rfl, rfl, okC0, rfl, tg2 164 (by decide +kernel) rfl⟩
theorem lk_1_34 : okJ "WingTrams" true (67, 0, 88, [91, 2, 0, 4, 4000]) := ⟨m_91, mtg_91, ⟨okM_91, tg2 166 (by decide +kernel) rfl, rfl, rfl, rfl, rfl, fun h => absurd h (by decide)⟩, rfl⟩
theorem lk_1_35 : okJ "WingTrams" true (79, 0, 89, [11, 14, 3]) := ⟨(RX11, TX11, 19), tyX11, rfl, rfl, okC11, by decide, tg2 204 (by decide +kernel) rfl, rfl, fun h => rfl, Or.inr (Or.inr (Or.inr ⟨rfl, fun _ => ⟨rfl, rfl⟩⟩))⟩
theorem lk_1_36 : okJ "WingTrams" true (79, 0, 93, [11, 15, 3]) := ⟨(RX11, TX11, 19), tyX11, rfl, rfl, okC11, by decide, tg2 205 (by decide +kernel) rfl, rfl, fun h => rfl, Or.inr (Or.inr (Or.inr ⟨rfl, fun _ => ⟨rfl, rfl⟩⟩))⟩
theorem lk_1_37 : okJ "WingTrams" true (79, 0, 96, [11, 16, 3]) := ⟨(RX11, TX11, 19), tyX11, rfl, rfl, okC11, by decide, tg2 206 (by decide +kernel) rfl, rfl, fun h => rfl, Or.inr (Or.inr (Or.inr ⟨rfl, fun _ => ⟨rfl, rfl⟩⟩))⟩
theorem lk_1_38 : okJ "WingTrams" true (79, 0, 99, [11, 18, 3]) := ⟨(RX11, TX11, 19), tyX11, rfl, rfl, okC11, by decide, tg2 208 (by decide +kernel) rfl, rfl, fun h => rfl, Or.inr (Or.inr (Or.inr ⟨rfl, fun _ => ⟨rfl, rfl⟩⟩))⟩
set_option maxRecDepth 100000 in
theorem LK_1_ok : ∀ q ∈ LK_1, okJ "WingTrams" true q := List.forall_mem_cons.mpr ⟨lk_1_0, List.forall_mem_cons.mpr ⟨lk_1_1, List.forall_mem_cons.mpr ⟨lk_1_2, List.forall_mem_cons.mpr ⟨lk_1_3, List.forall_mem_cons.mpr ⟨lk_1_4, List.forall_mem_cons.mpr ⟨lk_1_5, List.forall_mem_cons.mpr ⟨lk_1_6, List.forall_mem_cons.mpr ⟨lk_1_7, List.forall_mem_cons.mpr ⟨lk_1_8, List.forall_mem_cons.mpr ⟨lk_1_9, List.forall_mem_cons.mpr ⟨lk_1_10, List.forall_mem_cons.mpr ⟨lk_1_11, List.forall_mem_cons.mpr ⟨lk_1_12, List.forall_mem_cons.mpr ⟨lk_1_13, List.forall_mem_cons.mpr ⟨lk_1_14, List.forall_mem_cons.mpr ⟨lk_1_15, List.forall_mem_cons.mpr ⟨lk_1_16, List.forall_mem_cons.mpr ⟨lk_1_17, List.forall_mem_cons.mpr ⟨lk_1_18, List.forall_mem_cons.mpr ⟨lk_1_19, List.forall_mem_cons.mpr ⟨lk_1_20, List.forall_mem_cons.mpr ⟨lk_1_21, List.forall_mem_cons.mpr ⟨lk_1_22, List.forall_mem_cons.mpr ⟨lk_1_23, List.forall_mem_cons.mpr ⟨lk_1_24, List.forall_mem_cons.mpr ⟨lk_1_25, List.forall_mem_cons.mpr ⟨lk_1_26, List.forall_mem_cons.mpr ⟨lk_1_27, List.forall_mem_cons.mpr ⟨lk_1_28, List.forall_mem_cons.mpr ⟨lk_1_29, List.forall_mem_cons.mpr ⟨lk_1_30, List.forall_mem_cons.mpr ⟨lk_1_31, List.forall_mem_cons.mpr ⟨lk_1_32, List.forall_mem_cons.mpr ⟨lk_1_33, List.forall_mem_cons.mpr ⟨lk_1_34, List.forall_mem_cons.mpr ⟨lk_1_35, List.forall_mem_cons.mpr ⟨lk_1_36, List.forall_mem_cons.mpr ⟨lk_1_37, List.forall_mem_cons.mpr ⟨lk_1_38, fun _ h => absurd h List.not_mem_nil⟩⟩⟩⟩⟩⟩⟩⟩⟩⟩⟩⟩⟩⟩⟩⟩⟩⟩⟩⟩⟩⟩⟩⟩⟩⟩⟩⟩⟩⟩⟩⟩⟩⟩⟩⟩⟩⟩⟩
def LK_2 : List dI := [(57, 0, 27, [0, 3, 0]), (57, 0, 31, [0, 4, 0]), (65, 0, 34, [93, 1, 1, 0, 0]), (56, 0, 9, [0, 0]), (56, 0, 37, [1, 0]), (56, 0, 24, [0, 2]), (65, 0, 42, [95, 3, 1, 0, 0]), (65, 0, 46, [6, 3, 7, 0, 0]), (66, 0, 50, [0, 1, 0, 0, 0]), (65, 0, 56, [96, 2, 1, 0, 0]), (56, 0, 27, [0, 3]), (65, 0, 59, [28, 3, 2, 0, 0]), (56, 0, 20, [0, 1]), (65, 0, 62, [94, 2, 1, 0, 0]), (65, 0, 65, [5, 2, 7, 0, 0]), (56, 0, 68, [1, 3]), (56, 0, 71, [1, 12])]
theorem lk_2_0 : okJ "WingTrams$Beams" false (57, 0, 27, [0, 3, 0]) := ⟨(RX0, TX0, 5), tyX0, rfl, rfl, okC0, by decide, tg2 175 (by decide +kernel) rfl, rfl, fun h => (by cases h), Or.inl ⟨rfl, rfl⟩⟩
theorem lk_2_1 : okJ "WingTrams$Beams" false (57, 0, 31, [0, 4, 0]) := ⟨(RX0, TX0, 5), tyX0, rfl, rfl, okC0, by decide, tg2 177 (by decide +kernel) rfl, rfl, fun h => (by cases h), Or.inl ⟨rfl, rfl⟩⟩
theorem lk_2_2 : okJ "WingTrams$Beams" false (65, 0, 34, [93, 1, 1, 0, 0]) := ⟨m_93, mtg_93, ⟨okM_93, tg6 64 (by decide +kernel) rfl, rfl, rfl, rfl, rfl, fun _ => ⟨(RX0, TX0, 5), by decide, rfl, rfl⟩⟩, rfl, by decide⟩
theorem lk_2_3 : okJ "WingTrams$Beams" false (56, 0, 9, [0, 0]) := ⟨(RX0, TX0, 5), tyX0, rfl, rfl, okC0, by decide, tg2 172 (by decide +kernel) rfl⟩
theorem lk_2_4 : okJ "WingTrams$Beams" false (56, 0, 37, [1, 0]) := ⟨(RX1, TX1, 16), tyX1, rfl, rfl, okC1, by decide, tg1 82 (by decide +kernel) rfl⟩
theorem lk_2_5 : okJ "WingTrams$Beams" false (56, 0, 24, [0, 2]) := ⟨(RX0, TX0, 5), tyX0, rfl, rfl, okC0, by decide, tg2 174 (by decide +kernel) rfl⟩
theorem lk_2_6 : okJ "WingTrams$Beams" false (65, 0, 42, [95, 3, 1, 0, 0]) := ⟨m_95, mtg_95, ⟨okM_95, tg6 75 (by decide +kernel) rfl, rfl, rfl, rfl, rfl, fun _ => ⟨(RX0, TX0, 5), by decide, rfl, rfl⟩⟩, rfl, by decide⟩
theorem lk_2_7 : okJ "WingTrams$Beams" false (65, 0, 46, [6, 3, 7, 0, 0]) := ⟨m_6, mtg_6, ⟨okM_6, tg6 69 (by decide +kernel) rfl, rfl, rfl, rfl, rfl, fun _ => ⟨(RX6, TX6, 1), by decide, rfl, rfl⟩⟩, rfl, by decide⟩
theorem lk_2_8 : okJ "WingTrams$Beams" false (66, 0, 50, [0, 1, 0, 0, 0]) := ⟨m_0, mtg_0, ⟨okM_0, tg6 79 (by decide +kernel) rfl, rfl, rfl, rfl, rfl, fun h => absurd h (by decide)⟩, rfl⟩
theorem lk_2_9 : okJ "WingTrams$Beams" false (65, 0, 56, [96, 2, 1, 0, 0]) := ⟨m_96, mtg_96, ⟨okM_96, tg6 80 (by decide +kernel) rfl, rfl, rfl, rfl, rfl, fun _ => ⟨(RX0, TX0, 5), by decide, rfl, rfl⟩⟩, rfl, by decide⟩
theorem lk_2_10 : okJ "WingTrams$Beams" false (56, 0, 27, [0, 3]) := ⟨(RX0, TX0, 5), tyX0, rfl, rfl, okC0, by decide, tg2 175 (by decide +kernel) rfl⟩
theorem lk_2_11 : okJ "WingTrams$Beams" false (65, 0, 59, [28, 3, 2, 0, 0]) := ⟨m_28, mtg_28, ⟨okM_28, tg6 68 (by decide +kernel) rfl, rfl, rfl, rfl, rfl, fun _ => ⟨(RX1, TX1, 16), by decide, rfl, rfl⟩⟩, rfl, by decide⟩
theorem lk_2_12 : okJ "WingTrams$Beams" false (56, 0, 20, [0, 1]) := ⟨(RX0, TX0, 5), tyX0, rfl, rfl, okC0, by decide, tg2 173 (by decide +kernel) rfl⟩
theorem lk_2_13 : okJ "WingTrams$Beams" false (65, 0, 62, [94, 2, 1, 0, 0]) := ⟨m_94, mtg_94, ⟨okM_94, tg6 70 (by decide +kernel) rfl, rfl, rfl, rfl, rfl, fun _ => ⟨(RX0, TX0, 5), by decide, rfl, rfl⟩⟩, rfl, by decide⟩
theorem lk_2_14 : okJ "WingTrams$Beams" false (65, 0, 65, [5, 2, 7, 0, 0]) := ⟨m_5, mtg_5, ⟨okM_5, tg6 74 (by decide +kernel) rfl, rfl, rfl, rfl, rfl, fun _ => ⟨(RX6, TX6, 1), by decide, rfl, rfl⟩⟩, rfl, by decide⟩
theorem lk_2_15 : okJ "WingTrams$Beams" false (56, 0, 68, [1, 3]) := ⟨(RX1, TX1, 16), tyX1, rfl, rfl, okC1, by decide, tg1 96 (by decide +kernel) rfl⟩
theorem lk_2_16 : okJ "WingTrams$Beams" false (56, 0, 71, [1, 12]) := ⟨(RX1, TX1, 16), tyX1, rfl, rfl, okC1, by decide, tg1 131 (by decide +kernel) rfl⟩
set_option maxRecDepth 100000 in
theorem LK_2_ok : ∀ q ∈ LK_2, okJ "WingTrams$Beams" false q := List.forall_mem_cons.mpr ⟨lk_2_0, List.forall_mem_cons.mpr ⟨lk_2_1, List.forall_mem_cons.mpr ⟨lk_2_2, List.forall_mem_cons.mpr ⟨lk_2_3, List.forall_mem_cons.mpr ⟨lk_2_4, List.forall_mem_cons.mpr ⟨lk_2_5, List.forall_mem_cons.mpr ⟨lk_2_6, List.forall_mem_cons.mpr ⟨lk_2_7, List.forall_mem_cons.mpr ⟨lk_2_8, List.forall_mem_cons.mpr ⟨lk_2_9, List.forall_mem_cons.mpr ⟨lk_2_10, List.forall_mem_cons.mpr ⟨lk_2_11, List.forall_mem_cons.mpr ⟨lk_2_12, List.forall_mem_cons.mpr ⟨lk_2_13, List.forall_mem_cons.mpr ⟨lk_2_14, List.forall_mem_cons.mpr ⟨lk_2_15, List.forall_mem_cons.mpr ⟨lk_2_16, fun _ h => absurd h List.not_mem_nil⟩⟩⟩⟩⟩⟩⟩⟩⟩⟩⟩⟩⟩⟩⟩⟩⟩
def LK_3 : List dI := [(68, 0, 3, []), (79, 0, 9, [0, 0, 3]), (69, 0, 15, [6, 1]), (67, 0, 17, [4, 2, 0, 1, 1000]), (79, 0, 20, [0, 1, 3]), (79, 0, 24, [0, 2, 3])]
theorem lk_3_0 : okJ "WingTrams$Beams" true (68, 0, 3, []) := ⟨tg2 169 (by decide +kernel) rfl, tg1 32 (by decide +kernel) rfl, tg1 33 (by decide +kernel) rfl⟩
theorem lk_3_1 : okJ "WingTrams$Beams" true (79, 0, 9, [0, 0, 3]) := ⟨(RX0, TX0, 5), tyX0, rfl, rfl, okC0, by decide, tg2 172 (by decide +kernel) rfl, rfl, fun h => rfl, Or.inr (Or.inr (Or.inr ⟨rfl, fun _ => ⟨rfl, rfl⟩⟩))⟩
theorem lk_3_2 : okJ "WingTrams$Beams" true (69, 0, 15, [6, 1]) := ⟨(RX6, TX6, 1), tyX6, rfl, rfl, okC6, rfl, tg2 170 (by decide +kernel) rfl⟩
theorem lk_3_3 : okJ "WingTrams$Beams" true (67, 0, 17, [4, 2, 0, 1, 1000]) := ⟨m_4, mtg_4, ⟨okM_4, tg2 171 (by decide +kernel) rfl, rfl, rfl, rfl, rfl, fun h => absurd h (by decide)⟩, rfl⟩
theorem lk_3_4 : okJ "WingTrams$Beams" true (79, 0, 20, [0, 1, 3]) := ⟨(RX0, TX0, 5), tyX0, rfl, rfl, okC0, by decide, tg2 173 (by decide +kernel) rfl, rfl, fun h => rfl, Or.inr (Or.inr (Or.inr ⟨rfl, fun _ => ⟨rfl, rfl⟩⟩))⟩
theorem lk_3_5 : okJ "WingTrams$Beams" true (79, 0, 24, [0, 2, 3]) := ⟨(RX0, TX0, 5), tyX0, rfl, rfl, okC0, by decide, tg2 174 (by decide +kernel) rfl, rfl, fun h => rfl, Or.inr (Or.inr (Or.inr ⟨rfl, fun _ => ⟨rfl, rfl⟩⟩))⟩
set_option maxRecDepth 100000 in
theorem LK_3_ok : ∀ q ∈ LK_3, okJ "WingTrams$Beams" true q := List.forall_mem_cons.mpr ⟨lk_3_0, List.forall_mem_cons.mpr ⟨lk_3_1, List.forall_mem_cons.mpr ⟨lk_3_2, List.forall_mem_cons.mpr ⟨lk_3_3, List.forall_mem_cons.mpr ⟨lk_3_4, List.forall_mem_cons.mpr ⟨lk_3_5, fun _ h => absurd h List.not_mem_nil⟩⟩⟩⟩⟩⟩
def LK_4 : List dI := [(57, 0, 58, [1, 0, 0]), (57, 0, 61, [1, 1, 0]), (57, 0, 64, [1, 2, 0]), (57, 0, 67, [1, 3, 0]), (57, 0, 9, [1, 4, 0]), (56, 0, 24, [1, 6]), (65, 0, 70, [7, 2, 7, 0, 0]), (56, 0, 54, [1, 15]), (65, 0, 73, [14, 1, 8, 0, 0]), (56, 0, 58, [1, 0]), (56, 0, 61, [1, 1]), (56, 0, 64, [1, 2]), (56, 0, 67, [1, 3]), (56, 0, 9, [1, 4]), (56, 0, 20, [1, 5]), (65, 0, 76, [8, 2, 7, 0, 0]), (56, 0, 27, [1, 7]), (56, 0, 30, [1, 8]), (56, 0, 33, [1, 9]), (56, 0, 36, [1, 10]), (56, 0, 39, [1, 11]), (56, 0, 42, [1, 12]), (56, 0, 45, [1, 13]), (56, 0, 48, [1, 14]), (65, 0, 80, [15, 2, 8, 0, 0]), (65, 0, 83, [6, 3, 7, 0, 0]), (65, 0, 87, [5, 2, 7, 0, 0]), (65, 0, 91, [28, 3, 2, 0, 0])]
theorem lk_4_0 : okJ "WingTrams$City" false (57, 0, 58, [1, 0, 0]) := ⟨(RX1, TX1, 16), tyX1, rfl, rfl, okC1, by decide, tg1 80 (by decide +kernel) rfl, rfl, fun h => (by cases h), Or.inl ⟨rfl, rfl⟩⟩
theorem lk_4_1 : okJ "WingTrams$City" false (57, 0, 61, [1, 1, 0]) := ⟨(RX1, TX1, 16), tyX1, rfl, rfl, okC1, by decide, tg1 86 (by decide +kernel) rfl, rfl, fun h => (by cases h), Or.inl ⟨rfl, rfl⟩⟩
theorem lk_4_2 : okJ "WingTrams$City" false (57, 0, 64, [1, 2, 0]) := ⟨(RX1, TX1, 16), tyX1, rfl, rfl, okC1, by decide, tg1 89 (by decide +kernel) rfl, rfl, fun h => (by cases h), Or.inl ⟨rfl, rfl⟩⟩
theorem lk_4_3 : okJ "WingTrams$City" false (57, 0, 67, [1, 3, 0]) := ⟨(RX1, TX1, 16), tyX1, rfl, rfl, okC1, by decide, tg1 94 (by decide +kernel) rfl, rfl, fun h => (by cases h), Or.inl ⟨rfl, rfl⟩⟩
theorem lk_4_4 : okJ "WingTrams$City" false (57, 0, 9, [1, 4, 0]) := ⟨(RX1, TX1, 16), tyX1, rfl, rfl, okC1, by decide, tg1 99 (by decide +kernel) rfl, rfl, fun h => (by cases h), Or.inl ⟨rfl, rfl⟩⟩
theorem lk_4_5 : okJ "WingTrams$City" false (56, 0, 24, [1, 6]) := ⟨(RX1, TX1, 16), tyX1, rfl, rfl, okC1, by decide, tg1 107 (by decide +kernel) rfl⟩
theorem lk_4_6 : okJ "WingTrams$City" false (65, 0, 70, [7, 2, 7, 0, 0]) := ⟨m_7, mtg_7, ⟨okM_7, tg4 208 (by decide +kernel) rfl, rfl, rfl, rfl, rfl, fun _ => ⟨(RX6, TX6, 1), by decide, rfl, rfl⟩⟩, rfl, by decide⟩
theorem lk_4_7 : okJ "WingTrams$City" false (56, 0, 54, [1, 15]) := ⟨(RX1, TX1, 16), tyX1, rfl, rfl, okC1, by decide, tg1 141 (by decide +kernel) rfl⟩
theorem lk_4_8 : okJ "WingTrams$City" false (65, 0, 73, [14, 1, 8, 0, 0]) := ⟨m_14, mtg_14, ⟨okM_14, tg4 209 (by decide +kernel) rfl, rfl, rfl, rfl, rfl, fun _ => ⟨(RX7, TX7, 5), by decide, rfl, rfl⟩⟩, rfl, by decide⟩
theorem lk_4_9 : okJ "WingTrams$City" false (56, 0, 58, [1, 0]) := ⟨(RX1, TX1, 16), tyX1, rfl, rfl, okC1, by decide, tg1 80 (by decide +kernel) rfl⟩
theorem lk_4_10 : okJ "WingTrams$City" false (56, 0, 61, [1, 1]) := ⟨(RX1, TX1, 16), tyX1, rfl, rfl, okC1, by decide, tg1 86 (by decide +kernel) rfl⟩
theorem lk_4_11 : okJ "WingTrams$City" false (56, 0, 64, [1, 2]) := ⟨(RX1, TX1, 16), tyX1, rfl, rfl, okC1, by decide, tg1 89 (by decide +kernel) rfl⟩
theorem lk_4_12 : okJ "WingTrams$City" false (56, 0, 67, [1, 3]) := ⟨(RX1, TX1, 16), tyX1, rfl, rfl, okC1, by decide, tg1 94 (by decide +kernel) rfl⟩
theorem lk_4_13 : okJ "WingTrams$City" false (56, 0, 9, [1, 4]) := ⟨(RX1, TX1, 16), tyX1, rfl, rfl, okC1, by decide, tg1 99 (by decide +kernel) rfl⟩
theorem lk_4_14 : okJ "WingTrams$City" false (56, 0, 20, [1, 5]) := ⟨(RX1, TX1, 16), tyX1, rfl, rfl, okC1, by decide, tg1 104 (by decide +kernel) rfl⟩
theorem lk_4_15 : okJ "WingTrams$City" false (65, 0, 76, [8, 2, 7, 0, 0]) := ⟨m_8, mtg_8, ⟨okM_8, tg5 73 (by decide +kernel) rfl, rfl, rfl, rfl, rfl, fun _ => ⟨(RX6, TX6, 1), by decide, rfl, rfl⟩⟩, rfl, by decide⟩
theorem lk_4_16 : okJ "WingTrams$City" false (56, 0, 27, [1, 7]) := ⟨(RX1, TX1, 16), tyX1, rfl, rfl, okC1, by decide, tg1 108 (by decide +kernel) rfl⟩
theorem lk_4_17 : okJ "WingTrams$City" false (56, 0, 30, [1, 8]) := ⟨(RX1, TX1, 16), tyX1, rfl, rfl, okC1, by decide, tg1 113 (by decide +kernel) rfl⟩
theorem lk_4_18 : okJ "WingTrams$City" false (56, 0, 33, [1, 9]) := ⟨(RX1, TX1, 16), tyX1, rfl, rfl, okC1, by decide, tg1 116 (by decide +kernel) rfl⟩
theorem lk_4_19 : okJ "WingTrams$City" false (56, 0, 36, [1, 10]) := ⟨(RX1, TX1, 16), tyX1, rfl, rfl, okC1, by decide, tg1 120 (by decide +kernel) rfl⟩
theorem lk_4_20 : okJ "WingTrams$City" false (56, 0, 39, [1, 11]) := ⟨(RX1, TX1, 16), tyX1, rfl, rfl, okC1, by decide, tg1 125 (by decide +kernel) rfl⟩
theorem lk_4_21 : okJ "WingTrams$City" false (56, 0, 42, [1, 12]) := ⟨(RX1, TX1, 16), tyX1, rfl, rfl, okC1, by decide, tg1 129 (by decide +kernel) rfl⟩
theorem lk_4_22 : okJ "WingTrams$City" false (56, 0, 45, [1, 13]) := ⟨(RX1, TX1, 16), tyX1, rfl, rfl, okC1, by decide, tg1 134 (by decide +kernel) rfl⟩
theorem lk_4_23 : okJ "WingTrams$City" false (56, 0, 48, [1, 14]) := ⟨(RX1, TX1, 16), tyX1, rfl, rfl, okC1, by decide, tg1 138 (by decide +kernel) rfl⟩
theorem lk_4_24 : okJ "WingTrams$City" false (65, 0, 80, [15, 2, 8, 0, 0]) := ⟨m_15, mtg_15, ⟨okM_15, tg5 74 (by decide +kernel) rfl, rfl, rfl, rfl, rfl, fun _ => ⟨(RX7, TX7, 5), by decide, rfl, rfl⟩⟩, rfl, by decide⟩
theorem lk_4_25 : okJ "WingTrams$City" false (65, 0, 83, [6, 3, 7, 0, 0]) := ⟨m_6, mtg_6, ⟨okM_6, tg5 8 (by decide +kernel) rfl, rfl, rfl, rfl, rfl, fun _ => ⟨(RX6, TX6, 1), by decide, rfl, rfl⟩⟩, rfl, by decide⟩
theorem lk_4_26 : okJ "WingTrams$City" false (65, 0, 87, [5, 2, 7, 0, 0]) := ⟨m_5, mtg_5, ⟨okM_5, tg3 114 (by decide +kernel) rfl, rfl, rfl, rfl, rfl, fun _ => ⟨(RX6, TX6, 1), by decide, rfl, rfl⟩⟩, rfl, by decide⟩
theorem lk_4_27 : okJ "WingTrams$City" false (65, 0, 91, [28, 3, 2, 0, 0]) := ⟨m_28, mtg_28, ⟨okM_28, tg5 131 (by decide +kernel) rfl, rfl, rfl, rfl, rfl, fun _ => ⟨(RX1, TX1, 16), by decide, rfl, rfl⟩⟩, rfl, by decide⟩
set_option maxRecDepth 100000 in
theorem LK_4_ok : ∀ q ∈ LK_4, okJ "WingTrams$City" false q := List.forall_mem_cons.mpr ⟨lk_4_0, List.forall_mem_cons.mpr ⟨lk_4_1, List.forall_mem_cons.mpr ⟨lk_4_2, List.forall_mem_cons.mpr ⟨lk_4_3, List.forall_mem_cons.mpr ⟨lk_4_4, List.forall_mem_cons.mpr ⟨lk_4_5, List.forall_mem_cons.mpr ⟨lk_4_6, List.forall_mem_cons.mpr ⟨lk_4_7, List.forall_mem_cons.mpr ⟨lk_4_8, List.forall_mem_cons.mpr ⟨lk_4_9, List.forall_mem_cons.mpr ⟨lk_4_10, List.forall_mem_cons.mpr ⟨lk_4_11, List.forall_mem_cons.mpr ⟨lk_4_12, List.forall_mem_cons.mpr ⟨lk_4_13, List.forall_mem_cons.mpr ⟨lk_4_14, List.forall_mem_cons.mpr ⟨lk_4_15, List.forall_mem_cons.mpr ⟨lk_4_16, List.forall_mem_cons.mpr ⟨lk_4_17, List.forall_mem_cons.mpr ⟨lk_4_18, List.forall_mem_cons.mpr ⟨lk_4_19, List.forall_mem_cons.mpr ⟨lk_4_20, List.forall_mem_cons.mpr ⟨lk_4_21, List.forall_mem_cons.mpr ⟨lk_4_22, List.forall_mem_cons.mpr ⟨lk_4_23, List.forall_mem_cons.mpr ⟨lk_4_24, List.forall_mem_cons.mpr ⟨lk_4_25, List.forall_mem_cons.mpr ⟨lk_4_26, List.forall_mem_cons.mpr ⟨lk_4_27, fun _ h => absurd h List.not_mem_nil⟩⟩⟩⟩⟩⟩⟩⟩⟩⟩⟩⟩⟩⟩⟩⟩⟩⟩⟩⟩⟩⟩⟩⟩⟩⟩⟩⟩
def LK_5 : List dI := [(68, 0, 3, []), (57, 0, 9, [1, 4, 0]), (69, 0, 15, [6, 1]), (67, 0, 17, [4, 2, 0, 1, 1000]), (79, 0, 20, [1, 5, 3]), (79, 0, 24, [1, 6, 3]), (79, 0, 27, [1, 7, 3]), (79, 0, 30, [1, 8, 3]), (79, 0, 33, [1, 9, 3]), (79, 0, 36, [1, 10, 3]), (79, 0, 39, [1, 11, 3]), (79, 0, 42, [1, 12, 3]), (79, 0, 45, [1, 13, 3]), (79, 0, 48, [1, 14, 3]), (69, 0, 51, [7, 5]), (67, 0, 53, [13, 1, 0, 6, 6000]), (79, 0, 54, [1, 15, 3])]
theorem lk_5_0 : okJ "WingTrams$City" true (68, 0, 3, []) := ⟨tg1 50 (by decide +kernel) rfl, tg1 32 (by decide +kernel) rfl, tg1 33 (by decide +kernel) rfl⟩
theorem lk_5_1 : okJ "WingTrams$City" true (57, 0, 9, [1, 4, 0]) := ⟨(RX1, TX1, 16), tyX1, rfl, rfl, okC1, by decide, tg1 99 (by decide +kernel) rfl, rfl, fun h => (by cases h), Or.inl ⟨rfl, rfl⟩⟩
theorem lk_5_2 : okJ "WingTrams$City" true (69, 0, 15, [6, 1]) := ⟨(RX6, TX6, 1), tyX6, rfl, rfl, okC6, rfl, tg1 51 (by decide +kernel) rfl⟩
theorem lk_5_3 : okJ "WingTrams$City" true (67, 0, 17, [4, 2, 0, 1, 1000]) := ⟨m_4, mtg_4, ⟨okM_4, tg1 52 (by decide +kernel) rfl, rfl, rfl, rfl, rfl, fun h => absurd h (by decide)⟩, rfl⟩
theorem lk_5_4 : okJ "WingTrams$City" true (79, 0, 20, [1, 5, 3]) := ⟨(RX1, TX1, 16), tyX1, rfl, rfl, okC1, by decide, tg1 104 (by decide +kernel) rfl, rfl, fun h => rfl, Or.inr (Or.inr (Or.inr ⟨rfl, fun _ => ⟨rfl, rfl⟩⟩))⟩
theorem lk_5_5 : okJ "WingTrams$City" true (79, 0, 24, [1, 6, 3]) := ⟨(RX1, TX1, 16), tyX1, rfl, rfl, okC1, by decide, tg1 107 (by decide +kernel) rfl, rfl, fun h => rfl, Or.inr (Or.inr (Or.inr ⟨rfl, fun _ => ⟨rfl, rfl⟩⟩))⟩
theorem lk_5_6 : okJ "WingTrams$City" true (79, 0, 27, [1, 7, 3]) := ⟨(RX1, TX1, 16), tyX1, rfl, rfl, okC1, by decide, tg1 108 (by decide +kernel) rfl, rfl, fun h => rfl, Or.inr (Or.inr (Or.inr ⟨rfl, fun _ => ⟨rfl, rfl⟩⟩))⟩
theorem lk_5_7 : okJ "WingTrams$City" true (79, 0, 30, [1, 8, 3]) := ⟨(RX1, TX1, 16), tyX1, rfl, rfl, okC1, by decide, tg1 113 (by decide +kernel) rfl, rfl, fun h => rfl, Or.inr (Or.inr (Or.inr ⟨rfl, fun _ => ⟨rfl, rfl⟩⟩))⟩
theorem lk_5_8 : okJ "WingTrams$City" true (79, 0, 33, [1, 9, 3]) := ⟨(RX1, TX1, 16), tyX1, rfl, rfl, okC1, by decide, tg1 116 (by decide +kernel) rfl, rfl, fun h => rfl, Or.inr (Or.inr (Or.inr ⟨rfl, fun _ => ⟨rfl, rfl⟩⟩))⟩
theorem lk_5_9 : okJ "WingTrams$City" true (79, 0, 36, [1, 10, 3]) := ⟨(RX1, TX1, 16), tyX1, rfl, rfl, okC1, by decide, tg1 120 (by decide +kernel) rfl, rfl, fun h => rfl, Or.inr (Or.inr (Or.inr ⟨rfl, fun _ => ⟨rfl, rfl⟩⟩))⟩
theorem lk_5_10 : okJ "WingTrams$City" true (79, 0, 39, [1, 11, 3]) := ⟨(RX1, TX1, 16), tyX1, rfl, rfl, okC1, by decide, tg1 125 (by decide +kernel) rfl, rfl, fun h => rfl, Or.inr (Or.inr (Or.inr ⟨rfl, fun _ => ⟨rfl, rfl⟩⟩))⟩
theorem lk_5_11 : okJ "WingTrams$City" true (79, 0, 42, [1, 12, 3]) := ⟨(RX1, TX1, 16), tyX1, rfl, rfl, okC1, by decide, tg1 129 (by decide +kernel) rfl, rfl, fun h => rfl, Or.inr (Or.inr (Or.inr ⟨rfl, fun _ => ⟨rfl, rfl⟩⟩))⟩
theorem lk_5_12 : okJ "WingTrams$City" true (79, 0, 45, [1, 13, 3]) := ⟨(RX1, TX1, 16), tyX1, rfl, rfl, okC1, by decide, tg1 134 (by decide +kernel) rfl, rfl, fun h => rfl, Or.inr (Or.inr (Or.inr ⟨rfl, fun _ => ⟨rfl, rfl⟩⟩))⟩
theorem lk_5_13 : okJ "WingTrams$City" true (79, 0, 48, [1, 14, 3]) := ⟨(RX1, TX1, 16), tyX1, rfl, rfl, okC1, by decide, tg1 138 (by decide +kernel) rfl, rfl, fun h => rfl, Or.inr (Or.inr (Or.inr ⟨rfl, fun _ => ⟨rfl, rfl⟩⟩))⟩
theorem lk_5_14 : okJ "WingTrams$City" true (69, 0, 51, [7, 5]) := ⟨(RX7, TX7, 5), tyX7, rfl, rfl, okC7, rfl, tg1 53 (by decide +kernel) rfl⟩
theorem lk_5_15 : okJ "WingTrams$City" true (67, 0, 53, [13, 1, 0, 6, 6000]) := ⟨m_13, mtg_13, ⟨okM_13, tg1 55 (by decide +kernel) rfl, rfl, rfl, rfl, rfl, fun h => absurd h (by decide)⟩, rfl⟩
theorem lk_5_16 : okJ "WingTrams$City" true (79, 0, 54, [1, 15, 3]) := ⟨(RX1, TX1, 16), tyX1, rfl, rfl, okC1, by decide, tg1 141 (by decide +kernel) rfl, rfl, fun h => rfl, Or.inr (Or.inr (Or.inr ⟨rfl, fun _ => ⟨rfl, rfl⟩⟩))⟩
set_option maxRecDepth 100000 in
theorem LK_5_ok : ∀ q ∈ LK_5, okJ "WingTrams$City" true q := List.forall_mem_cons.mpr ⟨lk_5_0, List.forall_mem_cons.mpr ⟨lk_5_1, List.forall_mem_cons.mpr ⟨lk_5_2, List.forall_mem_cons.mpr ⟨lk_5_3, List.forall_mem_cons.mpr ⟨lk_5_4, List.forall_mem_cons.mpr ⟨lk_5_5, List.forall_mem_cons.mpr ⟨lk_5_6, List.forall_mem_cons.mpr ⟨lk_5_7, List.forall_mem_cons.mpr ⟨lk_5_8, List.forall_mem_cons.mpr ⟨lk_5_9, List.forall_mem_cons.mpr ⟨lk_5_10, List.forall_mem_cons.mpr ⟨lk_5_11, List.forall_mem_cons.mpr ⟨lk_5_12, List.forall_mem_cons.mpr ⟨lk_5_13, List.forall_mem_cons.mpr ⟨lk_5_14, List.forall_mem_cons.mpr ⟨lk_5_15, List.forall_mem_cons.mpr ⟨lk_5_16, fun _ h => absurd h List.not_mem_nil⟩⟩⟩⟩⟩⟩⟩⟩⟩⟩⟩⟩⟩⟩⟩⟩⟩
def LK_6 : List dI := [(56, 0, 28, [2, 0]), (56, 0, 7, [2, 1]), (65, 0, 31, [11, 1, 3, 0, 0]), (56, 0, 18, [2, 2]), (65, 0, 34, [6, 3, 7, 0, 0]), (56, 0, 22, [2, 3]), (56, 0, 25, [2, 4]), (57, 0, 28, [2, 0, 0]), (65, 0, 38, [5, 2, 7, 0, 0]), (65, 0, 42, [8, 2, 7, 0, 0])]
theorem lk_6_0 : okJ "WingTrams$Log" false (56, 0, 28, [2, 0]) := ⟨(RX2, TX2, 5), tyX2, rfl, rfl, okC2, by decide, tg2 47 (by decide +kernel) rfl⟩
theorem lk_6_1 : okJ "WingTrams$Log" false (56, 0, 7, [2, 1]) := ⟨(RX2, TX2, 5), tyX2, rfl, rfl, okC2, by decide, tg2 50 (by decide +kernel) rfl⟩
theorem lk_6_2 : okJ "WingTrams$Log" false (65, 0, 31, [11, 1, 3, 0, 0]) := ⟨m_11, mtg_11, ⟨okM_11, tg3 40 (by decide +kernel) rfl, rfl, rfl, rfl, rfl, fun _ => ⟨(RX2, TX2, 5), by decide, rfl, rfl⟩⟩, rfl, by decide⟩
theorem lk_6_3 : okJ "WingTrams$Log" false (56, 0, 18, [2, 2]) := ⟨(RX2, TX2, 5), tyX2, rfl, rfl, okC2, by decide, tg2 51 (by decide +kernel) rfl⟩
theorem lk_6_4 : okJ "WingTrams$Log" false (65, 0, 34, [6, 3, 7, 0, 0]) := ⟨m_6, mtg_6, ⟨okM_6, tg3 45 (by decide +kernel) rfl, rfl, rfl, rfl, rfl, fun _ => ⟨(RX6, TX6, 1), by decide, rfl, rfl⟩⟩, rfl, by decide⟩
theorem lk_6_5 : okJ "WingTrams$Log" false (56, 0, 22, [2, 3]) := ⟨(RX2, TX2, 5), tyX2, rfl, rfl, okC2, by decide, tg2 54 (by decide +kernel) rfl⟩
theorem lk_6_6 : okJ "WingTrams$Log" false (56, 0, 25, [2, 4]) := ⟨(RX2, TX2, 5), tyX2, rfl, rfl, okC2, by decide, tg2 57 (by decide +kernel) rfl⟩
theorem lk_6_7 : okJ "WingTrams$Log" false (57, 0, 28, [2, 0, 0]) := ⟨(RX2, TX2, 5), tyX2, rfl, rfl, okC2, by decide, tg2 47 (by decide +kernel) rfl, rfl, fun h => (by cases h), Or.inl ⟨rfl, rfl⟩⟩
theorem lk_6_8 : okJ "WingTrams$Log" false (65, 0, 38, [5, 2, 7, 0, 0]) := ⟨m_5, mtg_5, ⟨okM_5, tg3 44 (by decide +kernel) rfl, rfl, rfl, rfl, rfl, fun _ => ⟨(RX6, TX6, 1), by decide, rfl, rfl⟩⟩, rfl, by decide⟩
theorem lk_6_9 : okJ "WingTrams$Log" false (65, 0, 42, [8, 2, 7, 0, 0]) := ⟨m_8, mtg_8, ⟨okM_8, tg3 227 (by decide +kernel) rfl, rfl, rfl, rfl, rfl, fun _ => ⟨(RX6, TX6, 1), by decide, rfl, rfl⟩⟩, rfl, by decide⟩
set_option maxRecDepth 100000 in
theorem LK_6_ok : ∀ q ∈ LK_6, okJ "WingTrams$Log" false q := List.forall_mem_cons.mpr ⟨lk_6_0, List.forall_mem_cons.mpr ⟨lk_6_1, List.forall_mem_cons.mpr ⟨lk_6_2, List.forall_mem_cons.mpr ⟨lk_6_3, List.forall_mem_cons.mpr ⟨lk_6_4, List.forall_mem_cons.mpr ⟨lk_6_5, List.forall_mem_cons.mpr ⟨lk_6_6, List.forall_mem_cons.mpr ⟨lk_6_7, List.forall_mem_cons.mpr ⟨lk_6_8, List.forall_mem_cons.mpr ⟨lk_6_9, fun _ h => absurd h List.not_mem_nil⟩⟩⟩⟩⟩⟩⟩⟩⟩⟩
def LK_7 : List dI := [(68, 0, 1, []), (79, 0, 7, [2, 1, 0]), (69, 0, 13, [6, 1]), (67, 0, 15, [4, 2, 0, 1, 1000]), (79, 0, 18, [2, 2, 3]), (79, 0, 22, [2, 3, 3]), (79, 0, 25, [2, 4, 3])]
theorem lk_7_0 : okJ "WingTrams$Log" true (68, 0, 1, []) := ⟨tg2 44 (by decide +kernel) rfl, tg1 32 (by decide +kernel) rfl, tg1 33 (by decide +kernel) rfl⟩
theorem lk_7_1 : okJ "WingTrams$Log" true (79, 0, 7, [2, 1, 0]) := ⟨(RX2, TX2, 5), tyX2, rfl, rfl, okC2, by decide, tg2 50 (by decide +kernel) rfl, rfl, fun h => rfl, Or.inl ⟨rfl, rfl⟩⟩
theorem lk_7_2 : okJ "WingTrams$Log" true (69, 0, 13, [6, 1]) := ⟨(RX6, TX6, 1), tyX6, rfl, rfl, okC6, rfl, tg2 45 (by decide +kernel) rfl⟩
theorem lk_7_3 : okJ "WingTrams$Log" true (67, 0, 15, [4, 2, 0, 1, 1000]) := ⟨m_4, mtg_4, ⟨okM_4, tg2 46 (by decide +kernel) rfl, rfl, rfl, rfl, rfl, fun h => absurd h (by decide)⟩, rfl⟩
theorem lk_7_4 : okJ "WingTrams$Log" true (79, 0, 18, [2, 2, 3]) := ⟨(RX2, TX2, 5), tyX2, rfl, rfl, okC2, by decide, tg2 51 (by decide +kernel) rfl, rfl, fun h => rfl, Or.inr (Or.inr (Or.inr ⟨rfl, fun _ => ⟨rfl, rfl⟩⟩))⟩
theorem lk_7_5 : okJ "WingTrams$Log" true (79, 0, 22, [2, 3, 3]) := ⟨(RX2, TX2, 5), tyX2, rfl, rfl, okC2, by decide, tg2 54 (by decide +kernel) rfl, rfl, fun h => rfl, Or.inr (Or.inr (Or.inr ⟨rfl, fun _ => ⟨rfl, rfl⟩⟩))⟩
theorem lk_7_6 : okJ "WingTrams$Log" true (79, 0, 25, [2, 4, 3]) := ⟨(RX2, TX2, 5), tyX2, rfl, rfl, okC2, by decide, tg2 57 (by decide +kernel) rfl, rfl, fun h => rfl, Or.inr (Or.inr (Or.inr ⟨rfl, fun _ => ⟨rfl, rfl⟩⟩))⟩
set_option maxRecDepth 100000 in
theorem LK_7_ok : ∀ q ∈ LK_7, okJ "WingTrams$Log" true q := List.forall_mem_cons.mpr ⟨lk_7_0, List.forall_mem_cons.mpr ⟨lk_7_1, List.forall_mem_cons.mpr ⟨lk_7_2, List.forall_mem_cons.mpr ⟨lk_7_3, List.forall_mem_cons.mpr ⟨lk_7_4, List.forall_mem_cons.mpr ⟨lk_7_5, List.forall_mem_cons.mpr ⟨lk_7_6, fun _ h => absurd h List.not_mem_nil⟩⟩⟩⟩⟩⟩⟩
def LK_8 : List dI := [(57, 0, 48, [3, 7, 0]), (56, 0, 9, [3, 0]), (56, 0, 52, [1, 0]), (56, 0, 27, [3, 3]), (56, 0, 57, [8, 4]), (65, 0, 62, [5, 2, 7, 0, 0]), (65, 0, 66, [6, 3, 7, 0, 0]), (56, 0, 70, [1, 2]), (56, 0, 30, [3, 4]), (56, 0, 33, [3, 5]), (56, 0, 39, [3, 8]), (65, 0, 73, [23, 2, 9, 0, 0]), (3, 2147483647, 77, []), (56, 0, 78, [8, 5]), (65, 0, 81, [69, 1, 4, 0, 0]), (65, 0, 85, [70, 3, 4, 0, 0]), (56, 0, 89, [1, 10]), (65, 0, 92, [71, 5, 4, 0, 0]), (56, 0, 20, [3, 1]), (56, 0, 24, [3, 2]), (56, 0, 36, [3, 6]), (56, 0, 48, [3, 7]), (56, 0, 96, [1, 9]), (65, 0, 99, [72, 4, 4, 0, 0]), (56, 0, 103, [8, 0]), (56, 0, 42, [3, 9]), (56, 0, 106, [1, 7]), (56, 0, 109, [8, 1]), (56, 0, 112, [8, 2]), (56, 0, 116, [1, 15]), (65, 0, 120, [18, 3, 8, 0, 0]), (66, 0, 126, [3, 2, 0, 0, 0]), (66, 0, 132, [2, 2, 0, 0, 0]), (65, 0, 135, [28, 3, 2, 0, 0]), (65, 0, 138, [73, 2, 4, 0, 0]), (56, 0, 45, [3, 10]), (65, 0, 141, [7, 2, 7, 0, 0]), (65, 0, 144, [76, 3, 4, 0, 0]), (56, 0, 147, [1, 4])]
theorem lk_8_0 : okJ "WingTrams$Night" false (57, 0, 48, [3, 7, 0]) := ⟨(RX3, TX3, 11), tyX3, rfl, rfl, okC3, by decide, tg2 109 (by decide +kernel) rfl, rfl, fun h => (by cases h), Or.inl ⟨rfl, rfl⟩⟩
theorem lk_8_1 : okJ "WingTrams$Night" false (56, 0, 9, [3, 0]) := ⟨(RX3, TX3, 11), tyX3, rfl, rfl, okC3, by decide, tg2 94 (by decide +kernel) rfl⟩
theorem lk_8_2 : okJ "WingTrams$Night" false (56, 0, 52, [1, 0]) := ⟨(RX1, TX1, 16), tyX1, rfl, rfl, okC1, by decide, tg1 81 (by decide +kernel) rfl⟩
theorem lk_8_3 : okJ "WingTrams$Night" false (56, 0, 27, [3, 3]) := ⟨(RX3, TX3, 11), tyX3, rfl, rfl, okC3, by decide, tg2 101 (by decide +kernel) rfl⟩
theorem lk_8_4 : okJ "WingTrams$Night" false (56, 0, 57, [8, 4]) := ⟨(RX8, TX8, 6), tyX8, rfl, rfl, okC8, by decide, tg2 19 (by decide +kernel) rfl⟩
theorem lk_8_5 : okJ "WingTrams$Night" false (65, 0, 62, [5, 2, 7, 0, 0]) := ⟨m_5, mtg_5, ⟨okM_5, tg3 72 (by decide +kernel) rfl, rfl, rfl, rfl, rfl, fun _ => ⟨(RX6, TX6, 1), by decide, rfl, rfl⟩⟩, rfl, by decide⟩
theorem lk_8_6 : okJ "WingTrams$Night" false (65, 0, 66, [6, 3, 7, 0, 0]) := ⟨m_6, mtg_6, ⟨okM_6, tg3 73 (by decide +kernel) rfl, rfl, rfl, rfl, rfl, fun _ => ⟨(RX6, TX6, 1), by decide, rfl, rfl⟩⟩, rfl, by decide⟩
theorem lk_8_7 : okJ "WingTrams$Night" false (56, 0, 70, [1, 2]) := ⟨(RX1, TX1, 16), tyX1, rfl, rfl, okC1, by decide, tg1 90 (by decide +kernel) rfl⟩
theorem lk_8_8 : okJ "WingTrams$Night" false (56, 0, 30, [3, 4]) := ⟨(RX3, TX3, 11), tyX3, rfl, rfl, okC3, by decide, tg2 103 (by decide +kernel) rfl⟩
theorem lk_8_9 : okJ "WingTrams$Night" false (56, 0, 33, [3, 5]) := ⟨(RX3, TX3, 11), tyX3, rfl, rfl, okC3, by decide, tg2 105 (by decide +kernel) rfl⟩
theorem lk_8_10 : okJ "WingTrams$Night" false (56, 0, 39, [3, 8]) := ⟨(RX3, TX3, 11), tyX3, rfl, rfl, okC3, by decide, tg2 111 (by decide +kernel) rfl⟩
theorem lk_8_11 : okJ "WingTrams$Night" false (65, 0, 73, [23, 2, 9, 0, 0]) := ⟨m_23, mtg_23, ⟨okM_23, tg3 74 (by decide +kernel) rfl, rfl, rfl, rfl, rfl, fun _ => ⟨(RX8, TX8, 6), by decide, rfl, rfl⟩⟩, rfl, by decide⟩
theorem lk_8_12 : okJ "WingTrams$Night" false (3, 2147483647, 77, []) := tg3 78 (by decide +kernel) rfl
theorem lk_8_13 : okJ "WingTrams$Night" false (56, 0, 78, [8, 5]) := ⟨(RX8, TX8, 6), tyX8, rfl, rfl, okC8, by decide, tg2 23 (by decide +kernel) rfl⟩
theorem lk_8_14 : okJ "WingTrams$Night" false (65, 0, 81, [69, 1, 4, 0, 0]) := ⟨m_69, mtg_69, ⟨okM_69, tg3 79 (by decide +kernel) rfl, rfl, rfl, rfl, rfl, fun _ => ⟨(RX3, TX3, 11), by decide, rfl, rfl⟩⟩, rfl, by decide⟩
theorem lk_8_15 : okJ "WingTrams$Night" false (65, 0, 85, [70, 3, 4, 0, 0]) := ⟨m_70, mtg_70, ⟨okM_70, tg3 83 (by decide +kernel) rfl, rfl, rfl, rfl, rfl, fun _ => ⟨(RX3, TX3, 11), by decide, rfl, rfl⟩⟩, rfl, by decide⟩
theorem lk_8_16 : okJ "WingTrams$Night" false (56, 0, 89, [1, 10]) := ⟨(RX1, TX1, 16), tyX1, rfl, rfl, okC1, by decide, tg1 122 (by decide +kernel) rfl⟩
theorem lk_8_17 : okJ "WingTrams$Night" false (65, 0, 92, [71, 5, 4, 0, 0]) := ⟨m_71, mtg_71, ⟨okM_71, tg3 87 (by decide +kernel) rfl, rfl, rfl, rfl, rfl, fun _ => ⟨(RX3, TX3, 11), by decide, rfl, rfl⟩⟩, rfl, by decide⟩
theorem lk_8_18 : okJ "WingTrams$Night" false (56, 0, 20, [3, 1]) := ⟨(RX3, TX3, 11), tyX3, rfl, rfl, okC3, by decide, tg2 95 (by decide +kernel) rfl⟩
theorem lk_8_19 : okJ "WingTrams$Night" false (56, 0, 24, [3, 2]) := ⟨(RX3, TX3, 11), tyX3, rfl, rfl, okC3, by decide, tg2 98 (by decide +kernel) rfl⟩
theorem lk_8_20 : okJ "WingTrams$Night" false (56, 0, 36, [3, 6]) := ⟨(RX3, TX3, 11), tyX3, rfl, rfl, okC3, by decide, tg2 107 (by decide +kernel) rfl⟩
theorem lk_8_21 : okJ "WingTrams$Night" false (56, 0, 48, [3, 7]) := ⟨(RX3, TX3, 11), tyX3, rfl, rfl, okC3, by decide, tg2 109 (by decide +kernel) rfl⟩
theorem lk_8_22 : okJ "WingTrams$Night" false (56, 0, 96, [1, 9]) := ⟨(RX1, TX1, 16), tyX1, rfl, rfl, okC1, by decide, tg1 117 (by decide +kernel) rfl⟩
theorem lk_8_23 : okJ "WingTrams$Night" false (65, 0, 99, [72, 4, 4, 0, 0]) := ⟨m_72, mtg_72, ⟨okM_72, tg3 106 (by decide +kernel) rfl, rfl, rfl, rfl, rfl, fun _ => ⟨(RX3, TX3, 11), by decide, rfl, rfl⟩⟩, rfl, by decide⟩
theorem lk_8_24 : okJ "WingTrams$Night" false (56, 0, 103, [8, 0]) := ⟨(RX8, TX8, 6), tyX8, rfl, rfl, okC8, by decide, tg2 5 (by decide +kernel) rfl⟩
theorem lk_8_25 : okJ "WingTrams$Night" false (56, 0, 42, [3, 9]) := ⟨(RX3, TX3, 11), tyX3, rfl, rfl, okC3, by decide, tg2 112 (by decide +kernel) rfl⟩
theorem lk_8_26 : okJ "WingTrams$Night" false (56, 0, 106, [1, 7]) := ⟨(RX1, TX1, 16), tyX1, rfl, rfl, okC1, by decide, tg1 109 (by decide +kernel) rfl⟩
theorem lk_8_27 : okJ "WingTrams$Night" false (56, 0, 109, [8, 1]) := ⟨(RX8, TX8, 6), tyX8, rfl, rfl, okC8, by decide, tg2 9 (by decide +kernel) rfl⟩
theorem lk_8_28 : okJ "WingTrams$Night" false (56, 0, 112, [8, 2]) := ⟨(RX8, TX8, 6), tyX8, rfl, rfl, okC8, by decide, tg2 13 (by decide +kernel) rfl⟩
theorem lk_8_29 : okJ "WingTrams$Night" false (56, 0, 116, [1, 15]) := ⟨(RX1, TX1, 16), tyX1, rfl, rfl, okC1, by decide, tg1 143 (by decide +kernel) rfl⟩
theorem lk_8_30 : okJ "WingTrams$Night" false (65, 0, 120, [18, 3, 8, 0, 0]) := ⟨m_18, mtg_18, ⟨okM_18, tg3 91 (by decide +kernel) rfl, rfl, rfl, rfl, rfl, fun _ => ⟨(RX7, TX7, 5), by decide, rfl, rfl⟩⟩, rfl, by decide⟩
theorem lk_8_31 : okJ "WingTrams$Night" false (66, 0, 126, [3, 2, 0, 0, 0]) := ⟨m_3, mtg_3, ⟨okM_3, tg3 100 (by decide +kernel) rfl, rfl, rfl, rfl, rfl, fun h => absurd h (by decide)⟩, rfl⟩
theorem lk_8_32 : okJ "WingTrams$Night" false (66, 0, 132, [2, 2, 0, 0, 0]) := ⟨m_2, mtg_2, ⟨okM_2, tg3 103 (by decide +kernel) rfl, rfl, rfl, rfl, rfl, fun h => absurd h (by decide)⟩, rfl⟩
theorem lk_8_33 : okJ "WingTrams$Night" false (65, 0, 135, [28, 3, 2, 0, 0]) := ⟨m_28, mtg_28, ⟨okM_28, tg3 110 (by decide +kernel) rfl, rfl, rfl, rfl, rfl, fun _ => ⟨(RX1, TX1, 16), by decide, rfl, rfl⟩⟩, rfl, by decide⟩
theorem lk_8_34 : okJ "WingTrams$Night" false (65, 0, 138, [73, 2, 4, 0, 0]) := ⟨m_73, mtg_73, ⟨okM_73, tg3 179 (by decide +kernel) rfl, rfl, rfl, rfl, rfl, fun _ => ⟨(RX3, TX3, 11), by decide, rfl, rfl⟩⟩, rfl, by decide⟩
theorem lk_8_35 : okJ "WingTrams$Night" false (56, 0, 45, [3, 10]) := ⟨(RX3, TX3, 11), tyX3, rfl, rfl, okC3, by decide, tg2 113 (by decide +kernel) rfl⟩
theorem lk_8_36 : okJ "WingTrams$Night" false (65, 0, 141, [7, 2, 7, 0, 0]) := ⟨m_7, mtg_7, ⟨okM_7, tg5 158 (by decide +kernel) rfl, rfl, rfl, rfl, rfl, fun _ => ⟨(RX6, TX6, 1), by decide, rfl, rfl⟩⟩, rfl, by decide⟩
theorem lk_8_37 : okJ "WingTrams$Night" false (65, 0, 144, [76, 3, 4, 0, 0]) := ⟨m_76, mtg_76, ⟨okM_76, tg5 159 (by decide +kernel) rfl, rfl, rfl, rfl, rfl, fun _ => ⟨(RX3, TX3, 11), by decide, rfl, rfl⟩⟩, rfl, by decide⟩
theorem lk_8_38 : okJ "WingTrams$Night" false (56, 0, 147, [1, 4]) := ⟨(RX1, TX1, 16), tyX1, rfl, rfl, okC1, by decide, tg1 102 (by decide +kernel) rfl⟩
set_option maxRecDepth 100000 in
theorem LK_8_ok : ∀ q ∈ LK_8, okJ "WingTrams$Night" false q := List.forall_mem_cons.mpr ⟨lk_8_0, List.forall_mem_cons.mpr ⟨lk_8_1, List.forall_mem_cons.mpr ⟨lk_8_2, List.forall_mem_cons.mpr ⟨lk_8_3, List.forall_mem_cons.mpr ⟨lk_8_4, List.forall_mem_cons.mpr ⟨lk_8_5, List.forall_mem_cons.mpr ⟨lk_8_6, List.forall_mem_cons.mpr ⟨lk_8_7, List.forall_mem_cons.mpr ⟨lk_8_8, List.forall_mem_cons.mpr ⟨lk_8_9, List.forall_mem_cons.mpr ⟨lk_8_10, List.forall_mem_cons.mpr ⟨lk_8_11, List.forall_mem_cons.mpr ⟨lk_8_12, List.forall_mem_cons.mpr ⟨lk_8_13, List.forall_mem_cons.mpr ⟨lk_8_14, List.forall_mem_cons.mpr ⟨lk_8_15, List.forall_mem_cons.mpr ⟨lk_8_16, List.forall_mem_cons.mpr ⟨lk_8_17, List.forall_mem_cons.mpr ⟨lk_8_18, List.forall_mem_cons.mpr ⟨lk_8_19, List.forall_mem_cons.mpr ⟨lk_8_20, List.forall_mem_cons.mpr ⟨lk_8_21, List.forall_mem_cons.mpr ⟨lk_8_22, List.forall_mem_cons.mpr ⟨lk_8_23, List.forall_mem_cons.mpr ⟨lk_8_24, List.forall_mem_cons.mpr ⟨lk_8_25, List.forall_mem_cons.mpr ⟨lk_8_26, List.forall_mem_cons.mpr ⟨lk_8_27, List.forall_mem_cons.mpr ⟨lk_8_28, List.forall_mem_cons.mpr ⟨lk_8_29, List.forall_mem_cons.mpr ⟨lk_8_30, List.forall_mem_cons.mpr ⟨lk_8_31, List.forall_mem_cons.mpr ⟨lk_8_32, List.forall_mem_cons.mpr ⟨lk_8_33, List.forall_mem_cons.mpr ⟨lk_8_34, List.forall_mem_cons.mpr ⟨lk_8_35, List.forall_mem_cons.mpr ⟨lk_8_36, List.forall_mem_cons.mpr ⟨lk_8_37, List.forall_mem_cons.mpr ⟨lk_8_38, fun _ h => absurd h List.not_mem_nil⟩⟩⟩⟩⟩⟩⟩⟩⟩⟩⟩⟩⟩⟩⟩⟩⟩⟩⟩⟩⟩⟩⟩⟩⟩⟩⟩⟩⟩⟩⟩⟩⟩⟩⟩⟩⟩⟩⟩
def LK_9 : List dI := [(68, 0, 3, []), (79, 0, 9, [3, 0, 3]), (69, 0, 15, [6, 1]), (67, 0, 17, [4, 2, 0, 1, 1000]), (79, 0, 20, [3, 1, 3]), (79, 0, 24, [3, 2, 3]), (79, 0, 27, [3, 3, 3]), (79, 0, 30, [3, 4, 3]), (79, 0, 33, [3, 5, 3]), (79, 0, 36, [3, 6, 3]), (79, 0, 39, [3, 8, 3]), (79, 0, 42, [3, 9, 3]), (79, 0, 45, [3, 10, 3])]
theorem lk_9_0 : okJ "WingTrams$Night" true (68, 0, 3, []) := ⟨tg2 91 (by decide +kernel) rfl, tg1 32 (by decide +kernel) rfl, tg1 33 (by decide +kernel) rfl⟩
theorem lk_9_1 : okJ "WingTrams$Night" true (79, 0, 9, [3, 0, 3]) := ⟨(RX3, TX3, 11), tyX3, rfl, rfl, okC3, by decide, tg2 94 (by decide +kernel) rfl, rfl, fun h => rfl, Or.inr (Or.inr (Or.inr ⟨rfl, fun _ => ⟨rfl, rfl⟩⟩))⟩
theorem lk_9_2 : okJ "WingTrams$Night" true (69, 0, 15, [6, 1]) := ⟨(RX6, TX6, 1), tyX6, rfl, rfl, okC6, rfl, tg2 92 (by decide +kernel) rfl⟩
theorem lk_9_3 : okJ "WingTrams$Night" true (67, 0, 17, [4, 2, 0, 1, 1000]) := ⟨m_4, mtg_4, ⟨okM_4, tg2 93 (by decide +kernel) rfl, rfl, rfl, rfl, rfl, fun h => absurd h (by decide)⟩, rfl⟩
theorem lk_9_4 : okJ "WingTrams$Night" true (79, 0, 20, [3, 1, 3]) := ⟨(RX3, TX3, 11), tyX3, rfl, rfl, okC3, by decide, tg2 95 (by decide +kernel) rfl, rfl, fun h => rfl, Or.inr (Or.inr (Or.inr ⟨rfl, fun _ => ⟨rfl, rfl⟩⟩))⟩
theorem lk_9_5 : okJ "WingTrams$Night" true (79, 0, 24, [3, 2, 3]) := ⟨(RX3, TX3, 11), tyX3, rfl, rfl, okC3, by decide, tg2 98 (by decide +kernel) rfl, rfl, fun h => rfl, Or.inr (Or.inr (Or.inr ⟨rfl, fun _ => ⟨rfl, rfl⟩⟩))⟩
theorem lk_9_6 : okJ "WingTrams$Night" true (79, 0, 27, [3, 3, 3]) := ⟨(RX3, TX3, 11), tyX3, rfl, rfl, okC3, by decide, tg2 101 (by decide +kernel) rfl, rfl, fun h => rfl, Or.inr (Or.inr (Or.inr ⟨rfl, fun _ => ⟨rfl, rfl⟩⟩))⟩
theorem lk_9_7 : okJ "WingTrams$Night" true (79, 0, 30, [3, 4, 3]) := ⟨(RX3, TX3, 11), tyX3, rfl, rfl, okC3, by decide, tg2 103 (by decide +kernel) rfl, rfl, fun h => rfl, Or.inr (Or.inr (Or.inr ⟨rfl, fun _ => ⟨rfl, rfl⟩⟩))⟩
theorem lk_9_8 : okJ "WingTrams$Night" true (79, 0, 33, [3, 5, 3]) := ⟨(RX3, TX3, 11), tyX3, rfl, rfl, okC3, by decide, tg2 105 (by decide +kernel) rfl, rfl, fun h => rfl, Or.inr (Or.inr (Or.inr ⟨rfl, fun _ => ⟨rfl, rfl⟩⟩))⟩
theorem lk_9_9 : okJ "WingTrams$Night" true (79, 0, 36, [3, 6, 3]) := ⟨(RX3, TX3, 11), tyX3, rfl, rfl, okC3, by decide, tg2 107 (by decide +kernel) rfl, rfl, fun h => rfl, Or.inr (Or.inr (Or.inr ⟨rfl, fun _ => ⟨rfl, rfl⟩⟩))⟩
theorem lk_9_10 : okJ "WingTrams$Night" true (79, 0, 39, [3, 8, 3]) := ⟨(RX3, TX3, 11), tyX3, rfl, rfl, okC3, by decide, tg2 111 (by decide +kernel) rfl, rfl, fun h => rfl, Or.inr (Or.inr (Or.inr ⟨rfl, fun _ => ⟨rfl, rfl⟩⟩))⟩
theorem lk_9_11 : okJ "WingTrams$Night" true (79, 0, 42, [3, 9, 3]) := ⟨(RX3, TX3, 11), tyX3, rfl, rfl, okC3, by decide, tg2 112 (by decide +kernel) rfl, rfl, fun h => rfl, Or.inr (Or.inr (Or.inr ⟨rfl, fun _ => ⟨rfl, rfl⟩⟩))⟩
theorem lk_9_12 : okJ "WingTrams$Night" true (79, 0, 45, [3, 10, 3]) := ⟨(RX3, TX3, 11), tyX3, rfl, rfl, okC3, by decide, tg2 113 (by decide +kernel) rfl, rfl, fun h => rfl, Or.inr (Or.inr (Or.inr ⟨rfl, fun _ => ⟨rfl, rfl⟩⟩))⟩
set_option maxRecDepth 100000 in
theorem LK_9_ok : ∀ q ∈ LK_9, okJ "WingTrams$Night" true q := List.forall_mem_cons.mpr ⟨lk_9_0, List.forall_mem_cons.mpr ⟨lk_9_1, List.forall_mem_cons.mpr ⟨lk_9_2, List.forall_mem_cons.mpr ⟨lk_9_3, List.forall_mem_cons.mpr ⟨lk_9_4, List.forall_mem_cons.mpr ⟨lk_9_5, List.forall_mem_cons.mpr ⟨lk_9_6, List.forall_mem_cons.mpr ⟨lk_9_7, List.forall_mem_cons.mpr ⟨lk_9_8, List.forall_mem_cons.mpr ⟨lk_9_9, List.forall_mem_cons.mpr ⟨lk_9_10, List.forall_mem_cons.mpr ⟨lk_9_11, List.forall_mem_cons.mpr ⟨lk_9_12, fun _ h => absurd h List.not_mem_nil⟩⟩⟩⟩⟩⟩⟩⟩⟩⟩⟩⟩⟩
def LK_10 : List dI := [(56, 0, 15, [4, 1]), (65, 0, 19, [25, 1, 2, 0, 0]), (57, 0, 24, [4, 2, 0]), (57, 0, 28, [4, 3, 0]), (57, 0, 31, [4, 4, 0]), (57, 0, 34, [4, 5, 1]), (65, 0, 38, [47, 1, 5, 0, 0]), (65, 0, 42, [50, 1, 5, 0, 0]), (65, 0, 46, [49, 2, 5, 0, 0]), (56, 0, 28, [4, 3]), (56, 0, 9, [4, 0]), (56, 0, 50, [10, 0]), (56, 0, 24, [4, 2]), (65, 0, 56, [5, 2, 7, 0, 0]), (56, 0, 61, [10, 1]), (65, 0, 64, [48, 2, 5, 0, 0]), (65, 0, 67, [51, 1, 5, 0, 0]), (65, 0, 70, [52, 1, 5, 0, 0]), (65, 0, 73, [53, 2, 5, 0, 0]), (65, 0, 76, [55, 1, 5, 0, 0]), (65, 0, 79, [56, 1, 5, 0, 0]), (65, 0, 82, [59, 1, 5, 0, 0]), (56, 0, 85, [1, 0]), (65, 0, 88, [57, 3, 5, 0, 0]), (56, 0, 92, [1, 5]), (65, 0, 95, [6, 3, 7, 0, 0]), (57, 0, 85, [1, 0, 0]), (56, 0, 99, [1, 1]), (65, 0, 102, [58, 1, 5, 0, 0]), (65, 0, 105, [28, 3, 2, 0, 0]), (65, 0, 108, [27, 4, 2, 0, 0]), (56, 0, 112, [1, 2]), (65, 0, 115, [54, 2, 5, 0, 0]), (56, 0, 118, [1, 7]), (56, 0, 121, [1, 8]), (57, 0, 112, [1, 2, 0]), (56, 0, 124, [1, 9]), (56, 0, 127, [1, 10]), (56, 0, 130, [1, 3]), (56, 0, 133, [1, 11]), (56, 0, 136, [1, 12]), (56, 0, 139, [1, 13]), (56, 0, 142, [1, 14]), (57, 0, 130, [1, 3, 0]), (56, 0, 34, [4, 5]), (57, 0, 145, [1, 4, 0]), (56, 0, 145, [1, 4]), (56, 0, 148, [10, 2]), (56, 0, 151, [1, 15]), (56, 0, 155, [7, 0]), (65, 0, 160, [60, 2, 5, 0, 0]), (65, 0, 163, [17, 1, 8, 0, 0]), (65, 0, 166, [61, 2, 5, 0, 0]), (65, 0, 169, [16, 2, 8, 0, 0]), (65, 0, 173, [62, 2, 5, 0, 0]), (65, 0, 176, [63, 2, 5, 0, 0]), (65, 0, 179, [64, 2, 5, 0, 0]), (65, 0, 182, [65, 2, 5, 0, 0]), (65, 0, 185, [66, 2, 5, 0, 0])]
theorem lk_10_0 : okJ "WingTrams$Reader" false (56, 0, 15, [4, 1]) := ⟨(RX4, TX4, 6), tyX4, rfl, rfl, okC4, by decide, tg1 210 (by decide +kernel) rfl⟩
theorem lk_10_1 : okJ "WingTrams$Reader" false (65, 0, 19, [25, 1, 2, 0, 0]) := ⟨m_25, mtg_25, ⟨okM_25, tg4 204 (by decide +kernel) rfl, rfl, rfl, rfl, rfl, fun _ => ⟨(RX1, TX1, 16), by decide, rfl, rfl⟩⟩, rfl, by decide⟩
theorem lk_10_2 : okJ "WingTrams$Reader" false (57, 0, 24, [4, 2, 0]) := ⟨(RX4, TX4, 6), tyX4, rfl, rfl, okC4, by decide, tg1 211 (by decide +kernel) rfl, rfl, fun h => (by cases h), Or.inl ⟨rfl, rfl⟩⟩
theorem lk_10_3 : okJ "WingTrams$Reader" false (57, 0, 28, [4, 3, 0]) := ⟨(RX4, TX4, 6), tyX4, rfl, rfl, okC4, by decide, tg1 212 (by decide +kernel) rfl, rfl, fun h => (by cases h), Or.inl ⟨rfl, rfl⟩⟩
theorem lk_10_4 : okJ "WingTrams$Reader" false (57, 0, 31, [4, 4, 0]) := ⟨(RX4, TX4, 6), tyX4, rfl, rfl, okC4, by decide, tg1 213 (by decide +kernel) rfl, rfl, fun h => (by cases h), Or.inl ⟨rfl, rfl⟩⟩
theorem lk_10_5 : okJ "WingTrams$Reader" false (57, 0, 34, [4, 5, 1]) := ⟨(RX4, TX4, 6), tyX4, rfl, rfl, okC4, by decide, tg1 215 (by decide +kernel) rfl, rfl, fun h => (by cases h), Or.inr (Or.inl ⟨rfl, rfl⟩)⟩
theorem lk_10_6 : okJ "WingTrams$Reader" false (65, 0, 38, [47, 1, 5, 0, 0]) := ⟨m_47, mtg_47, ⟨okM_47, tg4 213 (by decide +kernel) rfl, rfl, rfl, rfl, rfl, fun _ => ⟨(RX4, TX4, 6), by decide, rfl, rfl⟩⟩, rfl, by decide⟩
theorem lk_10_7 : okJ "WingTrams$Reader" false (65, 0, 42, [50, 1, 5, 0, 0]) := ⟨m_50, mtg_50, ⟨okM_50, tg4 218 (by decide +kernel) rfl, rfl, rfl, rfl, rfl, fun _ => ⟨(RX4, TX4, 6), by decide, rfl, rfl⟩⟩, rfl, by decide⟩
theorem lk_10_8 : okJ "WingTrams$Reader" false (65, 0, 46, [49, 2, 5, 0, 0]) := ⟨m_49, mtg_49, ⟨okM_49, tg5 57 (by decide +kernel) rfl, rfl, rfl, rfl, rfl, fun _ => ⟨(RX4, TX4, 6), by decide, rfl, rfl⟩⟩, rfl, by decide⟩
theorem lk_10_9 : okJ "WingTrams$Reader" false (56, 0, 28, [4, 3]) := ⟨(RX4, TX4, 6), tyX4, rfl, rfl, okC4, by decide, tg1 212 (by decide +kernel) rfl⟩
theorem lk_10_10 : okJ "WingTrams$Reader" false (56, 0, 9, [4, 0]) := ⟨(RX4, TX4, 6), tyX4, rfl, rfl, okC4, by decide, tg1 209 (by decide +kernel) rfl⟩
theorem lk_10_11 : okJ "WingTrams$Reader" false (56, 0, 50, [10, 0]) := ⟨(RX10, TX10, 4), tyX10, rfl, rfl, okC10, by decide, tg1 188 (by decide +kernel) rfl⟩
theorem lk_10_12 : okJ "WingTrams$Reader" false (56, 0, 24, [4, 2]) := ⟨(RX4, TX4, 6), tyX4, rfl, rfl, okC4, by decide, tg1 211 (by decide +kernel) rfl⟩
theorem lk_10_13 : okJ "WingTrams$Reader" false (65, 0, 56, [5, 2, 7, 0, 0]) := ⟨m_5, mtg_5, ⟨okM_5, tg4 217 (by decide +kernel) rfl, rfl, rfl, rfl, rfl, fun _ => ⟨(RX6, TX6, 1), by decide, rfl, rfl⟩⟩, rfl, by decide⟩
theorem lk_10_14 : okJ "WingTrams$Reader" false (56, 0, 61, [10, 1]) := ⟨(RX10, TX10, 4), tyX10, rfl, rfl, okC10, by decide, tg1 190 (by decide +kernel) rfl⟩
theorem lk_10_15 : okJ "WingTrams$Reader" false (65, 0, 64, [48, 2, 5, 0, 0]) := ⟨m_48, mtg_48, ⟨okM_48, tg4 226 (by decide +kernel) rfl, rfl, rfl, rfl, rfl, fun _ => ⟨(RX4, TX4, 6), by decide, rfl, rfl⟩⟩, rfl, by decide⟩
theorem lk_10_16 : okJ "WingTrams$Reader" false (65, 0, 67, [51, 1, 5, 0, 0]) := ⟨m_51, mtg_51, ⟨okM_51, tg4 222 (by decide +kernel) rfl, rfl, rfl, rfl, rfl, fun _ => ⟨(RX4, TX4, 6), by decide, rfl, rfl⟩⟩, rfl, by decide⟩
theorem lk_10_17 : okJ "WingTrams$Reader" false (65, 0, 70, [52, 1, 5, 0, 0]) := ⟨m_52, mtg_52, ⟨okM_52, tg4 235 (by decide +kernel) rfl, rfl, rfl, rfl, rfl, fun _ => ⟨(RX4, TX4, 6), by decide, rfl, rfl⟩⟩, rfl, by decide⟩
theorem lk_10_18 : okJ "WingTrams$Reader" false (65, 0, 73, [53, 2, 5, 0, 0]) := ⟨m_53, mtg_53, ⟨okM_53, tg5 9 (by decide +kernel) rfl, rfl, rfl, rfl, rfl, fun _ => ⟨(RX4, TX4, 6), by decide, rfl, rfl⟩⟩, rfl, by decide⟩
theorem lk_10_19 : okJ "WingTrams$Reader" false (65, 0, 76, [55, 1, 5, 0, 0]) := ⟨m_55, mtg_55, ⟨okM_55, tg5 17 (by decide +kernel) rfl, rfl, rfl, rfl, rfl, fun _ => ⟨(RX4, TX4, 6), by decide, rfl, rfl⟩⟩, rfl, by decide⟩
theorem lk_10_20 : okJ "WingTrams$Reader" false (65, 0, 79, [56, 1, 5, 0, 0]) := ⟨m_56, mtg_56, ⟨okM_56, tg5 21 (by decide +kernel) rfl, rfl, rfl, rfl, rfl, fun _ => ⟨(RX4, TX4, 6), by decide, rfl, rfl⟩⟩, rfl, by decide⟩
theorem lk_10_21 : okJ "WingTrams$Reader" false (65, 0, 82, [59, 1, 5, 0, 0]) := ⟨m_59, mtg_59, ⟨okM_59, tg5 25 (by decide +kernel) rfl, rfl, rfl, rfl, rfl, fun _ => ⟨(RX4, TX4, 6), by decide, rfl, rfl⟩⟩, rfl, by decide⟩
theorem lk_10_22 : okJ "WingTrams$Reader" false (56, 0, 85, [1, 0]) := ⟨(RX1, TX1, 16), tyX1, rfl, rfl, okC1, by decide, tg1 85 (by decide +kernel) rfl⟩
theorem lk_10_23 : okJ "WingTrams$Reader" false (65, 0, 88, [57, 3, 5, 0, 0]) := ⟨m_57, mtg_57, ⟨okM_57, tg4 230 (by decide +kernel) rfl, rfl, rfl, rfl, rfl, fun _ => ⟨(RX4, TX4, 6), by decide, rfl, rfl⟩⟩, rfl, by decide⟩
theorem lk_10_24 : okJ "WingTrams$Reader" false (56, 0, 92, [1, 5]) := ⟨(RX1, TX1, 16), tyX1, rfl, rfl, okC1, by decide, tg1 106 (by decide +kernel) rfl⟩
theorem lk_10_25 : okJ "WingTrams$Reader" false (65, 0, 95, [6, 3, 7, 0, 0]) := ⟨m_6, mtg_6, ⟨okM_6, tg4 234 (by decide +kernel) rfl, rfl, rfl, rfl, rfl, fun _ => ⟨(RX6, TX6, 1), by decide, rfl, rfl⟩⟩, rfl, by decide⟩
theorem lk_10_26 : okJ "WingTrams$Reader" false (57, 0, 85, [1, 0, 0]) := ⟨(RX1, TX1, 16), tyX1, rfl, rfl, okC1, by decide, tg1 85 (by decide +kernel) rfl, rfl, fun h => (by cases h), Or.inl ⟨rfl, rfl⟩⟩
theorem lk_10_27 : okJ "WingTrams$Reader" false (56, 0, 99, [1, 1]) := ⟨(RX1, TX1, 16), tyX1, rfl, rfl, okC1, by decide, tg1 88 (by decide +kernel) rfl⟩
theorem lk_10_28 : okJ "WingTrams$Reader" false (65, 0, 102, [58, 1, 5, 0, 0]) := ⟨m_58, mtg_58, ⟨okM_58, tg4 239 (by decide +kernel) rfl, rfl, rfl, rfl, rfl, fun _ => ⟨(RX4, TX4, 6), by decide, rfl, rfl⟩⟩, rfl, by decide⟩
theorem lk_10_29 : okJ "WingTrams$Reader" false (65, 0, 105, [28, 3, 2, 0, 0]) := ⟨m_28, mtg_28, ⟨okM_28, tg5 3 (by decide +kernel) rfl, rfl, rfl, rfl, rfl, fun _ => ⟨(RX1, TX1, 16), by decide, rfl, rfl⟩⟩, rfl, by decide⟩
theorem lk_10_30 : okJ "WingTrams$Reader" false (65, 0, 108, [27, 4, 2, 0, 0]) := ⟨m_27, mtg_27, ⟨okM_27, tg5 4 (by decide +kernel) rfl, rfl, rfl, rfl, rfl, fun _ => ⟨(RX1, TX1, 16), by decide, rfl, rfl⟩⟩, rfl, by decide⟩
theorem lk_10_31 : okJ "WingTrams$Reader" false (56, 0, 112, [1, 2]) := ⟨(RX1, TX1, 16), tyX1, rfl, rfl, okC1, by decide, tg1 93 (by decide +kernel) rfl⟩
theorem lk_10_32 : okJ "WingTrams$Reader" false (65, 0, 115, [54, 2, 5, 0, 0]) := ⟨m_54, mtg_54, ⟨okM_54, tg5 13 (by decide +kernel) rfl, rfl, rfl, rfl, rfl, fun _ => ⟨(RX4, TX4, 6), by decide, rfl, rfl⟩⟩, rfl, by decide⟩
theorem lk_10_33 : okJ "WingTrams$Reader" false (56, 0, 118, [1, 7]) := ⟨(RX1, TX1, 16), tyX1, rfl, rfl, okC1, by decide, tg1 111 (by decide +kernel) rfl⟩
theorem lk_10_34 : okJ "WingTrams$Reader" false (56, 0, 121, [1, 8]) := ⟨(RX1, TX1, 16), tyX1, rfl, rfl, okC1, by decide, tg1 115 (by decide +kernel) rfl⟩
theorem lk_10_35 : okJ "WingTrams$Reader" false (57, 0, 112, [1, 2, 0]) := ⟨(RX1, TX1, 16), tyX1, rfl, rfl, okC1, by decide, tg1 93 (by decide +kernel) rfl, rfl, fun h => (by cases h), Or.inl ⟨rfl, rfl⟩⟩
theorem lk_10_36 : okJ "WingTrams$Reader" false (56, 0, 124, [1, 9]) := ⟨(RX1, TX1, 16), tyX1, rfl, rfl, okC1, by decide, tg1 119 (by decide +kernel) rfl⟩
theorem lk_10_37 : okJ "WingTrams$Reader" false (56, 0, 127, [1, 10]) := ⟨(RX1, TX1, 16), tyX1, rfl, rfl, okC1, by decide, tg1 124 (by decide +kernel) rfl⟩
theorem lk_10_38 : okJ "WingTrams$Reader" false (56, 0, 130, [1, 3]) := ⟨(RX1, TX1, 16), tyX1, rfl, rfl, okC1, by decide, tg1 98 (by decide +kernel) rfl⟩
theorem lk_10_39 : okJ "WingTrams$Reader" false (56, 0, 133, [1, 11]) := ⟨(RX1, TX1, 16), tyX1, rfl, rfl, okC1, by decide, tg1 128 (by decide +kernel) rfl⟩
theorem lk_10_40 : okJ "WingTrams$Reader" false (56, 0, 136, [1, 12]) := ⟨(RX1, TX1, 16), tyX1, rfl, rfl, okC1, by decide, tg1 133 (by decide +kernel) rfl⟩
theorem lk_10_41 : okJ "WingTrams$Reader" false (56, 0, 139, [1, 13]) := ⟨(RX1, TX1, 16), tyX1, rfl, rfl, okC1, by decide, tg1 137 (by decide +kernel) rfl⟩
theorem lk_10_42 : okJ "WingTrams$Reader" false (56, 0, 142, [1, 14]) := ⟨(RX1, TX1, 16), tyX1, rfl, rfl, okC1, by decide, tg1 140 (by decide +kernel) rfl⟩
theorem lk_10_43 : okJ "WingTrams$Reader" false (57, 0, 130, [1, 3, 0]) := ⟨(RX1, TX1, 16), tyX1, rfl, rfl, okC1, by decide, tg1 98 (by decide +kernel) rfl, rfl, fun h => (by cases h), Or.inl ⟨rfl, rfl⟩⟩
theorem lk_10_44 : okJ "WingTrams$Reader" false (56, 0, 34, [4, 5]) := ⟨(RX4, TX4, 6), tyX4, rfl, rfl, okC4, by decide, tg1 215 (by decide +kernel) rfl⟩
theorem lk_10_45 : okJ "WingTrams$Reader" false (57, 0, 145, [1, 4, 0]) := ⟨(RX1, TX1, 16), tyX1, rfl, rfl, okC1, by decide, tg1 103 (by decide +kernel) rfl, rfl, fun h => (by cases h), Or.inl ⟨rfl, rfl⟩⟩
theorem lk_10_46 : okJ "WingTrams$Reader" false (56, 0, 145, [1, 4]) := ⟨(RX1, TX1, 16), tyX1, rfl, rfl, okC1, by decide, tg1 103 (by decide +kernel) rfl⟩
theorem lk_10_47 : okJ "WingTrams$Reader" false (56, 0, 148, [10, 2]) := ⟨(RX10, TX10, 4), tyX10, rfl, rfl, okC10, by decide, tg1 192 (by decide +kernel) rfl⟩
theorem lk_10_48 : okJ "WingTrams$Reader" false (56, 0, 151, [1, 15]) := ⟨(RX1, TX1, 16), tyX1, rfl, rfl, okC1, by decide, tg1 145 (by decide +kernel) rfl⟩
theorem lk_10_49 : okJ "WingTrams$Reader" false (56, 0, 155, [7, 0]) := ⟨(RX7, TX7, 5), tyX7, rfl, rfl, okC7, by decide, tg1 64 (by decide +kernel) rfl⟩
theorem lk_10_50 : okJ "WingTrams$Reader" false (65, 0, 160, [60, 2, 5, 0, 0]) := ⟨m_60, mtg_60, ⟨okM_60, tg5 29 (by decide +kernel) rfl, rfl, rfl, rfl, rfl, fun _ => ⟨(RX4, TX4, 6), by decide, rfl, rfl⟩⟩, rfl, by decide⟩
theorem lk_10_51 : okJ "WingTrams$Reader" false (65, 0, 163, [17, 1, 8, 0, 0]) := ⟨m_17, mtg_17, ⟨okM_17, tg5 65 (by decide +kernel) rfl, rfl, rfl, rfl, rfl, fun _ => ⟨(RX7, TX7, 5), by decide, rfl, rfl⟩⟩, rfl, by decide⟩
theorem lk_10_52 : okJ "WingTrams$Reader" false (65, 0, 166, [61, 2, 5, 0, 0]) := ⟨m_61, mtg_61, ⟨okM_61, tg5 33 (by decide +kernel) rfl, rfl, rfl, rfl, rfl, fun _ => ⟨(RX4, TX4, 6), by decide, rfl, rfl⟩⟩, rfl, by decide⟩
theorem lk_10_53 : okJ "WingTrams$Reader" false (65, 0, 169, [16, 2, 8, 0, 0]) := ⟨m_16, mtg_16, ⟨okM_16, tg5 61 (by decide +kernel) rfl, rfl, rfl, rfl, rfl, fun _ => ⟨(RX7, TX7, 5), by decide, rfl, rfl⟩⟩, rfl, by decide⟩
theorem lk_10_54 : okJ "WingTrams$Reader" false (65, 0, 173, [62, 2, 5, 0, 0]) := ⟨m_62, mtg_62, ⟨okM_62, tg5 37 (by decide +kernel) rfl, rfl, rfl, rfl, rfl, fun _ => ⟨(RX4, TX4, 6), by decide, rfl, rfl⟩⟩, rfl, by decide⟩
theorem lk_10_55 : okJ "WingTrams$Reader" false (65, 0, 176, [63, 2, 5, 0, 0]) := ⟨m_63, mtg_63, ⟨okM_63, tg5 41 (by decide +kernel) rfl, rfl, rfl, rfl, rfl, fun _ => ⟨(RX4, TX4, 6), by decide, rfl, rfl⟩⟩, rfl, by decide⟩
theorem lk_10_56 : okJ "WingTrams$Reader" false (65, 0, 179, [64, 2, 5, 0, 0]) := ⟨m_64, mtg_64, ⟨okM_64, tg5 45 (by decide +kernel) rfl, rfl, rfl, rfl, rfl, fun _ => ⟨(RX4, TX4, 6), by decide, rfl, rfl⟩⟩, rfl, by decide⟩
theorem lk_10_57 : okJ "WingTrams$Reader" false (65, 0, 182, [65, 2, 5, 0, 0]) := ⟨m_65, mtg_65, ⟨okM_65, tg5 49 (by decide +kernel) rfl, rfl, rfl, rfl, rfl, fun _ => ⟨(RX4, TX4, 6), by decide, rfl, rfl⟩⟩, rfl, by decide⟩
theorem lk_10_58 : okJ "WingTrams$Reader" false (65, 0, 185, [66, 2, 5, 0, 0]) := ⟨m_66, mtg_66, ⟨okM_66, tg5 53 (by decide +kernel) rfl, rfl, rfl, rfl, rfl, fun _ => ⟨(RX4, TX4, 6), by decide, rfl, rfl⟩⟩, rfl, by decide⟩
set_option maxRecDepth 100000 in
theorem LK_10_ok : ∀ q ∈ LK_10, okJ "WingTrams$Reader" false q := List.forall_mem_cons.mpr ⟨lk_10_0, List.forall_mem_cons.mpr ⟨lk_10_1, List.forall_mem_cons.mpr ⟨lk_10_2, List.forall_mem_cons.mpr ⟨lk_10_3, List.forall_mem_cons.mpr ⟨lk_10_4, List.forall_mem_cons.mpr ⟨lk_10_5, List.forall_mem_cons.mpr ⟨lk_10_6, List.forall_mem_cons.mpr ⟨lk_10_7, List.forall_mem_cons.mpr ⟨lk_10_8, List.forall_mem_cons.mpr ⟨lk_10_9, List.forall_mem_cons.mpr ⟨lk_10_10, List.forall_mem_cons.mpr ⟨lk_10_11, List.forall_mem_cons.mpr ⟨lk_10_12, List.forall_mem_cons.mpr ⟨lk_10_13, List.forall_mem_cons.mpr ⟨lk_10_14, List.forall_mem_cons.mpr ⟨lk_10_15, List.forall_mem_cons.mpr ⟨lk_10_16, List.forall_mem_cons.mpr ⟨lk_10_17, List.forall_mem_cons.mpr ⟨lk_10_18, List.forall_mem_cons.mpr ⟨lk_10_19, List.forall_mem_cons.mpr ⟨lk_10_20, List.forall_mem_cons.mpr ⟨lk_10_21, List.forall_mem_cons.mpr ⟨lk_10_22, List.forall_mem_cons.mpr ⟨lk_10_23, List.forall_mem_cons.mpr ⟨lk_10_24, List.forall_mem_cons.mpr ⟨lk_10_25, List.forall_mem_cons.mpr ⟨lk_10_26, List.forall_mem_cons.mpr ⟨lk_10_27, List.forall_mem_cons.mpr ⟨lk_10_28, List.forall_mem_cons.mpr ⟨lk_10_29, List.forall_mem_cons.mpr ⟨lk_10_30, List.forall_mem_cons.mpr ⟨lk_10_31, List.forall_mem_cons.mpr ⟨lk_10_32, List.forall_mem_cons.mpr ⟨lk_10_33, List.forall_mem_cons.mpr ⟨lk_10_34, List.forall_mem_cons.mpr ⟨lk_10_35, List.forall_mem_cons.mpr ⟨lk_10_36, List.forall_mem_cons.mpr ⟨lk_10_37, List.forall_mem_cons.mpr ⟨lk_10_38, List.forall_mem_cons.mpr ⟨lk_10_39, List.forall_mem_cons.mpr ⟨lk_10_40, List.forall_mem_cons.mpr ⟨lk_10_41, List.forall_mem_cons.mpr ⟨lk_10_42, List.forall_mem_cons.mpr ⟨lk_10_43, List.forall_mem_cons.mpr ⟨lk_10_44, List.forall_mem_cons.mpr ⟨lk_10_45, List.forall_mem_cons.mpr ⟨lk_10_46, List.forall_mem_cons.mpr ⟨lk_10_47, List.forall_mem_cons.mpr ⟨lk_10_48, List.forall_mem_cons.mpr ⟨lk_10_49, List.forall_mem_cons.mpr ⟨lk_10_50, List.forall_mem_cons.mpr ⟨lk_10_51, List.forall_mem_cons.mpr ⟨lk_10_52, List.forall_mem_cons.mpr ⟨lk_10_53, List.forall_mem_cons.mpr ⟨lk_10_54, List.forall_mem_cons.mpr ⟨lk_10_55, List.forall_mem_cons.mpr ⟨lk_10_56, List.forall_mem_cons.mpr ⟨lk_10_57, List.forall_mem_cons.mpr ⟨lk_10_58, fun _ h => absurd h List.not_mem_nil⟩⟩⟩⟩⟩⟩⟩⟩⟩⟩⟩⟩⟩⟩⟩⟩⟩⟩⟩⟩⟩⟩⟩⟩⟩⟩⟩⟩⟩⟩⟩⟩⟩⟩⟩⟩⟩⟩⟩⟩⟩⟩⟩⟩⟩⟩⟩⟩⟩⟩⟩⟩⟩⟩⟩⟩⟩⟩⟩
def LK_11 : List dI := [(68, 0, 3, []), (79, 0, 9, [4, 0, 3]), (79, 0, 15, [4, 1, 3])]
theorem lk_11_0 : okJ "WingTrams$Reader" true (68, 0, 3, []) := ⟨tg1 208 (by decide +kernel) rfl, tg1 32 (by decide +kernel) rfl, tg1 33 (by decide +kernel) rfl⟩
theorem lk_11_1 : okJ "WingTrams$Reader" true (79, 0, 9, [4, 0, 3]) := ⟨(RX4, TX4, 6), tyX4, rfl, rfl, okC4, by decide, tg1 209 (by decide +kernel) rfl, rfl, fun h => rfl, Or.inr (Or.inr (Or.inr ⟨rfl, fun _ => ⟨rfl, rfl⟩⟩))⟩
theorem lk_11_2 : okJ "WingTrams$Reader" true (79, 0, 15, [4, 1, 3]) := ⟨(RX4, TX4, 6), tyX4, rfl, rfl, okC4, by decide, tg1 210 (by decide +kernel) rfl, rfl, fun h => rfl, Or.inr (Or.inr (Or.inr ⟨rfl, fun _ => ⟨rfl, rfl⟩⟩))⟩
set_option maxRecDepth 100000 in
theorem LK_11_ok : ∀ q ∈ LK_11, okJ "WingTrams$Reader" true q := List.forall_mem_cons.mpr ⟨lk_11_0, List.forall_mem_cons.mpr ⟨lk_11_1, List.forall_mem_cons.mpr ⟨lk_11_2, fun _ h => absurd h List.not_mem_nil⟩⟩⟩
def LK_12 : List dI := [(56, 0, 24, [5, 2]), (3, 2147483647, 37, []), (65, 0, 38, [7, 2, 7, 0, 0]), (56, 0, 28, [5, 3]), (56, 0, 9, [5, 0]), (56, 0, 41, [1, 11]), (65, 0, 46, [5, 2, 7, 0, 0]), (56, 0, 50, [1, 13]), (65, 0, 53, [6, 3, 7, 0, 0]), (56, 0, 15, [5, 1]), (56, 0, 57, [3, 7]), (56, 0, 63, [3, 6]), (56, 0, 66, [1, 10]), (56, 0, 69, [3, 2]), (56, 0, 72, [3, 1]), (65, 0, 75, [78, 2, 6, 0, 0]), (56, 0, 78, [1, 12]), (56, 0, 81, [1, 4]), (56, 0, 84, [1, 3]), (65, 0, 87, [79, 2, 6, 0, 0]), (56, 0, 90, [1, 0]), (56, 0, 93, [1, 2]), (65, 0, 96, [84, 4, 6, 0, 0]), (56, 0, 100, [3, 5]), (56, 0, 31, [5, 4]), (56, 0, 103, [1, 7]), (65, 0, 106, [86, 4, 6, 0, 0]), (56, 0, 34, [5, 5]), (65, 0, 110, [88, 3, 6, 0, 0]), (65, 0, 114, [89, 3, 6, 0, 0]), (65, 0, 118, [90, 4, 6, 0, 0])]
theorem lk_12_0 : okJ "WingTrams$Rides" false (56, 0, 24, [5, 2]) := ⟨(RX5, TX5, 6), tyX5, rfl, rfl, okC5, by decide, tg2 147 (by decide +kernel) rfl⟩
theorem lk_12_1 : okJ "WingTrams$Rides" false (3, 2147483647, 37, []) := tg3 123 (by decide +kernel) rfl
theorem lk_12_2 : okJ "WingTrams$Rides" false (65, 0, 38, [7, 2, 7, 0, 0]) := ⟨m_7, mtg_7, ⟨okM_7, tg3 124 (by decide +kernel) rfl, rfl, rfl, rfl, rfl, fun _ => ⟨(RX6, TX6, 1), by decide, rfl, rfl⟩⟩, rfl, by decide⟩
theorem lk_12_3 : okJ "WingTrams$Rides" false (56, 0, 28, [5, 3]) := ⟨(RX5, TX5, 6), tyX5, rfl, rfl, okC5, by decide, tg2 148 (by decide +kernel) rfl⟩
theorem lk_12_4 : okJ "WingTrams$Rides" false (56, 0, 9, [5, 0]) := ⟨(RX5, TX5, 6), tyX5, rfl, rfl, okC5, by decide, tg2 145 (by decide +kernel) rfl⟩
theorem lk_12_5 : okJ "WingTrams$Rides" false (56, 0, 41, [1, 11]) := ⟨(RX1, TX1, 16), tyX1, rfl, rfl, okC1, by decide, tg1 126 (by decide +kernel) rfl⟩
theorem lk_12_6 : okJ "WingTrams$Rides" false (65, 0, 46, [5, 2, 7, 0, 0]) := ⟨m_5, mtg_5, ⟨okM_5, tg3 128 (by decide +kernel) rfl, rfl, rfl, rfl, rfl, fun _ => ⟨(RX6, TX6, 1), by decide, rfl, rfl⟩⟩, rfl, by decide⟩
theorem lk_12_7 : okJ "WingTrams$Rides" false (56, 0, 50, [1, 13]) := ⟨(RX1, TX1, 16), tyX1, rfl, rfl, okC1, by decide, tg1 135 (by decide +kernel) rfl⟩
theorem lk_12_8 : okJ "WingTrams$Rides" false (65, 0, 53, [6, 3, 7, 0, 0]) := ⟨m_6, mtg_6, ⟨okM_6, tg3 129 (by decide +kernel) rfl, rfl, rfl, rfl, rfl, fun _ => ⟨(RX6, TX6, 1), by decide, rfl, rfl⟩⟩, rfl, by decide⟩
theorem lk_12_9 : okJ "WingTrams$Rides" false (56, 0, 15, [5, 1]) := ⟨(RX5, TX5, 6), tyX5, rfl, rfl, okC5, by decide, tg2 146 (by decide +kernel) rfl⟩
theorem lk_12_10 : okJ "WingTrams$Rides" false (56, 0, 57, [3, 7]) := ⟨(RX3, TX3, 11), tyX3, rfl, rfl, okC3, by decide, tg2 110 (by decide +kernel) rfl⟩
theorem lk_12_11 : okJ "WingTrams$Rides" false (56, 0, 63, [3, 6]) := ⟨(RX3, TX3, 11), tyX3, rfl, rfl, okC3, by decide, tg2 108 (by decide +kernel) rfl⟩
theorem lk_12_12 : okJ "WingTrams$Rides" false (56, 0, 66, [1, 10]) := ⟨(RX1, TX1, 16), tyX1, rfl, rfl, okC1, by decide, tg1 121 (by decide +kernel) rfl⟩
theorem lk_12_13 : okJ "WingTrams$Rides" false (56, 0, 69, [3, 2]) := ⟨(RX3, TX3, 11), tyX3, rfl, rfl, okC3, by decide, tg2 99 (by decide +kernel) rfl⟩
theorem lk_12_14 : okJ "WingTrams$Rides" false (56, 0, 72, [3, 1]) := ⟨(RX3, TX3, 11), tyX3, rfl, rfl, okC3, by decide, tg2 96 (by decide +kernel) rfl⟩
theorem lk_12_15 : okJ "WingTrams$Rides" false (65, 0, 75, [78, 2, 6, 0, 0]) := ⟨m_78, mtg_78, ⟨okM_78, tg3 119 (by decide +kernel) rfl, rfl, rfl, rfl, rfl, fun _ => ⟨(RX5, TX5, 6), by decide, rfl, rfl⟩⟩, rfl, by decide⟩
theorem lk_12_16 : okJ "WingTrams$Rides" false (56, 0, 78, [1, 12]) := ⟨(RX1, TX1, 16), tyX1, rfl, rfl, okC1, by decide, tg1 130 (by decide +kernel) rfl⟩
theorem lk_12_17 : okJ "WingTrams$Rides" false (56, 0, 81, [1, 4]) := ⟨(RX1, TX1, 16), tyX1, rfl, rfl, okC1, by decide, tg1 100 (by decide +kernel) rfl⟩
theorem lk_12_18 : okJ "WingTrams$Rides" false (56, 0, 84, [1, 3]) := ⟨(RX1, TX1, 16), tyX1, rfl, rfl, okC1, by decide, tg1 95 (by decide +kernel) rfl⟩
theorem lk_12_19 : okJ "WingTrams$Rides" false (65, 0, 87, [79, 2, 6, 0, 0]) := ⟨m_79, mtg_79, ⟨okM_79, tg3 154 (by decide +kernel) rfl, rfl, rfl, rfl, rfl, fun _ => ⟨(RX5, TX5, 6), by decide, rfl, rfl⟩⟩, rfl, by decide⟩
theorem lk_12_20 : okJ "WingTrams$Rides" false (56, 0, 90, [1, 0]) := ⟨(RX1, TX1, 16), tyX1, rfl, rfl, okC1, by decide, tg1 83 (by decide +kernel) rfl⟩
theorem lk_12_21 : okJ "WingTrams$Rides" false (56, 0, 93, [1, 2]) := ⟨(RX1, TX1, 16), tyX1, rfl, rfl, okC1, by decide, tg1 92 (by decide +kernel) rfl⟩
theorem lk_12_22 : okJ "WingTrams$Rides" false (65, 0, 96, [84, 4, 6, 0, 0]) := ⟨m_84, mtg_84, ⟨okM_84, tg6 13 (by decide +kernel) rfl, rfl, rfl, rfl, rfl, fun _ => ⟨(RX5, TX5, 6), by decide, rfl, rfl⟩⟩, rfl, by decide⟩
theorem lk_12_23 : okJ "WingTrams$Rides" false (56, 0, 100, [3, 5]) := ⟨(RX3, TX3, 11), tyX3, rfl, rfl, okC3, by decide, tg2 106 (by decide +kernel) rfl⟩
theorem lk_12_24 : okJ "WingTrams$Rides" false (56, 0, 31, [5, 4]) := ⟨(RX5, TX5, 6), tyX5, rfl, rfl, okC5, by decide, tg2 149 (by decide +kernel) rfl⟩
theorem lk_12_25 : okJ "WingTrams$Rides" false (56, 0, 103, [1, 7]) := ⟨(RX1, TX1, 16), tyX1, rfl, rfl, okC1, by decide, tg1 112 (by decide +kernel) rfl⟩
theorem lk_12_26 : okJ "WingTrams$Rides" false (65, 0, 106, [86, 4, 6, 0, 0]) := ⟨m_86, mtg_86, ⟨okM_86, tg5 231 (by decide +kernel) rfl, rfl, rfl, rfl, rfl, fun _ => ⟨(RX5, TX5, 6), by decide, rfl, rfl⟩⟩, rfl, by decide⟩
theorem lk_12_27 : okJ "WingTrams$Rides" false (56, 0, 34, [5, 5]) := ⟨(RX5, TX5, 6), tyX5, rfl, rfl, okC5, by decide, tg2 150 (by decide +kernel) rfl⟩
theorem lk_12_28 : okJ "WingTrams$Rides" false (65, 0, 110, [88, 3, 6, 0, 0]) := ⟨m_88, mtg_88, ⟨okM_88, tg6 96 (by decide +kernel) rfl, rfl, rfl, rfl, rfl, fun _ => ⟨(RX5, TX5, 6), by decide, rfl, rfl⟩⟩, rfl, by decide⟩
theorem lk_12_29 : okJ "WingTrams$Rides" false (65, 0, 114, [89, 3, 6, 0, 0]) := ⟨m_89, mtg_89, ⟨okM_89, tg6 100 (by decide +kernel) rfl, rfl, rfl, rfl, rfl, fun _ => ⟨(RX5, TX5, 6), by decide, rfl, rfl⟩⟩, rfl, by decide⟩
theorem lk_12_30 : okJ "WingTrams$Rides" false (65, 0, 118, [90, 4, 6, 0, 0]) := ⟨m_90, mtg_90, ⟨okM_90, tg6 104 (by decide +kernel) rfl, rfl, rfl, rfl, rfl, fun _ => ⟨(RX5, TX5, 6), by decide, rfl, rfl⟩⟩, rfl, by decide⟩
set_option maxRecDepth 100000 in
theorem LK_12_ok : ∀ q ∈ LK_12, okJ "WingTrams$Rides" false q := List.forall_mem_cons.mpr ⟨lk_12_0, List.forall_mem_cons.mpr ⟨lk_12_1, List.forall_mem_cons.mpr ⟨lk_12_2, List.forall_mem_cons.mpr ⟨lk_12_3, List.forall_mem_cons.mpr ⟨lk_12_4, List.forall_mem_cons.mpr ⟨lk_12_5, List.forall_mem_cons.mpr ⟨lk_12_6, List.forall_mem_cons.mpr ⟨lk_12_7, List.forall_mem_cons.mpr ⟨lk_12_8, List.forall_mem_cons.mpr ⟨lk_12_9, List.forall_mem_cons.mpr ⟨lk_12_10, List.forall_mem_cons.mpr ⟨lk_12_11, List.forall_mem_cons.mpr ⟨lk_12_12, List.forall_mem_cons.mpr ⟨lk_12_13, List.forall_mem_cons.mpr ⟨lk_12_14, List.forall_mem_cons.mpr ⟨lk_12_15, List.forall_mem_cons.mpr ⟨lk_12_16, List.forall_mem_cons.mpr ⟨lk_12_17, List.forall_mem_cons.mpr ⟨lk_12_18, List.forall_mem_cons.mpr ⟨lk_12_19, List.forall_mem_cons.mpr ⟨lk_12_20, List.forall_mem_cons.mpr ⟨lk_12_21, List.forall_mem_cons.mpr ⟨lk_12_22, List.forall_mem_cons.mpr ⟨lk_12_23, List.forall_mem_cons.mpr ⟨lk_12_24, List.forall_mem_cons.mpr ⟨lk_12_25, List.forall_mem_cons.mpr ⟨lk_12_26, List.forall_mem_cons.mpr ⟨lk_12_27, List.forall_mem_cons.mpr ⟨lk_12_28, List.forall_mem_cons.mpr ⟨lk_12_29, List.forall_mem_cons.mpr ⟨lk_12_30, fun _ h => absurd h List.not_mem_nil⟩⟩⟩⟩⟩⟩⟩⟩⟩⟩⟩⟩⟩⟩⟩⟩⟩⟩⟩⟩⟩⟩⟩⟩⟩⟩⟩⟩⟩⟩⟩
def LK_13 : List dI := [(68, 0, 3, []), (79, 0, 9, [5, 0, 3]), (79, 0, 15, [5, 1, 3]), (69, 0, 19, [6, 1]), (67, 0, 21, [4, 2, 0, 1, 1000]), (79, 0, 24, [5, 2, 3]), (79, 0, 28, [5, 3, 3]), (79, 0, 31, [5, 4, 3]), (79, 0, 34, [5, 5, 3])]
theorem lk_13_0 : okJ "WingTrams$Rides" true (68, 0, 3, []) := ⟨tg2 142 (by decide +kernel) rfl, tg1 32 (by decide +kernel) rfl, tg1 33 (by decide +kernel) rfl⟩
theorem lk_13_1 : okJ "WingTrams$Rides" true (79, 0, 9, [5, 0, 3]) := ⟨(RX5, TX5, 6), tyX5, rfl, rfl, okC5, by decide, tg2 145 (by decide +kernel) rfl, rfl, fun h => rfl, Or.inr (Or.inr (Or.inr ⟨rfl, fun _ => ⟨rfl, rfl⟩⟩))⟩
theorem lk_13_2 : okJ "WingTrams$Rides" true (79, 0, 15, [5, 1, 3]) := ⟨(RX5, TX5, 6), tyX5, rfl, rfl, okC5, by decide, tg2 146 (by decide +kernel) rfl, rfl, fun h => rfl, Or.inr (Or.inr (Or.inr ⟨rfl, fun _ => ⟨rfl, rfl⟩⟩))⟩
theorem lk_13_3 : okJ "WingTrams$Rides" true (69, 0, 19, [6, 1]) := ⟨(RX6, TX6, 1), tyX6, rfl, rfl, okC6, rfl, tg2 143 (by decide +kernel) rfl⟩
theorem lk_13_4 : okJ "WingTrams$Rides" true (67, 0, 21, [4, 2, 0, 1, 1000]) := ⟨m_4, mtg_4, ⟨okM_4, tg2 144 (by decide +kernel) rfl, rfl, rfl, rfl, rfl, fun h => absurd h (by decide)⟩, rfl⟩
theorem lk_13_5 : okJ "WingTrams$Rides" true (79, 0, 24, [5, 2, 3]) := ⟨(RX5, TX5, 6), tyX5, rfl, rfl, okC5, by decide, tg2 147 (by decide +kernel) rfl, rfl, fun h => rfl, Or.inr (Or.inr (Or.inr ⟨rfl, fun _ => ⟨rfl, rfl⟩⟩))⟩
theorem lk_13_6 : okJ "WingTrams$Rides" true (79, 0, 28, [5, 3, 3]) := ⟨(RX5, TX5, 6), tyX5, rfl, rfl, okC5, by decide, tg2 148 (by decide +kernel) rfl, rfl, fun h => rfl, Or.inr (Or.inr (Or.inr ⟨rfl, fun _ => ⟨rfl, rfl⟩⟩))⟩
theorem lk_13_7 : okJ "WingTrams$Rides" true (79, 0, 31, [5, 4, 3]) := ⟨(RX5, TX5, 6), tyX5, rfl, rfl, okC5, by decide, tg2 149 (by decide +kernel) rfl, rfl, fun h => rfl, Or.inr (Or.inr (Or.inr ⟨rfl, fun _ => ⟨rfl, rfl⟩⟩))⟩
theorem lk_13_8 : okJ "WingTrams$Rides" true (79, 0, 34, [5, 5, 3]) := ⟨(RX5, TX5, 6), tyX5, rfl, rfl, okC5, by decide, tg2 150 (by decide +kernel) rfl, rfl, fun h => rfl, Or.inr (Or.inr (Or.inr ⟨rfl, fun _ => ⟨rfl, rfl⟩⟩))⟩
set_option maxRecDepth 100000 in
theorem LK_13_ok : ∀ q ∈ LK_13, okJ "WingTrams$Rides" true q := List.forall_mem_cons.mpr ⟨lk_13_0, List.forall_mem_cons.mpr ⟨lk_13_1, List.forall_mem_cons.mpr ⟨lk_13_2, List.forall_mem_cons.mpr ⟨lk_13_3, List.forall_mem_cons.mpr ⟨lk_13_4, List.forall_mem_cons.mpr ⟨lk_13_5, List.forall_mem_cons.mpr ⟨lk_13_6, List.forall_mem_cons.mpr ⟨lk_13_7, List.forall_mem_cons.mpr ⟨lk_13_8, fun _ h => absurd h List.not_mem_nil⟩⟩⟩⟩⟩⟩⟩⟩⟩
def LK_14 : List dI := [(56, 0, 7, [6, 0])]
theorem lk_14_0 : okJ "WingTrams$Row" false (56, 0, 7, [6, 0]) := ⟨(RX6, TX6, 1), tyX6, rfl, rfl, okC6, by decide, tg1 40 (by decide +kernel) rfl⟩
set_option maxRecDepth 100000 in
theorem LK_14_ok : ∀ q ∈ LK_14, okJ "WingTrams$Row" false q := List.forall_mem_cons.mpr ⟨lk_14_0, fun _ h => absurd h List.not_mem_nil⟩
def LK_15 : List dI := [(68, 0, 1, []), (70, 0, 0, [0]), (79, 0, 7, [6, 0, 3])]
theorem lk_15_0 : okJ "WingTrams$Row" true (68, 0, 1, []) := ⟨tg1 39 (by decide +kernel) rfl, tg1 32 (by decide +kernel) rfl, tg1 33 (by decide +kernel) rfl⟩
theorem lk_15_1 : okJ "WingTrams$Row" true (70, 0, 0, [0]) := tg1 44 (by decide +kernel) rfl
theorem lk_15_2 : okJ "WingTrams$Row" true (79, 0, 7, [6, 0, 3]) := ⟨(RX6, TX6, 1), tyX6, rfl, rfl, okC6, by decide, tg1 40 (by decide +kernel) rfl, rfl, fun h => rfl, Or.inr (Or.inr (Or.inr ⟨rfl, fun _ => ⟨rfl, rfl⟩⟩))⟩
set_option maxRecDepth 100000 in
theorem LK_15_ok : ∀ q ∈ LK_15, okJ "WingTrams$Row" true q := List.forall_mem_cons.mpr ⟨lk_15_0, List.forall_mem_cons.mpr ⟨lk_15_1, List.forall_mem_cons.mpr ⟨lk_15_2, fun _ h => absurd h List.not_mem_nil⟩⟩⟩
def LK_16 : List dI := [(57, 0, 26, [7, 0, 0]), (57, 0, 30, [7, 1, 0]), (56, 0, 26, [7, 0]), (56, 0, 30, [7, 1]), (56, 0, 14, [7, 2]), (65, 0, 33, [8, 2, 7, 0, 0]), (56, 0, 20, [7, 3]), (65, 0, 37, [6, 3, 7, 0, 0]), (65, 0, 41, [5, 2, 7, 0, 0]), (56, 0, 23, [7, 4]), (66, 0, 45, [19, 3, 0, 0, 0])]
theorem lk_16_0 : okJ "WingTrams$Rules" false (57, 0, 26, [7, 0, 0]) := ⟨(RX7, TX7, 5), tyX7, rfl, rfl, okC7, by decide, tg1 61 (by decide +kernel) rfl, rfl, fun h => (by cases h), Or.inl ⟨rfl, rfl⟩⟩
theorem lk_16_1 : okJ "WingTrams$Rules" false (57, 0, 30, [7, 1, 0]) := ⟨(RX7, TX7, 5), tyX7, rfl, rfl, okC7, by decide, tg1 65 (by decide +kernel) rfl, rfl, fun h => (by cases h), Or.inl ⟨rfl, rfl⟩⟩
theorem lk_16_2 : okJ "WingTrams$Rules" false (56, 0, 26, [7, 0]) := ⟨(RX7, TX7, 5), tyX7, rfl, rfl, okC7, by decide, tg1 61 (by decide +kernel) rfl⟩
theorem lk_16_3 : okJ "WingTrams$Rules" false (56, 0, 30, [7, 1]) := ⟨(RX7, TX7, 5), tyX7, rfl, rfl, okC7, by decide, tg1 65 (by decide +kernel) rfl⟩
theorem lk_16_4 : okJ "WingTrams$Rules" false (56, 0, 14, [7, 2]) := ⟨(RX7, TX7, 5), tyX7, rfl, rfl, okC7, by decide, tg1 66 (by decide +kernel) rfl⟩
theorem lk_16_5 : okJ "WingTrams$Rules" false (65, 0, 33, [8, 2, 7, 0, 0]) := ⟨m_8, mtg_8, ⟨okM_8, tg5 78 (by decide +kernel) rfl, rfl, rfl, rfl, rfl, fun _ => ⟨(RX6, TX6, 1), by decide, rfl, rfl⟩⟩, rfl, by decide⟩
theorem lk_16_6 : okJ "WingTrams$Rules" false (56, 0, 20, [7, 3]) := ⟨(RX7, TX7, 5), tyX7, rfl, rfl, okC7, by decide, tg1 67 (by decide +kernel) rfl⟩
theorem lk_16_7 : okJ "WingTrams$Rules" false (65, 0, 37, [6, 3, 7, 0, 0]) := ⟨m_6, mtg_6, ⟨okM_6, tg3 96 (by decide +kernel) rfl, rfl, rfl, rfl, rfl, fun _ => ⟨(RX6, TX6, 1), by decide, rfl, rfl⟩⟩, rfl, by decide⟩
theorem lk_16_8 : okJ "WingTrams$Rules" false (65, 0, 41, [5, 2, 7, 0, 0]) := ⟨m_5, mtg_5, ⟨okM_5, tg3 95 (by decide +kernel) rfl, rfl, rfl, rfl, rfl, fun _ => ⟨(RX6, TX6, 1), by decide, rfl, rfl⟩⟩, rfl, by decide⟩
theorem lk_16_9 : okJ "WingTrams$Rules" false (56, 0, 23, [7, 4]) := ⟨(RX7, TX7, 5), tyX7, rfl, rfl, okC7, by decide, tg1 68 (by decide +kernel) rfl⟩
theorem lk_16_10 : okJ "WingTrams$Rules" false (66, 0, 45, [19, 3, 0, 0, 0]) := ⟨m_19, mtg_19, ⟨okM_19, tg3 97 (by decide +kernel) rfl, rfl, rfl, rfl, rfl, fun h => absurd h (by decide)⟩, rfl⟩
set_option maxRecDepth 100000 in
theorem LK_16_ok : ∀ q ∈ LK_16, okJ "WingTrams$Rules" false q := List.forall_mem_cons.mpr ⟨lk_16_0, List.forall_mem_cons.mpr ⟨lk_16_1, List.forall_mem_cons.mpr ⟨lk_16_2, List.forall_mem_cons.mpr ⟨lk_16_3, List.forall_mem_cons.mpr ⟨lk_16_4, List.forall_mem_cons.mpr ⟨lk_16_5, List.forall_mem_cons.mpr ⟨lk_16_6, List.forall_mem_cons.mpr ⟨lk_16_7, List.forall_mem_cons.mpr ⟨lk_16_8, List.forall_mem_cons.mpr ⟨lk_16_9, List.forall_mem_cons.mpr ⟨lk_16_10, fun _ h => absurd h List.not_mem_nil⟩⟩⟩⟩⟩⟩⟩⟩⟩⟩⟩
def LK_17 : List dI := [(68, 0, 3, []), (69, 0, 9, [6, 1]), (67, 0, 11, [4, 2, 0, 1, 1000]), (79, 0, 14, [7, 2, 3]), (79, 0, 20, [7, 3, 3]), (79, 0, 23, [7, 4, 3])]
theorem lk_17_0 : okJ "WingTrams$Rules" true (68, 0, 3, []) := ⟨tg1 58 (by decide +kernel) rfl, tg1 32 (by decide +kernel) rfl, tg1 33 (by decide +kernel) rfl⟩
theorem lk_17_1 : okJ "WingTrams$Rules" true (69, 0, 9, [6, 1]) := ⟨(RX6, TX6, 1), tyX6, rfl, rfl, okC6, rfl, tg1 59 (by decide +kernel) rfl⟩
theorem lk_17_2 : okJ "WingTrams$Rules" true (67, 0, 11, [4, 2, 0, 1, 1000]) := ⟨m_4, mtg_4, ⟨okM_4, tg1 60 (by decide +kernel) rfl, rfl, rfl, rfl, rfl, fun h => absurd h (by decide)⟩, rfl⟩
theorem lk_17_3 : okJ "WingTrams$Rules" true (79, 0, 14, [7, 2, 3]) := ⟨(RX7, TX7, 5), tyX7, rfl, rfl, okC7, by decide, tg1 66 (by decide +kernel) rfl, rfl, fun h => rfl, Or.inr (Or.inr (Or.inr ⟨rfl, fun _ => ⟨rfl, rfl⟩⟩))⟩
theorem lk_17_4 : okJ "WingTrams$Rules" true (79, 0, 20, [7, 3, 3]) := ⟨(RX7, TX7, 5), tyX7, rfl, rfl, okC7, by decide, tg1 67 (by decide +kernel) rfl, rfl, fun h => rfl, Or.inr (Or.inr (Or.inr ⟨rfl, fun _ => ⟨rfl, rfl⟩⟩))⟩
theorem lk_17_5 : okJ "WingTrams$Rules" true (79, 0, 23, [7, 4, 3]) := ⟨(RX7, TX7, 5), tyX7, rfl, rfl, okC7, by decide, tg1 68 (by decide +kernel) rfl, rfl, fun h => rfl, Or.inr (Or.inr (Or.inr ⟨rfl, fun _ => ⟨rfl, rfl⟩⟩))⟩
set_option maxRecDepth 100000 in
theorem LK_17_ok : ∀ q ∈ LK_17, okJ "WingTrams$Rules" true q := List.forall_mem_cons.mpr ⟨lk_17_0, List.forall_mem_cons.mpr ⟨lk_17_1, List.forall_mem_cons.mpr ⟨lk_17_2, List.forall_mem_cons.mpr ⟨lk_17_3, List.forall_mem_cons.mpr ⟨lk_17_4, List.forall_mem_cons.mpr ⟨lk_17_5, fun _ h => absurd h List.not_mem_nil⟩⟩⟩⟩⟩⟩
def LK_18 : List dI := [(56, 0, 27, [1, 15]), (56, 0, 33, [7, 0]), (57, 0, 9, [8, 0, 0]), (57, 0, 38, [8, 1, 0]), (57, 0, 41, [8, 2, 1]), (57, 0, 45, [8, 3, 0]), (56, 0, 20, [8, 4]), (56, 0, 48, [1, 5]), (65, 0, 49, [8, 2, 7, 0, 0]), (56, 0, 24, [8, 5]), (56, 0, 53, [1, 8]), (56, 0, 9, [8, 0]), (56, 0, 38, [8, 1]), (56, 0, 41, [8, 2]), (56, 0, 45, [8, 3])]
theorem lk_18_0 : okJ "WingTrams$Sky" false (56, 0, 27, [1, 15]) := ⟨(RX1, TX1, 16), tyX1, rfl, rfl, okC1, by decide, tg1 142 (by decide +kernel) rfl⟩
theorem lk_18_1 : okJ "WingTrams$Sky" false (56, 0, 33, [7, 0]) := ⟨(RX7, TX7, 5), tyX7, rfl, rfl, okC7, by decide, tg1 62 (by decide +kernel) rfl⟩
theorem lk_18_2 : okJ "WingTrams$Sky" false (57, 0, 9, [8, 0, 0]) := ⟨(RX8, TX8, 6), tyX8, rfl, rfl, okC8, by decide, tg2 3 (by decide +kernel) rfl, rfl, fun h => (by cases h), Or.inl ⟨rfl, rfl⟩⟩
theorem lk_18_3 : okJ "WingTrams$Sky" false (57, 0, 38, [8, 1, 0]) := ⟨(RX8, TX8, 6), tyX8, rfl, rfl, okC8, by decide, tg2 7 (by decide +kernel) rfl, rfl, fun h => (by cases h), Or.inl ⟨rfl, rfl⟩⟩
theorem lk_18_4 : okJ "WingTrams$Sky" false (57, 0, 41, [8, 2, 1]) := ⟨(RX8, TX8, 6), tyX8, rfl, rfl, okC8, by decide, tg2 11 (by decide +kernel) rfl, rfl, fun h => (by cases h), Or.inr (Or.inl ⟨rfl, rfl⟩)⟩
theorem lk_18_5 : okJ "WingTrams$Sky" false (57, 0, 45, [8, 3, 0]) := ⟨(RX8, TX8, 6), tyX8, rfl, rfl, okC8, by decide, tg2 15 (by decide +kernel) rfl, rfl, fun h => (by cases h), Or.inl ⟨rfl, rfl⟩⟩
theorem lk_18_6 : okJ "WingTrams$Sky" false (56, 0, 20, [8, 4]) := ⟨(RX8, TX8, 6), tyX8, rfl, rfl, okC8, by decide, tg2 18 (by decide +kernel) rfl⟩
theorem lk_18_7 : okJ "WingTrams$Sky" false (56, 0, 48, [1, 5]) := ⟨(RX1, TX1, 16), tyX1, rfl, rfl, okC1, by decide, tg1 105 (by decide +kernel) rfl⟩
theorem lk_18_8 : okJ "WingTrams$Sky" false (65, 0, 49, [8, 2, 7, 0, 0]) := ⟨m_8, mtg_8, ⟨okM_8, tg3 142 (by decide +kernel) rfl, rfl, rfl, rfl, rfl, fun _ => ⟨(RX6, TX6, 1), by decide, rfl, rfl⟩⟩, rfl, by decide⟩
theorem lk_18_9 : okJ "WingTrams$Sky" false (56, 0, 24, [8, 5]) := ⟨(RX8, TX8, 6), tyX8, rfl, rfl, okC8, by decide, tg2 22 (by decide +kernel) rfl⟩
theorem lk_18_10 : okJ "WingTrams$Sky" false (56, 0, 53, [1, 8]) := ⟨(RX1, TX1, 16), tyX1, rfl, rfl, okC1, by decide, tg1 114 (by decide +kernel) rfl⟩
theorem lk_18_11 : okJ "WingTrams$Sky" false (56, 0, 9, [8, 0]) := ⟨(RX8, TX8, 6), tyX8, rfl, rfl, okC8, by decide, tg2 3 (by decide +kernel) rfl⟩
theorem lk_18_12 : okJ "WingTrams$Sky" false (56, 0, 38, [8, 1]) := ⟨(RX8, TX8, 6), tyX8, rfl, rfl, okC8, by decide, tg2 7 (by decide +kernel) rfl⟩
theorem lk_18_13 : okJ "WingTrams$Sky" false (56, 0, 41, [8, 2]) := ⟨(RX8, TX8, 6), tyX8, rfl, rfl, okC8, by decide, tg2 11 (by decide +kernel) rfl⟩
theorem lk_18_14 : okJ "WingTrams$Sky" false (56, 0, 45, [8, 3]) := ⟨(RX8, TX8, 6), tyX8, rfl, rfl, okC8, by decide, tg2 15 (by decide +kernel) rfl⟩
set_option maxRecDepth 100000 in
theorem LK_18_ok : ∀ q ∈ LK_18, okJ "WingTrams$Sky" false q := List.forall_mem_cons.mpr ⟨lk_18_0, List.forall_mem_cons.mpr ⟨lk_18_1, List.forall_mem_cons.mpr ⟨lk_18_2, List.forall_mem_cons.mpr ⟨lk_18_3, List.forall_mem_cons.mpr ⟨lk_18_4, List.forall_mem_cons.mpr ⟨lk_18_5, List.forall_mem_cons.mpr ⟨lk_18_6, List.forall_mem_cons.mpr ⟨lk_18_7, List.forall_mem_cons.mpr ⟨lk_18_8, List.forall_mem_cons.mpr ⟨lk_18_9, List.forall_mem_cons.mpr ⟨lk_18_10, List.forall_mem_cons.mpr ⟨lk_18_11, List.forall_mem_cons.mpr ⟨lk_18_12, List.forall_mem_cons.mpr ⟨lk_18_13, List.forall_mem_cons.mpr ⟨lk_18_14, fun _ h => absurd h List.not_mem_nil⟩⟩⟩⟩⟩⟩⟩⟩⟩⟩⟩⟩⟩⟩⟩
def LK_19 : List dI := [(68, 0, 3, []), (57, 0, 9, [8, 0, 0]), (69, 0, 15, [6, 1]), (67, 0, 17, [4, 2, 0, 1, 1000]), (79, 0, 20, [8, 4, 3]), (79, 0, 24, [8, 5, 3])]
theorem lk_19_0 : okJ "WingTrams$Sky" true (68, 0, 3, []) := ⟨tg2 0 (by decide +kernel) rfl, tg1 32 (by decide +kernel) rfl, tg1 33 (by decide +kernel) rfl⟩
theorem lk_19_1 : okJ "WingTrams$Sky" true (57, 0, 9, [8, 0, 0]) := ⟨(RX8, TX8, 6), tyX8, rfl, rfl, okC8, by decide, tg2 3 (by decide +kernel) rfl, rfl, fun h => (by cases h), Or.inl ⟨rfl, rfl⟩⟩
theorem lk_19_2 : okJ "WingTrams$Sky" true (69, 0, 15, [6, 1]) := ⟨(RX6, TX6, 1), tyX6, rfl, rfl, okC6, rfl, tg2 1 (by decide +kernel) rfl⟩
theorem lk_19_3 : okJ "WingTrams$Sky" true (67, 0, 17, [4, 2, 0, 1, 1000]) := ⟨m_4, mtg_4, ⟨okM_4, tg2 2 (by decide +kernel) rfl, rfl, rfl, rfl, rfl, fun h => absurd h (by decide)⟩, rfl⟩
theorem lk_19_4 : okJ "WingTrams$Sky" true (79, 0, 20, [8, 4, 3]) := ⟨(RX8, TX8, 6), tyX8, rfl, rfl, okC8, by decide, tg2 18 (by decide +kernel) rfl, rfl, fun h => rfl, Or.inr (Or.inr (Or.inr ⟨rfl, fun _ => ⟨rfl, rfl⟩⟩))⟩
theorem lk_19_5 : okJ "WingTrams$Sky" true (79, 0, 24, [8, 5, 3]) := ⟨(RX8, TX8, 6), tyX8, rfl, rfl, okC8, by decide, tg2 22 (by decide +kernel) rfl, rfl, fun h => rfl, Or.inr (Or.inr (Or.inr ⟨rfl, fun _ => ⟨rfl, rfl⟩⟩))⟩
set_option maxRecDepth 100000 in
theorem LK_19_ok : ∀ q ∈ LK_19, okJ "WingTrams$Sky" true q := List.forall_mem_cons.mpr ⟨lk_19_0, List.forall_mem_cons.mpr ⟨lk_19_1, List.forall_mem_cons.mpr ⟨lk_19_2, List.forall_mem_cons.mpr ⟨lk_19_3, List.forall_mem_cons.mpr ⟨lk_19_4, List.forall_mem_cons.mpr ⟨lk_19_5, fun _ h => absurd h List.not_mem_nil⟩⟩⟩⟩⟩⟩
def LK_20 : List dI := [(56, 0, 12, [9, 0]), (65, 0, 30, [21, 2, 9, 0, 0]), (56, 0, 23, [9, 1]), (57, 0, 34, [2, 0, 0]), (56, 0, 27, [9, 2]), (65, 0, 38, [22, 2, 9, 0, 0]), (65, 0, 42, [12, 2, 3, 0, 0]), (56, 0, 34, [2, 0]), (56, 0, 45, [2, 3]), (65, 0, 49, [5, 2, 7, 0, 0]), (56, 0, 55, [2, 4]), (56, 0, 58, [2, 2]), (57, 0, 61, [8, 0, 0]), (57, 0, 64, [8, 1, 0]), (57, 0, 67, [8, 2, 1]), (57, 0, 71, [8, 3, 0]), (56, 0, 74, [8, 4]), (65, 0, 77, [6, 3, 7, 0, 0]), (56, 0, 81, [8, 5])]
theorem lk_20_0 : okJ "WingTrams$State" false (56, 0, 12, [9, 0]) := ⟨(RX9, TX9, 3), tyX9, rfl, rfl, okC9, by decide, tg2 71 (by decide +kernel) rfl⟩
theorem lk_20_1 : okJ "WingTrams$State" false (65, 0, 30, [21, 2, 9, 0, 0]) := ⟨m_21, mtg_21, ⟨okM_21, tg5 83 (by decide +kernel) rfl, rfl, rfl, rfl, rfl, fun _ => ⟨(RX8, TX8, 6), by decide, rfl, rfl⟩⟩, rfl, by decide⟩
theorem lk_20_2 : okJ "WingTrams$State" false (56, 0, 23, [9, 1]) := ⟨(RX9, TX9, 3), tyX9, rfl, rfl, okC9, by decide, tg2 73 (by decide +kernel) rfl⟩
theorem lk_20_3 : okJ "WingTrams$State" false (57, 0, 34, [2, 0, 0]) := ⟨(RX2, TX2, 5), tyX2, rfl, rfl, okC2, by decide, tg2 48 (by decide +kernel) rfl, rfl, fun h => (by cases h), Or.inl ⟨rfl, rfl⟩⟩
theorem lk_20_4 : okJ "WingTrams$State" false (56, 0, 27, [9, 2]) := ⟨(RX9, TX9, 3), tyX9, rfl, rfl, okC9, by decide, tg2 75 (by decide +kernel) rfl⟩
theorem lk_20_5 : okJ "WingTrams$State" false (65, 0, 38, [22, 2, 9, 0, 0]) := ⟨m_22, mtg_22, ⟨okM_22, tg3 222 (by decide +kernel) rfl, rfl, rfl, rfl, rfl, fun _ => ⟨(RX8, TX8, 6), by decide, rfl, rfl⟩⟩, rfl, by decide⟩
theorem lk_20_6 : okJ "WingTrams$State" false (65, 0, 42, [12, 2, 3, 0, 0]) := ⟨m_12, mtg_12, ⟨okM_12, tg3 223 (by decide +kernel) rfl, rfl, rfl, rfl, rfl, fun _ => ⟨(RX2, TX2, 5), by decide, rfl, rfl⟩⟩, rfl, by decide⟩
theorem lk_20_7 : okJ "WingTrams$State" false (56, 0, 34, [2, 0]) := ⟨(RX2, TX2, 5), tyX2, rfl, rfl, okC2, by decide, tg2 48 (by decide +kernel) rfl⟩
theorem lk_20_8 : okJ "WingTrams$State" false (56, 0, 45, [2, 3]) := ⟨(RX2, TX2, 5), tyX2, rfl, rfl, okC2, by decide, tg2 55 (by decide +kernel) rfl⟩
theorem lk_20_9 : okJ "WingTrams$State" false (65, 0, 49, [5, 2, 7, 0, 0]) := ⟨m_5, mtg_5, ⟨okM_5, tg3 62 (by decide +kernel) rfl, rfl, rfl, rfl, rfl, fun _ => ⟨(RX6, TX6, 1), by decide, rfl, rfl⟩⟩, rfl, by decide⟩
theorem lk_20_10 : okJ "WingTrams$State" false (56, 0, 55, [2, 4]) := ⟨(RX2, TX2, 5), tyX2, rfl, rfl, okC2, by decide, tg2 58 (by decide +kernel) rfl⟩
theorem lk_20_11 : okJ "WingTrams$State" false (56, 0, 58, [2, 2]) := ⟨(RX2, TX2, 5), tyX2, rfl, rfl, okC2, by decide, tg2 52 (by decide +kernel) rfl⟩
theorem lk_20_12 : okJ "WingTrams$State" false (57, 0, 61, [8, 0, 0]) := ⟨(RX8, TX8, 6), tyX8, rfl, rfl, okC8, by decide, tg2 4 (by decide +kernel) rfl, rfl, fun h => (by cases h), Or.inl ⟨rfl, rfl⟩⟩
theorem lk_20_13 : okJ "WingTrams$State" false (57, 0, 64, [8, 1, 0]) := ⟨(RX8, TX8, 6), tyX8, rfl, rfl, okC8, by decide, tg2 8 (by decide +kernel) rfl, rfl, fun h => (by cases h), Or.inl ⟨rfl, rfl⟩⟩
theorem lk_20_14 : okJ "WingTrams$State" false (57, 0, 67, [8, 2, 1]) := ⟨(RX8, TX8, 6), tyX8, rfl, rfl, okC8, by decide, tg2 12 (by decide +kernel) rfl, rfl, fun h => (by cases h), Or.inr (Or.inl ⟨rfl, rfl⟩)⟩
theorem lk_20_15 : okJ "WingTrams$State" false (57, 0, 71, [8, 3, 0]) := ⟨(RX8, TX8, 6), tyX8, rfl, rfl, okC8, by decide, tg2 16 (by decide +kernel) rfl, rfl, fun h => (by cases h), Or.inl ⟨rfl, rfl⟩⟩
theorem lk_20_16 : okJ "WingTrams$State" false (56, 0, 74, [8, 4]) := ⟨(RX8, TX8, 6), tyX8, rfl, rfl, okC8, by decide, tg2 20 (by decide +kernel) rfl⟩
theorem lk_20_17 : okJ "WingTrams$State" false (65, 0, 77, [6, 3, 7, 0, 0]) := ⟨m_6, mtg_6, ⟨okM_6, tg3 63 (by decide +kernel) rfl, rfl, rfl, rfl, rfl, fun _ => ⟨(RX6, TX6, 1), by decide, rfl, rfl⟩⟩, rfl, by decide⟩
theorem lk_20_18 : okJ "WingTrams$State" false (56, 0, 81, [8, 5]) := ⟨(RX8, TX8, 6), tyX8, rfl, rfl, okC8, by decide, tg2 24 (by decide +kernel) rfl⟩
set_option maxRecDepth 100000 in
theorem LK_20_ok : ∀ q ∈ LK_20, okJ "WingTrams$State" false q := List.forall_mem_cons.mpr ⟨lk_20_0, List.forall_mem_cons.mpr ⟨lk_20_1, List.forall_mem_cons.mpr ⟨lk_20_2, List.forall_mem_cons.mpr ⟨lk_20_3, List.forall_mem_cons.mpr ⟨lk_20_4, List.forall_mem_cons.mpr ⟨lk_20_5, List.forall_mem_cons.mpr ⟨lk_20_6, List.forall_mem_cons.mpr ⟨lk_20_7, List.forall_mem_cons.mpr ⟨lk_20_8, List.forall_mem_cons.mpr ⟨lk_20_9, List.forall_mem_cons.mpr ⟨lk_20_10, List.forall_mem_cons.mpr ⟨lk_20_11, List.forall_mem_cons.mpr ⟨lk_20_12, List.forall_mem_cons.mpr ⟨lk_20_13, List.forall_mem_cons.mpr ⟨lk_20_14, List.forall_mem_cons.mpr ⟨lk_20_15, List.forall_mem_cons.mpr ⟨lk_20_16, List.forall_mem_cons.mpr ⟨lk_20_17, List.forall_mem_cons.mpr ⟨lk_20_18, fun _ h => absurd h List.not_mem_nil⟩⟩⟩⟩⟩⟩⟩⟩⟩⟩⟩⟩⟩⟩⟩⟩⟩⟩⟩
def LK_21 : List dI := [(68, 0, 3, []), (69, 0, 9, [8, 6]), (67, 0, 11, [20, 1, 0, 4, 4000]), (79, 0, 12, [9, 0, 3]), (69, 0, 18, [2, 5]), (67, 0, 20, [9, 2, 0, 6, 3010]), (79, 0, 23, [9, 1, 3]), (79, 0, 27, [9, 2, 3])]
theorem lk_21_0 : okJ "WingTrams$State" true (68, 0, 3, []) := ⟨tg1 234 (by decide +kernel) rfl, tg1 32 (by decide +kernel) rfl, tg1 33 (by decide +kernel) rfl⟩
theorem lk_21_1 : okJ "WingTrams$State" true (69, 0, 9, [8, 6]) := ⟨(RX8, TX8, 6), tyX8, rfl, rfl, okC8, rfl, tg1 235 (by decide +kernel) rfl⟩
theorem lk_21_2 : okJ "WingTrams$State" true (67, 0, 11, [20, 1, 0, 4, 4000]) := ⟨m_20, mtg_20, ⟨okM_20, tg1 237 (by decide +kernel) rfl, rfl, rfl, rfl, rfl, fun h => absurd h (by decide)⟩, rfl⟩
theorem lk_21_3 : okJ "WingTrams$State" true (79, 0, 12, [9, 0, 3]) := ⟨(RX9, TX9, 3), tyX9, rfl, rfl, okC9, by decide, tg2 71 (by decide +kernel) rfl, rfl, fun h => rfl, Or.inr (Or.inr (Or.inr ⟨rfl, fun _ => ⟨rfl, rfl⟩⟩))⟩
theorem lk_21_4 : okJ "WingTrams$State" true (69, 0, 18, [2, 5]) := ⟨(RX2, TX2, 5), tyX2, rfl, rfl, okC2, rfl, tg2 39 (by decide +kernel) rfl⟩
theorem lk_21_5 : okJ "WingTrams$State" true (67, 0, 20, [9, 2, 0, 6, 3010]) := ⟨m_9, mtg_9, ⟨okM_9, tg2 41 (by decide +kernel) rfl, rfl, rfl, rfl, rfl, fun h => absurd h (by decide)⟩, rfl⟩
theorem lk_21_6 : okJ "WingTrams$State" true (79, 0, 23, [9, 1, 3]) := ⟨(RX9, TX9, 3), tyX9, rfl, rfl, okC9, by decide, tg2 73 (by decide +kernel) rfl, rfl, fun h => rfl, Or.inr (Or.inr (Or.inr ⟨rfl, fun _ => ⟨rfl, rfl⟩⟩))⟩
theorem lk_21_7 : okJ "WingTrams$State" true (79, 0, 27, [9, 2, 3]) := ⟨(RX9, TX9, 3), tyX9, rfl, rfl, okC9, by decide, tg2 75 (by decide +kernel) rfl, rfl, fun h => rfl, Or.inr (Or.inr (Or.inr ⟨rfl, fun _ => ⟨rfl, rfl⟩⟩))⟩
set_option maxRecDepth 100000 in
theorem LK_21_ok : ∀ q ∈ LK_21, okJ "WingTrams$State" true q := List.forall_mem_cons.mpr ⟨lk_21_0, List.forall_mem_cons.mpr ⟨lk_21_1, List.forall_mem_cons.mpr ⟨lk_21_2, List.forall_mem_cons.mpr ⟨lk_21_3, List.forall_mem_cons.mpr ⟨lk_21_4, List.forall_mem_cons.mpr ⟨lk_21_5, List.forall_mem_cons.mpr ⟨lk_21_6, List.forall_mem_cons.mpr ⟨lk_21_7, fun _ h => absurd h List.not_mem_nil⟩⟩⟩⟩⟩⟩⟩⟩
def LK_22 : List dI := [(57, 0, 26, [10, 3, 0]), (65, 0, 30, [5, 2, 7, 0, 0]), (66, 0, 34, [39, 1, 0, 0, 0]), (66, 0, 38, [41, 3, 0, 0, 0]), (66, 0, 42, [44, 3, 0, 0, 0]), (65, 0, 45, [38, 4, 11, 0, 0]), (66, 0, 49, [40, 1, 0, 0, 0]), (66, 0, 52, [42, 3, 0, 0, 0]), (66, 0, 55, [43, 3, 0, 0, 0]), (86, 0, 5, [0, 58, 60]), (56, 0, 14, [10, 0]), (56, 0, 26, [10, 3]), (65, 0, 65, [6, 3, 7, 0, 0]), (56, 0, 20, [10, 1]), (56, 0, 23, [10, 2]), (84, 0, 0, [1, 69, 71]), (85, 0, 6, [1, 69, 75])]
theorem lk_22_0 : okJ "WingTrams$Tokens" false (57, 0, 26, [10, 3, 0]) := ⟨(RX10, TX10, 4), tyX10, rfl, rfl, okC10, by decide, tg1 193 (by decide +kernel) rfl, rfl, fun h => (by cases h), Or.inl ⟨rfl, rfl⟩⟩
theorem lk_22_1 : okJ "WingTrams$Tokens" false (65, 0, 30, [5, 2, 7, 0, 0]) := ⟨m_5, mtg_5, ⟨okM_5, tg4 71 (by decide +kernel) rfl, rfl, rfl, rfl, rfl, fun _ => ⟨(RX6, TX6, 1), by decide, rfl, rfl⟩⟩, rfl, by decide⟩
theorem lk_22_2 : okJ "WingTrams$Tokens" false (66, 0, 34, [39, 1, 0, 0, 0]) := ⟨m_39, mtg_39, ⟨okM_39, tg4 72 (by decide +kernel) rfl, rfl, rfl, rfl, rfl, fun h => absurd h (by decide)⟩, rfl⟩
theorem lk_22_3 : okJ "WingTrams$Tokens" false (66, 0, 38, [41, 3, 0, 0, 0]) := ⟨m_41, mtg_41, ⟨okM_41, tg4 75 (by decide +kernel) rfl, rfl, rfl, rfl, rfl, fun h => absurd h (by decide)⟩, rfl⟩
theorem lk_22_4 : okJ "WingTrams$Tokens" false (66, 0, 42, [44, 3, 0, 0, 0]) := ⟨m_44, mtg_44, ⟨okM_44, tg4 78 (by decide +kernel) rfl, rfl, rfl, rfl, rfl, fun h => absurd h (by decide)⟩, rfl⟩
theorem lk_22_5 : okJ "WingTrams$Tokens" false (65, 0, 45, [38, 4, 11, 0, 0]) := ⟨m_38, mtg_38, ⟨okM_38, tg4 130 (by decide +kernel) rfl, rfl, rfl, rfl, rfl, fun _ => ⟨(RX10, TX10, 4), by decide, rfl, rfl⟩⟩, rfl, by decide⟩
theorem lk_22_6 : okJ "WingTrams$Tokens" false (66, 0, 49, [40, 1, 0, 0, 0]) := ⟨m_40, mtg_40, ⟨okM_40, tg4 135 (by decide +kernel) rfl, rfl, rfl, rfl, rfl, fun h => absurd h (by decide)⟩, rfl⟩
theorem lk_22_7 : okJ "WingTrams$Tokens" false (66, 0, 52, [42, 3, 0, 0, 0]) := ⟨m_42, mtg_42, ⟨okM_42, tg4 138 (by decide +kernel) rfl, rfl, rfl, rfl, rfl, fun h => absurd h (by decide)⟩, rfl⟩
theorem lk_22_8 : okJ "WingTrams$Tokens" false (66, 0, 55, [43, 3, 0, 0, 0]) := ⟨m_43, mtg_43, ⟨okM_43, tg4 141 (by decide +kernel) rfl, rfl, rfl, rfl, rfl, fun h => absurd h (by decide)⟩, rfl⟩
theorem lk_22_9 : okJ "WingTrams$Tokens" false (86, 0, 5, [0, 58, 60]) := ⟨rfl, rfl⟩
theorem lk_22_10 : okJ "WingTrams$Tokens" false (56, 0, 14, [10, 0]) := ⟨(RX10, TX10, 4), tyX10, rfl, rfl, okC10, by decide, tg1 187 (by decide +kernel) rfl⟩
theorem lk_22_11 : okJ "WingTrams$Tokens" false (56, 0, 26, [10, 3]) := ⟨(RX10, TX10, 4), tyX10, rfl, rfl, okC10, by decide, tg1 193 (by decide +kernel) rfl⟩
theorem lk_22_12 : okJ "WingTrams$Tokens" false (65, 0, 65, [6, 3, 7, 0, 0]) := ⟨m_6, mtg_6, ⟨okM_6, tg4 134 (by decide +kernel) rfl, rfl, rfl, rfl, rfl, fun _ => ⟨(RX6, TX6, 1), by decide, rfl, rfl⟩⟩, rfl, by decide⟩
theorem lk_22_13 : okJ "WingTrams$Tokens" false (56, 0, 20, [10, 1]) := ⟨(RX10, TX10, 4), tyX10, rfl, rfl, okC10, by decide, tg1 189 (by decide +kernel) rfl⟩
theorem lk_22_14 : okJ "WingTrams$Tokens" false (56, 0, 23, [10, 2]) := ⟨(RX10, TX10, 4), tyX10, rfl, rfl, okC10, by decide, tg1 191 (by decide +kernel) rfl⟩
theorem lk_22_15 : okJ "WingTrams$Tokens" false (84, 0, 0, [1, 69, 71]) := ⟨rfl, rfl⟩
theorem lk_22_16 : okJ "WingTrams$Tokens" false (85, 0, 6, [1, 69, 75]) := ⟨rfl, rfl⟩
set_option maxRecDepth 100000 in
theorem LK_22_ok : ∀ q ∈ LK_22, okJ "WingTrams$Tokens" false q := List.forall_mem_cons.mpr ⟨lk_22_0, List.forall_mem_cons.mpr ⟨lk_22_1, List.forall_mem_cons.mpr ⟨lk_22_2, List.forall_mem_cons.mpr ⟨lk_22_3, List.forall_mem_cons.mpr ⟨lk_22_4, List.forall_mem_cons.mpr ⟨lk_22_5, List.forall_mem_cons.mpr ⟨lk_22_6, List.forall_mem_cons.mpr ⟨lk_22_7, List.forall_mem_cons.mpr ⟨lk_22_8, List.forall_mem_cons.mpr ⟨lk_22_9, List.forall_mem_cons.mpr ⟨lk_22_10, List.forall_mem_cons.mpr ⟨lk_22_11, List.forall_mem_cons.mpr ⟨lk_22_12, List.forall_mem_cons.mpr ⟨lk_22_13, List.forall_mem_cons.mpr ⟨lk_22_14, List.forall_mem_cons.mpr ⟨lk_22_15, List.forall_mem_cons.mpr ⟨lk_22_16, fun _ h => absurd h List.not_mem_nil⟩⟩⟩⟩⟩⟩⟩⟩⟩⟩⟩⟩⟩⟩⟩⟩⟩
def LK_23 : List dI := [(68, 0, 3, []), (69, 0, 9, [6, 1]), (67, 0, 11, [4, 2, 0, 1, 1000]), (79, 0, 14, [10, 0, 3]), (79, 0, 20, [10, 1, 3]), (79, 0, 23, [10, 2, 3])]
theorem lk_23_0 : okJ "WingTrams$Tokens" true (68, 0, 3, []) := ⟨tg1 184 (by decide +kernel) rfl, tg1 32 (by decide +kernel) rfl, tg1 33 (by decide +kernel) rfl⟩
theorem lk_23_1 : okJ "WingTrams$Tokens" true (69, 0, 9, [6, 1]) := ⟨(RX6, TX6, 1), tyX6, rfl, rfl, okC6, rfl, tg1 185 (by decide +kernel) rfl⟩
theorem lk_23_2 : okJ "WingTrams$Tokens" true (67, 0, 11, [4, 2, 0, 1, 1000]) := ⟨m_4, mtg_4, ⟨okM_4, tg1 186 (by decide +kernel) rfl, rfl, rfl, rfl, rfl, fun h => absurd h (by decide)⟩, rfl⟩
theorem lk_23_3 : okJ "WingTrams$Tokens" true (79, 0, 14, [10, 0, 3]) := ⟨(RX10, TX10, 4), tyX10, rfl, rfl, okC10, by decide, tg1 187 (by decide +kernel) rfl, rfl, fun h => rfl, Or.inr (Or.inr (Or.inr ⟨rfl, fun _ => ⟨rfl, rfl⟩⟩))⟩
theorem lk_23_4 : okJ "WingTrams$Tokens" true (79, 0, 20, [10, 1, 3]) := ⟨(RX10, TX10, 4), tyX10, rfl, rfl, okC10, by decide, tg1 189 (by decide +kernel) rfl, rfl, fun h => rfl, Or.inr (Or.inr (Or.inr ⟨rfl, fun _ => ⟨rfl, rfl⟩⟩))⟩
theorem lk_23_5 : okJ "WingTrams$Tokens" true (79, 0, 23, [10, 2, 3]) := ⟨(RX10, TX10, 4), tyX10, rfl, rfl, okC10, by decide, tg1 191 (by decide +kernel) rfl, rfl, fun h => rfl, Or.inr (Or.inr (Or.inr ⟨rfl, fun _ => ⟨rfl, rfl⟩⟩))⟩
set_option maxRecDepth 100000 in
theorem LK_23_ok : ∀ q ∈ LK_23, okJ "WingTrams$Tokens" true q := List.forall_mem_cons.mpr ⟨lk_23_0, List.forall_mem_cons.mpr ⟨lk_23_1, List.forall_mem_cons.mpr ⟨lk_23_2, List.forall_mem_cons.mpr ⟨lk_23_3, List.forall_mem_cons.mpr ⟨lk_23_4, List.forall_mem_cons.mpr ⟨lk_23_5, fun _ h => absurd h List.not_mem_nil⟩⟩⟩⟩⟩⟩
def LK_24 : List dI := [(56, 0, 147, [12, 0]), (57, 0, 147, [12, 0, 0]), (56, 0, 150, [12, 15]), (65, 0, 153, [164, 2, 13, 0, 0]), (56, 0, 35, [12, 14]), (57, 0, 150, [12, 15, 0]), (56, 0, 157, [12, 19]), (56, 0, 160, [12, 20]), (65, 0, 163, [165, 2, 13, 0, 0]), (57, 0, 160, [12, 20, 0]), (57, 0, 167, [12, 22, 0]), (57, 0, 170, [12, 26, 2]), (57, 0, 174, [12, 24, 0]), (57, 0, 177, [12, 25, 0]), (57, 0, 180, [12, 21, 0]), (66, 0, 183, [166, 1, 0, 0, 0]), (56, 0, 167, [12, 22]), (56, 0, 170, [12, 26]), (66, 0, 187, [167, 1, 0, 0, 0]), (56, 0, 174, [12, 24]), (57, 0, 190, [12, 23, 0]), (39, 96, 193, []), (66, 0, 195, [169, 6, 0, 0, 0]), (56, 0, 180, [12, 21]), (56, 0, 190, [12, 23]), (66, 0, 199, [170, 1, 0, 0, 0]), (56, 0, 203, [12, 16]), (57, 0, 203, [12, 16, 0]), (57, 0, 38, [12, 17, 0]), (56, 0, 177, [12, 25]), (65, 0, 206, [173, 1, 13, 0, 0]), (65, 0, 210, [168, 1, 13, 0, 0]), (65, 0, 213, [172, 2, 13, 0, 0]), (56, 0, 216, [12, 27]), (65, 0, 219, [177, 1, 13, 0, 0]), (56, 0, 68, [12, 44]), (56, 0, 223, [12, 33]), (57, 0, 223, [12, 33, 0]), (56, 0, 226, [12, 34]), (56, 0, 71, [12, 45]), (66, 0, 229, [180, 1, 0, 0, 0]), (66, 0, 232, [181, 1, 0, 0, 0]), (57, 0, 226, [12, 34, 0]), (65, 0, 235, [179, 2, 13, 0, 0]), (65, 0, 238, [171, 1, 13, 0, 0]), (56, 0, 241, [12, 35]), (57, 0, 241, [12, 35, 0]), (56, 0, 74, [12, 46]), (65, 0, 244, [174, 2, 13, 0, 0]), (65, 0, 247, [183, 2, 13, 0, 0]), (65, 0, 250, [185, 1, 13, 0, 0]), (65, 0, 253, [184, 1, 13, 0, 0]), (65, 0, 256, [182, 2, 13, 0, 0]), (65, 0, 259, [186, 2, 13, 0, 0]), (65, 0, 263, [187, 1, 13, 0, 0]), (65, 0, 266, [188, 1, 13, 0, 0]), (56, 0, 269, [12, 28]), (65, 0, 272, [178, 1, 13, 0, 0]), (56, 0, 47, [12, 37]), (65, 0, 275, [176, 3, 13, 0, 0]), (57, 0, 269, [12, 28, 0]), (56, 0, 279, [12, 29]), (56, 0, 50, [12, 38]), (56, 0, 53, [12, 39]), (56, 0, 56, [12, 40]), (56, 0, 59, [12, 41]), (57, 0, 279, [12, 29, 0]), (56, 0, 282, [12, 30]), (56, 0, 62, [12, 42]), (57, 0, 282, [12, 30, 0]), (56, 0, 44, [12, 36]), (57, 0, 216, [12, 27, 0]), (65, 0, 285, [190, 1, 13, 0, 0]), (65, 0, 288, [191, 2, 13, 0, 0]), (65, 0, 291, [192, 1, 13, 0, 0]), (56, 0, 294, [12, 32]), (57, 0, 294, [12, 32, 0]), (56, 0, 297, [12, 31]), (56, 0, 65, [12, 43]), (57, 0, 297, [12, 31, 0]), (65, 0, 300, [189, 1, 13, 0, 0]), (65, 0, 303, [175, 2, 13, 0, 0]), (65, 0, 306, [158, 3, 13, 0, 0]), (57, 0, 157, [12, 19, 0]), (65, 0, 310, [193, 1, 13, 0, 0]), (56, 0, 41, [12, 18]), (57, 0, 313, [12, 1, 0]), (57, 0, 316, [12, 2, 0]), (57, 0, 319, [12, 3, 0]), (57, 0, 322, [12, 4, 0]), (57, 0, 325, [12, 5, 0]), (57, 0, 7, [12, 6, 0]), (56, 0, 13, [12, 7]), (65, 0, 328, [161, 3, 13, 0, 0]), (56, 0, 17, [12, 8]), (56, 0, 20, [12, 9]), (56, 0, 23, [12, 10]), (56, 0, 26, [12, 11]), (56, 0, 29, [12, 12]), (56, 0, 32, [12, 13]), (56, 0, 78, [12, 47]), (56, 0, 325, [12, 5]), (65, 0, 332, [199, 1, 13, 0, 0]), (57, 0, 335, [12, 50, 0]), (57, 0, 338, [12, 67, 0]), (57, 0, 341, [12, 65, 1]), (57, 0, 345, [12, 70, 1]), (56, 0, 38, [12, 17]), (56, 0, 335, [12, 50]), (56, 0, 84, [12, 49]), (56, 0, 87, [12, 51]), (4, 1000000, 348, []), (56, 0, 313, [12, 1]), (56, 0, 93, [12, 53]), (56, 0, 90, [12, 52]), (66, 0, 349, [200, 3, 0, 0, 0]), (56, 0, 102, [12, 56]), (56, 0, 108, [12, 58]), (56, 0, 111, [12, 59]), (65, 0, 353, [201, 2, 13, 0, 0]), (56, 0, 319, [12, 3]), (56, 0, 105, [12, 57]), (65, 0, 356, [202, 2, 13, 0, 0]), (65, 0, 359, [203, 3, 13, 0, 0]), (56, 0, 96, [12, 54]), (56, 0, 99, [12, 55]), (65, 0, 362, [204, 4, 13, 0, 0]), (56, 0, 114, [12, 60]), (65, 0, 365, [207, 3, 13, 0, 0]), (65, 0, 369, [208, 6, 13, 0, 0]), (65, 0, 373, [209, 2, 13, 0, 0]), (65, 0, 376, [210, 2, 13, 0, 0]), (56, 0, 7, [12, 6]), (65, 0, 379, [205, 1, 13, 0, 0]), (56, 0, 322, [12, 4]), (65, 0, 382, [211, 2, 13, 0, 0]), (66, 0, 385, [159, 3, 0, 0, 0]), (56, 0, 316, [12, 2]), (65, 0, 389, [213, 1, 13, 0, 0]), (56, 0, 338, [12, 67]), (65, 0, 392, [215, 2, 13, 0, 0]), (65, 0, 395, [218, 3, 13, 0, 0]), (65, 0, 399, [206, 3, 13, 0, 0]), (65, 0, 402, [216, 2, 13, 0, 0]), (65, 0, 405, [221, 2, 13, 0, 0]), (65, 0, 408, [217, 2, 13, 0, 0]), (65, 0, 411, [196, 2, 13, 0, 0]), (65, 0, 414, [197, 3, 13, 0, 0]), (66, 0, 417, [232, 1, 0, 0, 0]), (56, 0, 117, [12, 61]), (65, 0, 420, [234, 2, 13, 0, 0]), (56, 0, 120, [12, 62]), (65, 0, 423, [212, 2, 13, 0, 0]), (56, 0, 126, [12, 64]), (65, 0, 426, [239, 3, 13, 0, 0]), (56, 0, 123, [12, 63]), (56, 0, 341, [12, 65]), (66, 0, 429, [162, 1, 0, 0, 0]), (56, 0, 129, [12, 66]), (65, 0, 432, [243, 4, 13, 0, 0]), (65, 0, 435, [244, 5, 13, 0, 0]), (65, 0, 439, [245, 3, 13, 0, 0]), (65, 0, 442, [247, 2, 13, 0, 0]), (65, 0, 445, [252, 4, 13, 0, 0]), (56, 0, 132, [12, 68]), (65, 0, 448, [258, 2, 13, 0, 0]), (56, 0, 135, [12, 69]), (66, 0, 451, [160, 2, 0, 0, 0]), (65, 0, 454, [261, 2, 13, 0, 0]), (65, 0, 457, [262, 4, 13, 0, 0]), (56, 0, 81, [12, 48]), (4, 1103515245, 461, []), (57, 0, 462, [12, 71, 0]), (57, 0, 465, [12, 72, 0]), (56, 0, 138, [12, 73]), (56, 0, 141, [12, 74]), (56, 0, 144, [12, 75]), (56, 0, 345, [12, 70]), (56, 0, 462, [12, 71]), (56, 0, 465, [12, 72])]
theorem lk_24_0 : okJ "WingTramsModel" false (56, 0, 147, [12, 0]) := ⟨(RX12, TX12, 76), tyX12, rfl, rfl, okC12, by decide, tg6 180 (by decide +kernel) rfl⟩
theorem lk_24_1 : okJ "WingTramsModel" false (57, 0, 147, [12, 0, 0]) := ⟨(RX12, TX12, 76), tyX12, rfl, rfl, okC12, by decide, tg6 180 (by decide +kernel) rfl, rfl, fun h => (by cases h), Or.inl ⟨rfl, rfl⟩⟩
theorem lk_24_2 : okJ "WingTramsModel" false (56, 0, 150, [12, 15]) := ⟨(RX12, TX12, 76), tyX12, rfl, rfl, okC12, by decide, tg6 195 (by decide +kernel) rfl⟩
theorem lk_24_3 : okJ "WingTramsModel" false (65, 0, 153, [164, 2, 13, 0, 0]) := ⟨m_164, mtg_164, ⟨okM_164, tg7 178 (by decide +kernel) rfl, rfl, rfl, rfl, rfl, fun _ => ⟨(RX12, TX12, 76), by decide, rfl, rfl⟩⟩, rfl, by decide⟩
theorem lk_24_4 : okJ "WingTramsModel" false (56, 0, 35, [12, 14]) := ⟨(RX12, TX12, 76), tyX12, rfl, rfl, okC12, by decide, tg6 194 (by decide +kernel) rfl⟩
theorem lk_24_5 : okJ "WingTramsModel" false (57, 0, 150, [12, 15, 0]) := ⟨(RX12, TX12, 76), tyX12, rfl, rfl, okC12, by decide, tg6 195 (by decide +kernel) rfl, rfl, fun h => (by cases h), Or.inl ⟨rfl, rfl⟩⟩
theorem lk_24_6 : okJ "WingTramsModel" false (56, 0, 157, [12, 19]) := ⟨(RX12, TX12, 76), tyX12, rfl, rfl, okC12, by decide, tg6 199 (by decide +kernel) rfl⟩
theorem lk_24_7 : okJ "WingTramsModel" false (56, 0, 160, [12, 20]) := ⟨(RX12, TX12, 76), tyX12, rfl, rfl, okC12, by decide, tg6 200 (by decide +kernel) rfl⟩
theorem lk_24_8 : okJ "WingTramsModel" false (65, 0, 163, [165, 2, 13, 0, 0]) := ⟨m_165, mtg_165, ⟨okM_165, tg7 194 (by decide +kernel) rfl, rfl, rfl, rfl, rfl, fun _ => ⟨(RX12, TX12, 76), by decide, rfl, rfl⟩⟩, rfl, by decide⟩
theorem lk_24_9 : okJ "WingTramsModel" false (57, 0, 160, [12, 20, 0]) := ⟨(RX12, TX12, 76), tyX12, rfl, rfl, okC12, by decide, tg6 200 (by decide +kernel) rfl, rfl, fun h => (by cases h), Or.inl ⟨rfl, rfl⟩⟩
theorem lk_24_10 : okJ "WingTramsModel" false (57, 0, 167, [12, 22, 0]) := ⟨(RX12, TX12, 76), tyX12, rfl, rfl, okC12, by decide, tg6 202 (by decide +kernel) rfl, rfl, fun h => (by cases h), Or.inl ⟨rfl, rfl⟩⟩
theorem lk_24_11 : okJ "WingTramsModel" false (57, 0, 170, [12, 26, 2]) := ⟨(RX12, TX12, 76), tyX12, rfl, rfl, okC12, by decide, tg6 206 (by decide +kernel) rfl, rfl, fun h => (by cases h), Or.inr (Or.inr (Or.inl ⟨rfl, rfl⟩))⟩
theorem lk_24_12 : okJ "WingTramsModel" false (57, 0, 174, [12, 24, 0]) := ⟨(RX12, TX12, 76), tyX12, rfl, rfl, okC12, by decide, tg6 204 (by decide +kernel) rfl, rfl, fun h => (by cases h), Or.inl ⟨rfl, rfl⟩⟩
theorem lk_24_13 : okJ "WingTramsModel" false (57, 0, 177, [12, 25, 0]) := ⟨(RX12, TX12, 76), tyX12, rfl, rfl, okC12, by decide, tg6 205 (by decide +kernel) rfl, rfl, fun h => (by cases h), Or.inl ⟨rfl, rfl⟩⟩
theorem lk_24_14 : okJ "WingTramsModel" false (57, 0, 180, [12, 21, 0]) := ⟨(RX12, TX12, 76), tyX12, rfl, rfl, okC12, by decide, tg6 201 (by decide +kernel) rfl, rfl, fun h => (by cases h), Or.inl ⟨rfl, rfl⟩⟩
theorem lk_24_15 : okJ "WingTramsModel" false (66, 0, 183, [166, 1, 0, 0, 0]) := ⟨m_166, mtg_166, ⟨okM_166, tg7 198 (by decide +kernel) rfl, rfl, rfl, rfl, rfl, fun h => absurd h (by decide)⟩, rfl⟩
theorem lk_24_16 : okJ "WingTramsModel" false (56, 0, 167, [12, 22]) := ⟨(RX12, TX12, 76), tyX12, rfl, rfl, okC12, by decide, tg6 202 (by decide +kernel) rfl⟩
theorem lk_24_17 : okJ "WingTramsModel" false (56, 0, 170, [12, 26]) := ⟨(RX12, TX12, 76), tyX12, rfl, rfl, okC12, by decide, tg6 206 (by decide +kernel) rfl⟩
theorem lk_24_18 : okJ "WingTramsModel" false (66, 0, 187, [167, 1, 0, 0, 0]) := ⟨m_167, mtg_167, ⟨okM_167, tg7 201 (by decide +kernel) rfl, rfl, rfl, rfl, rfl, fun h => absurd h (by decide)⟩, rfl⟩
theorem lk_24_19 : okJ "WingTramsModel" false (56, 0, 174, [12, 24]) := ⟨(RX12, TX12, 76), tyX12, rfl, rfl, okC12, by decide, tg6 204 (by decide +kernel) rfl⟩
theorem lk_24_20 : okJ "WingTramsModel" false (57, 0, 190, [12, 23, 0]) := ⟨(RX12, TX12, 76), tyX12, rfl, rfl, okC12, by decide, tg6 203 (by decide +kernel) rfl, rfl, fun h => (by cases h), Or.inl ⟨rfl, rfl⟩⟩
theorem lk_24_21 : okJ "WingTramsModel" false (39, 96, 193, []) := tg7 222 (by decide +kernel) rfl
theorem lk_24_22 : okJ "WingTramsModel" false (66, 0, 195, [169, 6, 0, 0, 0]) := ⟨m_169, mtg_169, ⟨okM_169, tg7 219 (by decide +kernel) rfl, rfl, rfl, rfl, rfl, fun h => absurd h (by decide)⟩, rfl⟩
theorem lk_24_23 : okJ "WingTramsModel" false (56, 0, 180, [12, 21]) := ⟨(RX12, TX12, 76), tyX12, rfl, rfl, okC12, by decide, tg6 201 (by decide +kernel) rfl⟩
theorem lk_24_24 : okJ "WingTramsModel" false (56, 0, 190, [12, 23]) := ⟨(RX12, TX12, 76), tyX12, rfl, rfl, okC12, by decide, tg6 203 (by decide +kernel) rfl⟩
theorem lk_24_25 : okJ "WingTramsModel" false (66, 0, 199, [170, 1, 0, 0, 0]) := ⟨m_170, mtg_170, ⟨okM_170, tg7 216 (by decide +kernel) rfl, rfl, rfl, rfl, rfl, fun h => absurd h (by decide)⟩, rfl⟩
theorem lk_24_26 : okJ "WingTramsModel" false (56, 0, 203, [12, 16]) := ⟨(RX12, TX12, 76), tyX12, rfl, rfl, okC12, by decide, tg6 196 (by decide +kernel) rfl⟩
theorem lk_24_27 : okJ "WingTramsModel" false (57, 0, 203, [12, 16, 0]) := ⟨(RX12, TX12, 76), tyX12, rfl, rfl, okC12, by decide, tg6 196 (by decide +kernel) rfl, rfl, fun h => (by cases h), Or.inl ⟨rfl, rfl⟩⟩
theorem lk_24_28 : okJ "WingTramsModel" false (57, 0, 38, [12, 17, 0]) := ⟨(RX12, TX12, 76), tyX12, rfl, rfl, okC12, by decide, tg6 197 (by decide +kernel) rfl, rfl, fun h => (by cases h), Or.inl ⟨rfl, rfl⟩⟩
theorem lk_24_29 : okJ "WingTramsModel" false (56, 0, 177, [12, 25]) := ⟨(RX12, TX12, 76), tyX12, rfl, rfl, okC12, by decide, tg6 205 (by decide +kernel) rfl⟩
theorem lk_24_30 : okJ "WingTramsModel" false (65, 0, 206, [173, 1, 13, 0, 0]) := ⟨m_173, mtg_173, ⟨okM_173, tg7 204 (by decide +kernel) rfl, rfl, rfl, rfl, rfl, fun _ => ⟨(RX12, TX12, 76), by decide, rfl, rfl⟩⟩, rfl, by decide⟩
theorem lk_24_31 : okJ "WingTramsModel" false (65, 0, 210, [168, 1, 13, 0, 0]) := ⟨m_168, mtg_168, ⟨okM_168, tg7 190 (by decide +kernel) rfl, rfl, rfl, rfl, rfl, fun _ => ⟨(RX12, TX12, 76), by decide, rfl, rfl⟩⟩, rfl, by decide⟩
theorem lk_24_32 : okJ "WingTramsModel" false (65, 0, 213, [172, 2, 13, 0, 0]) := ⟨m_172, mtg_172, ⟨okM_172, tg7 223 (by decide +kernel) rfl, rfl, rfl, rfl, rfl, fun _ => ⟨(RX12, TX12, 76), by decide, rfl, rfl⟩⟩, rfl, by decide⟩
theorem lk_24_33 : okJ "WingTramsModel" false (56, 0, 216, [12, 27]) := ⟨(RX12, TX12, 76), tyX12, rfl, rfl, okC12, by decide, tg6 207 (by decide +kernel) rfl⟩
theorem lk_24_34 : okJ "WingTramsModel" false (65, 0, 219, [177, 1, 13, 0, 0]) := ⟨m_177, mtg_177, ⟨okM_177, tg7 239 (by decide +kernel) rfl, rfl, rfl, rfl, rfl, fun _ => ⟨(RX12, TX12, 76), by decide, rfl, rfl⟩⟩, rfl, by decide⟩
theorem lk_24_35 : okJ "WingTramsModel" false (56, 0, 68, [12, 44]) := ⟨(RX12, TX12, 76), tyX12, rfl, rfl, okC12, by decide, tg6 224 (by decide +kernel) rfl⟩
theorem lk_24_36 : okJ "WingTramsModel" false (56, 0, 223, [12, 33]) := ⟨(RX12, TX12, 76), tyX12, rfl, rfl, okC12, by decide, tg6 213 (by decide +kernel) rfl⟩
theorem lk_24_37 : okJ "WingTramsModel" false (57, 0, 223, [12, 33, 0]) := ⟨(RX12, TX12, 76), tyX12, rfl, rfl, okC12, by decide, tg6 213 (by decide +kernel) rfl, rfl, fun h => (by cases h), Or.inl ⟨rfl, rfl⟩⟩
theorem lk_24_38 : okJ "WingTramsModel" false (56, 0, 226, [12, 34]) := ⟨(RX12, TX12, 76), tyX12, rfl, rfl, okC12, by decide, tg6 214 (by decide +kernel) rfl⟩
theorem lk_24_39 : okJ "WingTramsModel" false (56, 0, 71, [12, 45]) := ⟨(RX12, TX12, 76), tyX12, rfl, rfl, okC12, by decide, tg6 225 (by decide +kernel) rfl⟩
theorem lk_24_40 : okJ "WingTramsModel" false (66, 0, 229, [180, 1, 0, 0, 0]) := ⟨m_180, mtg_180, ⟨okM_180, tg8 43 (by decide +kernel) rfl, rfl, rfl, rfl, rfl, fun h => absurd h (by decide)⟩, rfl⟩
theorem lk_24_41 : okJ "WingTramsModel" false (66, 0, 232, [181, 1, 0, 0, 0]) := ⟨m_181, mtg_181, ⟨okM_181, tg8 46 (by decide +kernel) rfl, rfl, rfl, rfl, rfl, fun h => absurd h (by decide)⟩, rfl⟩
theorem lk_24_42 : okJ "WingTramsModel" false (57, 0, 226, [12, 34, 0]) := ⟨(RX12, TX12, 76), tyX12, rfl, rfl, okC12, by decide, tg6 214 (by decide +kernel) rfl, rfl, fun h => (by cases h), Or.inl ⟨rfl, rfl⟩⟩
theorem lk_24_43 : okJ "WingTramsModel" false (65, 0, 235, [179, 2, 13, 0, 0]) := ⟨m_179, mtg_179, ⟨okM_179, tg8 35 (by decide +kernel) rfl, rfl, rfl, rfl, rfl, fun _ => ⟨(RX12, TX12, 76), by decide, rfl, rfl⟩⟩, rfl, by decide⟩
theorem lk_24_44 : okJ "WingTramsModel" false (65, 0, 238, [171, 1, 13, 0, 0]) := ⟨m_171, mtg_171, ⟨okM_171, tg7 212 (by decide +kernel) rfl, rfl, rfl, rfl, rfl, fun _ => ⟨(RX12, TX12, 76), by decide, rfl, rfl⟩⟩, rfl, by decide⟩
theorem lk_24_45 : okJ "WingTramsModel" false (56, 0, 241, [12, 35]) := ⟨(RX12, TX12, 76), tyX12, rfl, rfl, okC12, by decide, tg6 215 (by decide +kernel) rfl⟩
theorem lk_24_46 : okJ "WingTramsModel" false (57, 0, 241, [12, 35, 0]) := ⟨(RX12, TX12, 76), tyX12, rfl, rfl, okC12, by decide, tg6 215 (by decide +kernel) rfl, rfl, fun h => (by cases h), Or.inl ⟨rfl, rfl⟩⟩
theorem lk_24_47 : okJ "WingTramsModel" false (56, 0, 74, [12, 46]) := ⟨(RX12, TX12, 76), tyX12, rfl, rfl, okC12, by decide, tg6 226 (by decide +kernel) rfl⟩
theorem lk_24_48 : okJ "WingTramsModel" false (65, 0, 244, [174, 2, 13, 0, 0]) := ⟨m_174, mtg_174, ⟨okM_174, tg8 19 (by decide +kernel) rfl, rfl, rfl, rfl, rfl, fun _ => ⟨(RX12, TX12, 76), by decide, rfl, rfl⟩⟩, rfl, by decide⟩
theorem lk_24_49 : okJ "WingTramsModel" false (65, 0, 247, [183, 2, 13, 0, 0]) := ⟨m_183, mtg_183, ⟨okM_183, tg8 27 (by decide +kernel) rfl, rfl, rfl, rfl, rfl, fun _ => ⟨(RX12, TX12, 76), by decide, rfl, rfl⟩⟩, rfl, by decide⟩
theorem lk_24_50 : okJ "WingTramsModel" false (65, 0, 250, [185, 1, 13, 0, 0]) := ⟨m_185, mtg_185, ⟨okM_185, tg8 15 (by decide +kernel) rfl, rfl, rfl, rfl, rfl, fun _ => ⟨(RX12, TX12, 76), by decide, rfl, rfl⟩⟩, rfl, by decide⟩
theorem lk_24_51 : okJ "WingTramsModel" false (65, 0, 253, [184, 1, 13, 0, 0]) := ⟨m_184, mtg_184, ⟨okM_184, tg8 31 (by decide +kernel) rfl, rfl, rfl, rfl, rfl, fun _ => ⟨(RX12, TX12, 76), by decide, rfl, rfl⟩⟩, rfl, by decide⟩
theorem lk_24_52 : okJ "WingTramsModel" false (65, 0, 256, [182, 2, 13, 0, 0]) := ⟨m_182, mtg_182, ⟨okM_182, tg8 39 (by decide +kernel) rfl, rfl, rfl, rfl, rfl, fun _ => ⟨(RX12, TX12, 76), by decide, rfl, rfl⟩⟩, rfl, by decide⟩
theorem lk_24_53 : okJ "WingTramsModel" false (65, 0, 259, [186, 2, 13, 0, 0]) := ⟨m_186, mtg_186, ⟨okM_186, tg8 23 (by decide +kernel) rfl, rfl, rfl, rfl, rfl, fun _ => ⟨(RX12, TX12, 76), by decide, rfl, rfl⟩⟩, rfl, by decide⟩
theorem lk_24_54 : okJ "WingTramsModel" false (65, 0, 263, [187, 1, 13, 0, 0]) := ⟨m_187, mtg_187, ⟨okM_187, tg8 49 (by decide +kernel) rfl, rfl, rfl, rfl, rfl, fun _ => ⟨(RX12, TX12, 76), by decide, rfl, rfl⟩⟩, rfl, by decide⟩
theorem lk_24_55 : okJ "WingTramsModel" false (65, 0, 266, [188, 1, 13, 0, 0]) := ⟨m_188, mtg_188, ⟨okM_188, tg8 53 (by decide +kernel) rfl, rfl, rfl, rfl, rfl, fun _ => ⟨(RX12, TX12, 76), by decide, rfl, rfl⟩⟩, rfl, by decide⟩
theorem lk_24_56 : okJ "WingTramsModel" false (56, 0, 269, [12, 28]) := ⟨(RX12, TX12, 76), tyX12, rfl, rfl, okC12, by decide, tg6 208 (by decide +kernel) rfl⟩
theorem lk_24_57 : okJ "WingTramsModel" false (65, 0, 272, [178, 1, 13, 0, 0]) := ⟨m_178, mtg_178, ⟨okM_178, tg7 235 (by decide +kernel) rfl, rfl, rfl, rfl, rfl, fun _ => ⟨(RX12, TX12, 76), by decide, rfl, rfl⟩⟩, rfl, by decide⟩
theorem lk_24_58 : okJ "WingTramsModel" false (56, 0, 47, [12, 37]) := ⟨(RX12, TX12, 76), tyX12, rfl, rfl, okC12, by decide, tg6 217 (by decide +kernel) rfl⟩
theorem lk_24_59 : okJ "WingTramsModel" false (65, 0, 275, [176, 3, 13, 0, 0]) := ⟨m_176, mtg_176, ⟨okM_176, tg7 227 (by decide +kernel) rfl, rfl, rfl, rfl, rfl, fun _ => ⟨(RX12, TX12, 76), by decide, rfl, rfl⟩⟩, rfl, by decide⟩
theorem lk_24_60 : okJ "WingTramsModel" false (57, 0, 269, [12, 28, 0]) := ⟨(RX12, TX12, 76), tyX12, rfl, rfl, okC12, by decide, tg6 208 (by decide +kernel) rfl, rfl, fun h => (by cases h), Or.inl ⟨rfl, rfl⟩⟩
theorem lk_24_61 : okJ "WingTramsModel" false (56, 0, 279, [12, 29]) := ⟨(RX12, TX12, 76), tyX12, rfl, rfl, okC12, by decide, tg6 209 (by decide +kernel) rfl⟩
theorem lk_24_62 : okJ "WingTramsModel" false (56, 0, 50, [12, 38]) := ⟨(RX12, TX12, 76), tyX12, rfl, rfl, okC12, by decide, tg6 218 (by decide +kernel) rfl⟩
theorem lk_24_63 : okJ "WingTramsModel" false (56, 0, 53, [12, 39]) := ⟨(RX12, TX12, 76), tyX12, rfl, rfl, okC12, by decide, tg6 219 (by decide +kernel) rfl⟩
theorem lk_24_64 : okJ "WingTramsModel" false (56, 0, 56, [12, 40]) := ⟨(RX12, TX12, 76), tyX12, rfl, rfl, okC12, by decide, tg6 220 (by decide +kernel) rfl⟩
theorem lk_24_65 : okJ "WingTramsModel" false (56, 0, 59, [12, 41]) := ⟨(RX12, TX12, 76), tyX12, rfl, rfl, okC12, by decide, tg6 221 (by decide +kernel) rfl⟩
theorem lk_24_66 : okJ "WingTramsModel" false (57, 0, 279, [12, 29, 0]) := ⟨(RX12, TX12, 76), tyX12, rfl, rfl, okC12, by decide, tg6 209 (by decide +kernel) rfl, rfl, fun h => (by cases h), Or.inl ⟨rfl, rfl⟩⟩
theorem lk_24_67 : okJ "WingTramsModel" false (56, 0, 282, [12, 30]) := ⟨(RX12, TX12, 76), tyX12, rfl, rfl, okC12, by decide, tg6 210 (by decide +kernel) rfl⟩
theorem lk_24_68 : okJ "WingTramsModel" false (56, 0, 62, [12, 42]) := ⟨(RX12, TX12, 76), tyX12, rfl, rfl, okC12, by decide, tg6 222 (by decide +kernel) rfl⟩
theorem lk_24_69 : okJ "WingTramsModel" false (57, 0, 282, [12, 30, 0]) := ⟨(RX12, TX12, 76), tyX12, rfl, rfl, okC12, by decide, tg6 210 (by decide +kernel) rfl, rfl, fun h => (by cases h), Or.inl ⟨rfl, rfl⟩⟩
theorem lk_24_70 : okJ "WingTramsModel" false (56, 0, 44, [12, 36]) := ⟨(RX12, TX12, 76), tyX12, rfl, rfl, okC12, by decide, tg6 216 (by decide +kernel) rfl⟩
theorem lk_24_71 : okJ "WingTramsModel" false (57, 0, 216, [12, 27, 0]) := ⟨(RX12, TX12, 76), tyX12, rfl, rfl, okC12, by decide, tg6 207 (by decide +kernel) rfl, rfl, fun h => (by cases h), Or.inl ⟨rfl, rfl⟩⟩
theorem lk_24_72 : okJ "WingTramsModel" false (65, 0, 285, [190, 1, 13, 0, 0]) := ⟨m_190, mtg_190, ⟨okM_190, tg7 231 (by decide +kernel) rfl, rfl, rfl, rfl, rfl, fun _ => ⟨(RX12, TX12, 76), by decide, rfl, rfl⟩⟩, rfl, by decide⟩
theorem lk_24_73 : okJ "WingTramsModel" false (65, 0, 288, [191, 2, 13, 0, 0]) := ⟨m_191, mtg_191, ⟨okM_191, tg8 3 (by decide +kernel) rfl, rfl, rfl, rfl, rfl, fun _ => ⟨(RX12, TX12, 76), by decide, rfl, rfl⟩⟩, rfl, by decide⟩
theorem lk_24_74 : okJ "WingTramsModel" false (65, 0, 291, [192, 1, 13, 0, 0]) := ⟨m_192, mtg_192, ⟨okM_192, tg8 7 (by decide +kernel) rfl, rfl, rfl, rfl, rfl, fun _ => ⟨(RX12, TX12, 76), by decide, rfl, rfl⟩⟩, rfl, by decide⟩
theorem lk_24_75 : okJ "WingTramsModel" false (56, 0, 294, [12, 32]) := ⟨(RX12, TX12, 76), tyX12, rfl, rfl, okC12, by decide, tg6 212 (by decide +kernel) rfl⟩
theorem lk_24_76 : okJ "WingTramsModel" false (57, 0, 294, [12, 32, 0]) := ⟨(RX12, TX12, 76), tyX12, rfl, rfl, okC12, by decide, tg6 212 (by decide +kernel) rfl, rfl, fun h => (by cases h), Or.inl ⟨rfl, rfl⟩⟩
theorem lk_24_77 : okJ "WingTramsModel" false (56, 0, 297, [12, 31]) := ⟨(RX12, TX12, 76), tyX12, rfl, rfl, okC12, by decide, tg6 211 (by decide +kernel) rfl⟩
theorem lk_24_78 : okJ "WingTramsModel" false (56, 0, 65, [12, 43]) := ⟨(RX12, TX12, 76), tyX12, rfl, rfl, okC12, by decide, tg6 223 (by decide +kernel) rfl⟩
theorem lk_24_79 : okJ "WingTramsModel" false (57, 0, 297, [12, 31, 0]) := ⟨(RX12, TX12, 76), tyX12, rfl, rfl, okC12, by decide, tg6 211 (by decide +kernel) rfl, rfl, fun h => (by cases h), Or.inl ⟨rfl, rfl⟩⟩
theorem lk_24_80 : okJ "WingTramsModel" false (65, 0, 300, [189, 1, 13, 0, 0]) := ⟨m_189, mtg_189, ⟨okM_189, tg8 11 (by decide +kernel) rfl, rfl, rfl, rfl, rfl, fun _ => ⟨(RX12, TX12, 76), by decide, rfl, rfl⟩⟩, rfl, by decide⟩
theorem lk_24_81 : okJ "WingTramsModel" false (65, 0, 303, [175, 2, 13, 0, 0]) := ⟨m_175, mtg_175, ⟨okM_175, tg8 57 (by decide +kernel) rfl, rfl, rfl, rfl, rfl, fun _ => ⟨(RX12, TX12, 76), by decide, rfl, rfl⟩⟩, rfl, by decide⟩
theorem lk_24_82 : okJ "WingTramsModel" false (65, 0, 306, [158, 3, 13, 0, 0]) := ⟨m_158, mtg_158, ⟨okM_158, tg7 186 (by decide +kernel) rfl, rfl, rfl, rfl, rfl, fun _ => ⟨(RX12, TX12, 76), by decide, rfl, rfl⟩⟩, rfl, by decide⟩
theorem lk_24_83 : okJ "WingTramsModel" false (57, 0, 157, [12, 19, 0]) := ⟨(RX12, TX12, 76), tyX12, rfl, rfl, okC12, by decide, tg6 199 (by decide +kernel) rfl, rfl, fun h => (by cases h), Or.inl ⟨rfl, rfl⟩⟩
theorem lk_24_84 : okJ "WingTramsModel" false (65, 0, 310, [193, 1, 13, 0, 0]) := ⟨m_193, mtg_193, ⟨okM_193, tg7 208 (by decide +kernel) rfl, rfl, rfl, rfl, rfl, fun _ => ⟨(RX12, TX12, 76), by decide, rfl, rfl⟩⟩, rfl, by decide⟩
theorem lk_24_85 : okJ "WingTramsModel" false (56, 0, 41, [12, 18]) := ⟨(RX12, TX12, 76), tyX12, rfl, rfl, okC12, by decide, tg6 198 (by decide +kernel) rfl⟩
theorem lk_24_86 : okJ "WingTramsModel" false (57, 0, 313, [12, 1, 0]) := ⟨(RX12, TX12, 76), tyX12, rfl, rfl, okC12, by decide, tg6 181 (by decide +kernel) rfl, rfl, fun h => (by cases h), Or.inl ⟨rfl, rfl⟩⟩
theorem lk_24_87 : okJ "WingTramsModel" false (57, 0, 316, [12, 2, 0]) := ⟨(RX12, TX12, 76), tyX12, rfl, rfl, okC12, by decide, tg6 182 (by decide +kernel) rfl, rfl, fun h => (by cases h), Or.inl ⟨rfl, rfl⟩⟩
theorem lk_24_88 : okJ "WingTramsModel" false (57, 0, 319, [12, 3, 0]) := ⟨(RX12, TX12, 76), tyX12, rfl, rfl, okC12, by decide, tg6 183 (by decide +kernel) rfl, rfl, fun h => (by cases h), Or.inl ⟨rfl, rfl⟩⟩
theorem lk_24_89 : okJ "WingTramsModel" false (57, 0, 322, [12, 4, 0]) := ⟨(RX12, TX12, 76), tyX12, rfl, rfl, okC12, by decide, tg6 184 (by decide +kernel) rfl, rfl, fun h => (by cases h), Or.inl ⟨rfl, rfl⟩⟩
theorem lk_24_90 : okJ "WingTramsModel" false (57, 0, 325, [12, 5, 0]) := ⟨(RX12, TX12, 76), tyX12, rfl, rfl, okC12, by decide, tg6 185 (by decide +kernel) rfl, rfl, fun h => (by cases h), Or.inl ⟨rfl, rfl⟩⟩
theorem lk_24_91 : okJ "WingTramsModel" false (57, 0, 7, [12, 6, 0]) := ⟨(RX12, TX12, 76), tyX12, rfl, rfl, okC12, by decide, tg6 186 (by decide +kernel) rfl, rfl, fun h => (by cases h), Or.inl ⟨rfl, rfl⟩⟩
theorem lk_24_92 : okJ "WingTramsModel" false (56, 0, 13, [12, 7]) := ⟨(RX12, TX12, 76), tyX12, rfl, rfl, okC12, by decide, tg6 187 (by decide +kernel) rfl⟩
theorem lk_24_93 : okJ "WingTramsModel" false (65, 0, 328, [161, 3, 13, 0, 0]) := ⟨m_161, mtg_161, ⟨okM_161, tg8 61 (by decide +kernel) rfl, rfl, rfl, rfl, rfl, fun _ => ⟨(RX12, TX12, 76), by decide, rfl, rfl⟩⟩, rfl, by decide⟩
theorem lk_24_94 : okJ "WingTramsModel" false (56, 0, 17, [12, 8]) := ⟨(RX12, TX12, 76), tyX12, rfl, rfl, okC12, by decide, tg6 188 (by decide +kernel) rfl⟩
theorem lk_24_95 : okJ "WingTramsModel" false (56, 0, 20, [12, 9]) := ⟨(RX12, TX12, 76), tyX12, rfl, rfl, okC12, by decide, tg6 189 (by decide +kernel) rfl⟩
theorem lk_24_96 : okJ "WingTramsModel" false (56, 0, 23, [12, 10]) := ⟨(RX12, TX12, 76), tyX12, rfl, rfl, okC12, by decide, tg6 190 (by decide +kernel) rfl⟩
theorem lk_24_97 : okJ "WingTramsModel" false (56, 0, 26, [12, 11]) := ⟨(RX12, TX12, 76), tyX12, rfl, rfl, okC12, by decide, tg6 191 (by decide +kernel) rfl⟩
theorem lk_24_98 : okJ "WingTramsModel" false (56, 0, 29, [12, 12]) := ⟨(RX12, TX12, 76), tyX12, rfl, rfl, okC12, by decide, tg6 192 (by decide +kernel) rfl⟩
theorem lk_24_99 : okJ "WingTramsModel" false (56, 0, 32, [12, 13]) := ⟨(RX12, TX12, 76), tyX12, rfl, rfl, okC12, by decide, tg6 193 (by decide +kernel) rfl⟩
theorem lk_24_100 : okJ "WingTramsModel" false (56, 0, 78, [12, 47]) := ⟨(RX12, TX12, 76), tyX12, rfl, rfl, okC12, by decide, tg6 227 (by decide +kernel) rfl⟩
theorem lk_24_101 : okJ "WingTramsModel" false (56, 0, 325, [12, 5]) := ⟨(RX12, TX12, 76), tyX12, rfl, rfl, okC12, by decide, tg6 185 (by decide +kernel) rfl⟩
theorem lk_24_102 : okJ "WingTramsModel" false (65, 0, 332, [199, 1, 13, 0, 0]) := ⟨m_199, mtg_199, ⟨okM_199, tg8 65 (by decide +kernel) rfl, rfl, rfl, rfl, rfl, fun _ => ⟨(RX12, TX12, 76), by decide, rfl, rfl⟩⟩, rfl, by decide⟩
theorem lk_24_103 : okJ "WingTramsModel" false (57, 0, 335, [12, 50, 0]) := ⟨(RX12, TX12, 76), tyX12, rfl, rfl, okC12, by decide, tg6 230 (by decide +kernel) rfl, rfl, fun h => (by cases h), Or.inl ⟨rfl, rfl⟩⟩
theorem lk_24_104 : okJ "WingTramsModel" false (57, 0, 338, [12, 67, 0]) := ⟨(RX12, TX12, 76), tyX12, rfl, rfl, okC12, by decide, tg7 7 (by decide +kernel) rfl, rfl, fun h => (by cases h), Or.inl ⟨rfl, rfl⟩⟩
theorem lk_24_105 : okJ "WingTramsModel" false (57, 0, 341, [12, 65, 1]) := ⟨(RX12, TX12, 76), tyX12, rfl, rfl, okC12, by decide, tg7 5 (by decide +kernel) rfl, rfl, fun h => (by cases h), Or.inr (Or.inl ⟨rfl, rfl⟩)⟩
theorem lk_24_106 : okJ "WingTramsModel" false (57, 0, 345, [12, 70, 1]) := ⟨(RX12, TX12, 76), tyX12, rfl, rfl, okC12, by decide, tg7 10 (by decide +kernel) rfl, rfl, fun h => (by cases h), Or.inr (Or.inl ⟨rfl, rfl⟩)⟩
theorem lk_24_107 : okJ "WingTramsModel" false (56, 0, 38, [12, 17]) := ⟨(RX12, TX12, 76), tyX12, rfl, rfl, okC12, by decide, tg6 197 (by decide +kernel) rfl⟩
theorem lk_24_108 : okJ "WingTramsModel" false (56, 0, 335, [12, 50]) := ⟨(RX12, TX12, 76), tyX12, rfl, rfl, okC12, by decide, tg6 230 (by decide +kernel) rfl⟩
theorem lk_24_109 : okJ "WingTramsModel" false (56, 0, 84, [12, 49]) := ⟨(RX12, TX12, 76), tyX12, rfl, rfl, okC12, by decide, tg6 229 (by decide +kernel) rfl⟩
theorem lk_24_110 : okJ "WingTramsModel" false (56, 0, 87, [12, 51]) := ⟨(RX12, TX12, 76), tyX12, rfl, rfl, okC12, by decide, tg6 231 (by decide +kernel) rfl⟩
theorem lk_24_111 : okJ "WingTramsModel" false (4, 1000000, 348, []) := tg8 69 (by decide +kernel) rfl
theorem lk_24_112 : okJ "WingTramsModel" false (56, 0, 313, [12, 1]) := ⟨(RX12, TX12, 76), tyX12, rfl, rfl, okC12, by decide, tg6 181 (by decide +kernel) rfl⟩
theorem lk_24_113 : okJ "WingTramsModel" false (56, 0, 93, [12, 53]) := ⟨(RX12, TX12, 76), tyX12, rfl, rfl, okC12, by decide, tg6 233 (by decide +kernel) rfl⟩
theorem lk_24_114 : okJ "WingTramsModel" false (56, 0, 90, [12, 52]) := ⟨(RX12, TX12, 76), tyX12, rfl, rfl, okC12, by decide, tg6 232 (by decide +kernel) rfl⟩
theorem lk_24_115 : okJ "WingTramsModel" false (66, 0, 349, [200, 3, 0, 0, 0]) := ⟨m_200, mtg_200, ⟨okM_200, tg8 105 (by decide +kernel) rfl, rfl, rfl, rfl, rfl, fun h => absurd h (by decide)⟩, rfl⟩
theorem lk_24_116 : okJ "WingTramsModel" false (56, 0, 102, [12, 56]) := ⟨(RX12, TX12, 76), tyX12, rfl, rfl, okC12, by decide, tg6 236 (by decide +kernel) rfl⟩
theorem lk_24_117 : okJ "WingTramsModel" false (56, 0, 108, [12, 58]) := ⟨(RX12, TX12, 76), tyX12, rfl, rfl, okC12, by decide, tg6 238 (by decide +kernel) rfl⟩
theorem lk_24_118 : okJ "WingTramsModel" false (56, 0, 111, [12, 59]) := ⟨(RX12, TX12, 76), tyX12, rfl, rfl, okC12, by decide, tg6 239 (by decide +kernel) rfl⟩
theorem lk_24_119 : okJ "WingTramsModel" false (65, 0, 353, [201, 2, 13, 0, 0]) := ⟨m_201, mtg_201, ⟨okM_201, tg8 101 (by decide +kernel) rfl, rfl, rfl, rfl, rfl, fun _ => ⟨(RX12, TX12, 76), by decide, rfl, rfl⟩⟩, rfl, by decide⟩
theorem lk_24_120 : okJ "WingTramsModel" false (56, 0, 319, [12, 3]) := ⟨(RX12, TX12, 76), tyX12, rfl, rfl, okC12, by decide, tg6 183 (by decide +kernel) rfl⟩
theorem lk_24_121 : okJ "WingTramsModel" false (56, 0, 105, [12, 57]) := ⟨(RX12, TX12, 76), tyX12, rfl, rfl, okC12, by decide, tg6 237 (by decide +kernel) rfl⟩
theorem lk_24_122 : okJ "WingTramsModel" false (65, 0, 356, [202, 2, 13, 0, 0]) := ⟨m_202, mtg_202, ⟨okM_202, tg8 93 (by decide +kernel) rfl, rfl, rfl, rfl, rfl, fun _ => ⟨(RX12, TX12, 76), by decide, rfl, rfl⟩⟩, rfl, by decide⟩
theorem lk_24_123 : okJ "WingTramsModel" false (65, 0, 359, [203, 3, 13, 0, 0]) := ⟨m_203, mtg_203, ⟨okM_203, tg8 97 (by decide +kernel) rfl, rfl, rfl, rfl, rfl, fun _ => ⟨(RX12, TX12, 76), by decide, rfl, rfl⟩⟩, rfl, by decide⟩
theorem lk_24_124 : okJ "WingTramsModel" false (56, 0, 96, [12, 54]) := ⟨(RX12, TX12, 76), tyX12, rfl, rfl, okC12, by decide, tg6 234 (by decide +kernel) rfl⟩
theorem lk_24_125 : okJ "WingTramsModel" false (56, 0, 99, [12, 55]) := ⟨(RX12, TX12, 76), tyX12, rfl, rfl, okC12, by decide, tg6 235 (by decide +kernel) rfl⟩
theorem lk_24_126 : okJ "WingTramsModel" false (65, 0, 362, [204, 4, 13, 0, 0]) := ⟨m_204, mtg_204, ⟨okM_204, tg8 108 (by decide +kernel) rfl, rfl, rfl, rfl, rfl, fun _ => ⟨(RX12, TX12, 76), by decide, rfl, rfl⟩⟩, rfl, by decide⟩
theorem lk_24_127 : okJ "WingTramsModel" false (56, 0, 114, [12, 60]) := ⟨(RX12, TX12, 76), tyX12, rfl, rfl, okC12, by decide, tg7 0 (by decide +kernel) rfl⟩
theorem lk_24_128 : okJ "WingTramsModel" false (65, 0, 365, [207, 3, 13, 0, 0]) := ⟨m_207, mtg_207, ⟨okM_207, tg8 120 (by decide +kernel) rfl, rfl, rfl, rfl, rfl, fun _ => ⟨(RX12, TX12, 76), by decide, rfl, rfl⟩⟩, rfl, by decide⟩
theorem lk_24_129 : okJ "WingTramsModel" false (65, 0, 369, [208, 6, 13, 0, 0]) := ⟨m_208, mtg_208, ⟨okM_208, tg8 124 (by decide +kernel) rfl, rfl, rfl, rfl, rfl, fun _ => ⟨(RX12, TX12, 76), by decide, rfl, rfl⟩⟩, rfl, by decide⟩
theorem lk_24_130 : okJ "WingTramsModel" false (65, 0, 373, [209, 2, 13, 0, 0]) := ⟨m_209, mtg_209, ⟨okM_209, tg8 116 (by decide +kernel) rfl, rfl, rfl, rfl, rfl, fun _ => ⟨(RX12, TX12, 76), by decide, rfl, rfl⟩⟩, rfl, by decide⟩
theorem lk_24_131 : okJ "WingTramsModel" false (65, 0, 376, [210, 2, 13, 0, 0]) := ⟨m_210, mtg_210, ⟨okM_210, tg8 128 (by decide +kernel) rfl, rfl, rfl, rfl, rfl, fun _ => ⟨(RX12, TX12, 76), by decide, rfl, rfl⟩⟩, rfl, by decide⟩
theorem lk_24_132 : okJ "WingTramsModel" false (56, 0, 7, [12, 6]) := ⟨(RX12, TX12, 76), tyX12, rfl, rfl, okC12, by decide, tg6 186 (by decide +kernel) rfl⟩
theorem lk_24_133 : okJ "WingTramsModel" false (65, 0, 379, [205, 1, 13, 0, 0]) := ⟨m_205, mtg_205, ⟨okM_205, tg8 89 (by decide +kernel) rfl, rfl, rfl, rfl, rfl, fun _ => ⟨(RX12, TX12, 76), by decide, rfl, rfl⟩⟩, rfl, by decide⟩
theorem lk_24_134 : okJ "WingTramsModel" false (56, 0, 322, [12, 4]) := ⟨(RX12, TX12, 76), tyX12, rfl, rfl, okC12, by decide, tg6 184 (by decide +kernel) rfl⟩
theorem lk_24_135 : okJ "WingTramsModel" false (65, 0, 382, [211, 2, 13, 0, 0]) := ⟨m_211, mtg_211, ⟨okM_211, tg8 112 (by decide +kernel) rfl, rfl, rfl, rfl, rfl, fun _ => ⟨(RX12, TX12, 76), by decide, rfl, rfl⟩⟩, rfl, by decide⟩
theorem lk_24_136 : okJ "WingTramsModel" false (66, 0, 385, [159, 3, 0, 0, 0]) := ⟨m_159, mtg_159, ⟨okM_159, tg8 82 (by decide +kernel) rfl, rfl, rfl, rfl, rfl, fun h => absurd h (by decide)⟩, rfl⟩
theorem lk_24_137 : okJ "WingTramsModel" false (56, 0, 316, [12, 2]) := ⟨(RX12, TX12, 76), tyX12, rfl, rfl, okC12, by decide, tg6 182 (by decide +kernel) rfl⟩
theorem lk_24_138 : okJ "WingTramsModel" false (65, 0, 389, [213, 1, 13, 0, 0]) := ⟨m_213, mtg_213, ⟨okM_213, tg8 85 (by decide +kernel) rfl, rfl, rfl, rfl, rfl, fun _ => ⟨(RX12, TX12, 76), by decide, rfl, rfl⟩⟩, rfl, by decide⟩
theorem lk_24_139 : okJ "WingTramsModel" false (56, 0, 338, [12, 67]) := ⟨(RX12, TX12, 76), tyX12, rfl, rfl, okC12, by decide, tg7 7 (by decide +kernel) rfl⟩
theorem lk_24_140 : okJ "WingTramsModel" false (65, 0, 392, [215, 2, 13, 0, 0]) := ⟨m_215, mtg_215, ⟨okM_215, tg8 136 (by decide +kernel) rfl, rfl, rfl, rfl, rfl, fun _ => ⟨(RX12, TX12, 76), by decide, rfl, rfl⟩⟩, rfl, by decide⟩
theorem lk_24_141 : okJ "WingTramsModel" false (65, 0, 395, [218, 3, 13, 0, 0]) := ⟨m_218, mtg_218, ⟨okM_218, tg8 140 (by decide +kernel) rfl, rfl, rfl, rfl, rfl, fun _ => ⟨(RX12, TX12, 76), by decide, rfl, rfl⟩⟩, rfl, by decide⟩
theorem lk_24_142 : okJ "WingTramsModel" false (65, 0, 399, [206, 3, 13, 0, 0]) := ⟨m_206, mtg_206, ⟨okM_206, tg8 160 (by decide +kernel) rfl, rfl, rfl, rfl, rfl, fun _ => ⟨(RX12, TX12, 76), by decide, rfl, rfl⟩⟩, rfl, by decide⟩
theorem lk_24_143 : okJ "WingTramsModel" false (65, 0, 402, [216, 2, 13, 0, 0]) := ⟨m_216, mtg_216, ⟨okM_216, tg8 152 (by decide +kernel) rfl, rfl, rfl, rfl, rfl, fun _ => ⟨(RX12, TX12, 76), by decide, rfl, rfl⟩⟩, rfl, by decide⟩
theorem lk_24_144 : okJ "WingTramsModel" false (65, 0, 405, [221, 2, 13, 0, 0]) := ⟨m_221, mtg_221, ⟨okM_221, tg8 156 (by decide +kernel) rfl, rfl, rfl, rfl, rfl, fun _ => ⟨(RX12, TX12, 76), by decide, rfl, rfl⟩⟩, rfl, by decide⟩
theorem lk_24_145 : okJ "WingTramsModel" false (65, 0, 408, [217, 2, 13, 0, 0]) := ⟨m_217, mtg_217, ⟨okM_217, tg8 172 (by decide +kernel) rfl, rfl, rfl, rfl, rfl, fun _ => ⟨(RX12, TX12, 76), by decide, rfl, rfl⟩⟩, rfl, by decide⟩
theorem lk_24_146 : okJ "WingTramsModel" false (65, 0, 411, [196, 2, 13, 0, 0]) := ⟨m_196, mtg_196, ⟨okM_196, tg8 184 (by decide +kernel) rfl, rfl, rfl, rfl, rfl, fun _ => ⟨(RX12, TX12, 76), by decide, rfl, rfl⟩⟩, rfl, by decide⟩
theorem lk_24_147 : okJ "WingTramsModel" false (65, 0, 414, [197, 3, 13, 0, 0]) := ⟨m_197, mtg_197, ⟨okM_197, tg8 188 (by decide +kernel) rfl, rfl, rfl, rfl, rfl, fun _ => ⟨(RX12, TX12, 76), by decide, rfl, rfl⟩⟩, rfl, by decide⟩
theorem lk_24_148 : okJ "WingTramsModel" false (66, 0, 417, [232, 1, 0, 0, 0]) := ⟨m_232, mtg_232, ⟨okM_232, tg8 216 (by decide +kernel) rfl, rfl, rfl, rfl, rfl, fun h => absurd h (by decide)⟩, rfl⟩
theorem lk_24_149 : okJ "WingTramsModel" false (56, 0, 117, [12, 61]) := ⟨(RX12, TX12, 76), tyX12, rfl, rfl, okC12, by decide, tg7 1 (by decide +kernel) rfl⟩
theorem lk_24_150 : okJ "WingTramsModel" false (65, 0, 420, [234, 2, 13, 0, 0]) := ⟨m_234, mtg_234, ⟨okM_234, tg8 223 (by decide +kernel) rfl, rfl, rfl, rfl, rfl, fun _ => ⟨(RX12, TX12, 76), by decide, rfl, rfl⟩⟩, rfl, by decide⟩
theorem lk_24_151 : okJ "WingTramsModel" false (56, 0, 120, [12, 62]) := ⟨(RX12, TX12, 76), tyX12, rfl, rfl, okC12, by decide, tg7 2 (by decide +kernel) rfl⟩
theorem lk_24_152 : okJ "WingTramsModel" false (65, 0, 423, [212, 2, 13, 0, 0]) := ⟨m_212, mtg_212, ⟨okM_212, tg8 235 (by decide +kernel) rfl, rfl, rfl, rfl, rfl, fun _ => ⟨(RX12, TX12, 76), by decide, rfl, rfl⟩⟩, rfl, by decide⟩
theorem lk_24_153 : okJ "WingTramsModel" false (56, 0, 126, [12, 64]) := ⟨(RX12, TX12, 76), tyX12, rfl, rfl, okC12, by decide, tg7 4 (by decide +kernel) rfl⟩
theorem lk_24_154 : okJ "WingTramsModel" false (65, 0, 426, [239, 3, 13, 0, 0]) := ⟨m_239, mtg_239, ⟨okM_239, tg9 7 (by decide +kernel) rfl, rfl, rfl, rfl, rfl, fun _ => ⟨(RX12, TX12, 76), by decide, rfl, rfl⟩⟩, rfl, by decide⟩
theorem lk_24_155 : okJ "WingTramsModel" false (56, 0, 123, [12, 63]) := ⟨(RX12, TX12, 76), tyX12, rfl, rfl, okC12, by decide, tg7 3 (by decide +kernel) rfl⟩
theorem lk_24_156 : okJ "WingTramsModel" false (56, 0, 341, [12, 65]) := ⟨(RX12, TX12, 76), tyX12, rfl, rfl, okC12, by decide, tg7 5 (by decide +kernel) rfl⟩
theorem lk_24_157 : okJ "WingTramsModel" false (66, 0, 429, [162, 1, 0, 0, 0]) := ⟨m_162, mtg_162, ⟨okM_162, tg9 19 (by decide +kernel) rfl, rfl, rfl, rfl, rfl, fun h => absurd h (by decide)⟩, rfl⟩
theorem lk_24_158 : okJ "WingTramsModel" false (56, 0, 129, [12, 66]) := ⟨(RX12, TX12, 76), tyX12, rfl, rfl, okC12, by decide, tg7 6 (by decide +kernel) rfl⟩
theorem lk_24_159 : okJ "WingTramsModel" false (65, 0, 432, [243, 4, 13, 0, 0]) := ⟨m_243, mtg_243, ⟨okM_243, tg9 30 (by decide +kernel) rfl, rfl, rfl, rfl, rfl, fun _ => ⟨(RX12, TX12, 76), by decide, rfl, rfl⟩⟩, rfl, by decide⟩
theorem lk_24_160 : okJ "WingTramsModel" false (65, 0, 435, [244, 5, 13, 0, 0]) := ⟨m_244, mtg_244, ⟨okM_244, tg9 34 (by decide +kernel) rfl, rfl, rfl, rfl, rfl, fun _ => ⟨(RX12, TX12, 76), by decide, rfl, rfl⟩⟩, rfl, by decide⟩
theorem lk_24_161 : okJ "WingTramsModel" false (65, 0, 439, [245, 3, 13, 0, 0]) := ⟨m_245, mtg_245, ⟨okM_245, tg9 26 (by decide +kernel) rfl, rfl, rfl, rfl, rfl, fun _ => ⟨(RX12, TX12, 76), by decide, rfl, rfl⟩⟩, rfl, by decide⟩
theorem lk_24_162 : okJ "WingTramsModel" false (65, 0, 442, [247, 2, 13, 0, 0]) := ⟨m_247, mtg_247, ⟨okM_247, tg9 42 (by decide +kernel) rfl, rfl, rfl, rfl, rfl, fun _ => ⟨(RX12, TX12, 76), by decide, rfl, rfl⟩⟩, rfl, by decide⟩
theorem lk_24_163 : okJ "WingTramsModel" false (65, 0, 445, [252, 4, 13, 0, 0]) := ⟨m_252, mtg_252, ⟨okM_252, tg9 62 (by decide +kernel) rfl, rfl, rfl, rfl, rfl, fun _ => ⟨(RX12, TX12, 76), by decide, rfl, rfl⟩⟩, rfl, by decide⟩
theorem lk_24_164 : okJ "WingTramsModel" false (56, 0, 132, [12, 68]) := ⟨(RX12, TX12, 76), tyX12, rfl, rfl, okC12, by decide, tg7 8 (by decide +kernel) rfl⟩
theorem lk_24_165 : okJ "WingTramsModel" false (65, 0, 448, [258, 2, 13, 0, 0]) := ⟨m_258, mtg_258, ⟨okM_258, tg9 86 (by decide +kernel) rfl, rfl, rfl, rfl, rfl, fun _ => ⟨(RX12, TX12, 76), by decide, rfl, rfl⟩⟩, rfl, by decide⟩
theorem lk_24_166 : okJ "WingTramsModel" false (56, 0, 135, [12, 69]) := ⟨(RX12, TX12, 76), tyX12, rfl, rfl, okC12, by decide, tg7 9 (by decide +kernel) rfl⟩
theorem lk_24_167 : okJ "WingTramsModel" false (66, 0, 451, [160, 2, 0, 0, 0]) := ⟨m_160, mtg_160, ⟨okM_160, tg9 94 (by decide +kernel) rfl, rfl, rfl, rfl, rfl, fun h => absurd h (by decide)⟩, rfl⟩
theorem lk_24_168 : okJ "WingTramsModel" false (65, 0, 454, [261, 2, 13, 0, 0]) := ⟨m_261, mtg_261, ⟨okM_261, tg9 105 (by decide +kernel) rfl, rfl, rfl, rfl, rfl, fun _ => ⟨(RX12, TX12, 76), by decide, rfl, rfl⟩⟩, rfl, by decide⟩
theorem lk_24_169 : okJ "WingTramsModel" false (65, 0, 457, [262, 4, 13, 0, 0]) := ⟨m_262, mtg_262, ⟨okM_262, tg9 101 (by decide +kernel) rfl, rfl, rfl, rfl, rfl, fun _ => ⟨(RX12, TX12, 76), by decide, rfl, rfl⟩⟩, rfl, by decide⟩
theorem lk_24_170 : okJ "WingTramsModel" false (56, 0, 81, [12, 48]) := ⟨(RX12, TX12, 76), tyX12, rfl, rfl, okC12, by decide, tg6 228 (by decide +kernel) rfl⟩
theorem lk_24_171 : okJ "WingTramsModel" false (4, 1103515245, 461, []) := tg9 113 (by decide +kernel) rfl
theorem lk_24_172 : okJ "WingTramsModel" false (57, 0, 462, [12, 71, 0]) := ⟨(RX12, TX12, 76), tyX12, rfl, rfl, okC12, by decide, tg7 11 (by decide +kernel) rfl, rfl, fun h => (by cases h), Or.inl ⟨rfl, rfl⟩⟩
theorem lk_24_173 : okJ "WingTramsModel" false (57, 0, 465, [12, 72, 0]) := ⟨(RX12, TX12, 76), tyX12, rfl, rfl, okC12, by decide, tg7 12 (by decide +kernel) rfl, rfl, fun h => (by cases h), Or.inl ⟨rfl, rfl⟩⟩
theorem lk_24_174 : okJ "WingTramsModel" false (56, 0, 138, [12, 73]) := ⟨(RX12, TX12, 76), tyX12, rfl, rfl, okC12, by decide, tg7 13 (by decide +kernel) rfl⟩
theorem lk_24_175 : okJ "WingTramsModel" false (56, 0, 141, [12, 74]) := ⟨(RX12, TX12, 76), tyX12, rfl, rfl, okC12, by decide, tg7 14 (by decide +kernel) rfl⟩
theorem lk_24_176 : okJ "WingTramsModel" false (56, 0, 144, [12, 75]) := ⟨(RX12, TX12, 76), tyX12, rfl, rfl, okC12, by decide, tg7 15 (by decide +kernel) rfl⟩
theorem lk_24_177 : okJ "WingTramsModel" false (56, 0, 345, [12, 70]) := ⟨(RX12, TX12, 76), tyX12, rfl, rfl, okC12, by decide, tg7 10 (by decide +kernel) rfl⟩
theorem lk_24_178 : okJ "WingTramsModel" false (56, 0, 462, [12, 71]) := ⟨(RX12, TX12, 76), tyX12, rfl, rfl, okC12, by decide, tg7 11 (by decide +kernel) rfl⟩
theorem lk_24_179 : okJ "WingTramsModel" false (56, 0, 465, [12, 72]) := ⟨(RX12, TX12, 76), tyX12, rfl, rfl, okC12, by decide, tg7 12 (by decide +kernel) rfl⟩
set_option maxRecDepth 100000 in
theorem LK_24_ok : ∀ q ∈ LK_24, okJ "WingTramsModel" false q := List.forall_mem_cons.mpr ⟨lk_24_0, List.forall_mem_cons.mpr ⟨lk_24_1, List.forall_mem_cons.mpr ⟨lk_24_2, List.forall_mem_cons.mpr ⟨lk_24_3, List.forall_mem_cons.mpr ⟨lk_24_4, List.forall_mem_cons.mpr ⟨lk_24_5, List.forall_mem_cons.mpr ⟨lk_24_6, List.forall_mem_cons.mpr ⟨lk_24_7, List.forall_mem_cons.mpr ⟨lk_24_8, List.forall_mem_cons.mpr ⟨lk_24_9, List.forall_mem_cons.mpr ⟨lk_24_10, List.forall_mem_cons.mpr ⟨lk_24_11, List.forall_mem_cons.mpr ⟨lk_24_12, List.forall_mem_cons.mpr ⟨lk_24_13, List.forall_mem_cons.mpr ⟨lk_24_14, List.forall_mem_cons.mpr ⟨lk_24_15, List.forall_mem_cons.mpr ⟨lk_24_16, List.forall_mem_cons.mpr ⟨lk_24_17, List.forall_mem_cons.mpr ⟨lk_24_18, List.forall_mem_cons.mpr ⟨lk_24_19, List.forall_mem_cons.mpr ⟨lk_24_20, List.forall_mem_cons.mpr ⟨lk_24_21, List.forall_mem_cons.mpr ⟨lk_24_22, List.forall_mem_cons.mpr ⟨lk_24_23, List.forall_mem_cons.mpr ⟨lk_24_24, List.forall_mem_cons.mpr ⟨lk_24_25, List.forall_mem_cons.mpr ⟨lk_24_26, List.forall_mem_cons.mpr ⟨lk_24_27, List.forall_mem_cons.mpr ⟨lk_24_28, List.forall_mem_cons.mpr ⟨lk_24_29, List.forall_mem_cons.mpr ⟨lk_24_30, List.forall_mem_cons.mpr ⟨lk_24_31, List.forall_mem_cons.mpr ⟨lk_24_32, List.forall_mem_cons.mpr ⟨lk_24_33, List.forall_mem_cons.mpr ⟨lk_24_34, List.forall_mem_cons.mpr ⟨lk_24_35, List.forall_mem_cons.mpr ⟨lk_24_36, List.forall_mem_cons.mpr ⟨lk_24_37, List.forall_mem_cons.mpr ⟨lk_24_38, List.forall_mem_cons.mpr ⟨lk_24_39, List.forall_mem_cons.mpr ⟨lk_24_40, List.forall_mem_cons.mpr ⟨lk_24_41, List.forall_mem_cons.mpr ⟨lk_24_42, List.forall_mem_cons.mpr ⟨lk_24_43, List.forall_mem_cons.mpr ⟨lk_24_44, List.forall_mem_cons.mpr ⟨lk_24_45, List.forall_mem_cons.mpr ⟨lk_24_46, List.forall_mem_cons.mpr ⟨lk_24_47, List.forall_mem_cons.mpr ⟨lk_24_48, List.forall_mem_cons.mpr ⟨lk_24_49, List.forall_mem_cons.mpr ⟨lk_24_50, List.forall_mem_cons.mpr ⟨lk_24_51, List.forall_mem_cons.mpr ⟨lk_24_52, List.forall_mem_cons.mpr ⟨lk_24_53, List.forall_mem_cons.mpr ⟨lk_24_54, List.forall_mem_cons.mpr ⟨lk_24_55, List.forall_mem_cons.mpr ⟨lk_24_56, List.forall_mem_cons.mpr ⟨lk_24_57, List.forall_mem_cons.mpr ⟨lk_24_58, List.forall_mem_cons.mpr ⟨lk_24_59, List.forall_mem_cons.mpr ⟨lk_24_60, List.forall_mem_cons.mpr ⟨lk_24_61, List.forall_mem_cons.mpr ⟨lk_24_62, List.forall_mem_cons.mpr ⟨lk_24_63, List.forall_mem_cons.mpr ⟨lk_24_64, List.forall_mem_cons.mpr ⟨lk_24_65, List.forall_mem_cons.mpr ⟨lk_24_66, List.forall_mem_cons.mpr ⟨lk_24_67, List.forall_mem_cons.mpr ⟨lk_24_68, List.forall_mem_cons.mpr ⟨lk_24_69, List.forall_mem_cons.mpr ⟨lk_24_70, List.forall_mem_cons.mpr ⟨lk_24_71, List.forall_mem_cons.mpr ⟨lk_24_72, List.forall_mem_cons.mpr ⟨lk_24_73, List.forall_mem_cons.mpr ⟨lk_24_74, List.forall_mem_cons.mpr ⟨lk_24_75, List.forall_mem_cons.mpr ⟨lk_24_76, List.forall_mem_cons.mpr ⟨lk_24_77, List.forall_mem_cons.mpr ⟨lk_24_78, List.forall_mem_cons.mpr ⟨lk_24_79, List.forall_mem_cons.mpr ⟨lk_24_80, List.forall_mem_cons.mpr ⟨lk_24_81, List.forall_mem_cons.mpr ⟨lk_24_82, List.forall_mem_cons.mpr ⟨lk_24_83, List.forall_mem_cons.mpr ⟨lk_24_84, List.forall_mem_cons.mpr ⟨lk_24_85, List.forall_mem_cons.mpr ⟨lk_24_86, List.forall_mem_cons.mpr ⟨lk_24_87, List.forall_mem_cons.mpr ⟨lk_24_88, List.forall_mem_cons.mpr ⟨lk_24_89, List.forall_mem_cons.mpr ⟨lk_24_90, List.forall_mem_cons.mpr ⟨lk_24_91, List.forall_mem_cons.mpr ⟨lk_24_92, List.forall_mem_cons.mpr ⟨lk_24_93, List.forall_mem_cons.mpr ⟨lk_24_94, List.forall_mem_cons.mpr ⟨lk_24_95, List.forall_mem_cons.mpr ⟨lk_24_96, List.forall_mem_cons.mpr ⟨lk_24_97, List.forall_mem_cons.mpr ⟨lk_24_98, List.forall_mem_cons.mpr ⟨lk_24_99, List.forall_mem_cons.mpr ⟨lk_24_100, List.forall_mem_cons.mpr ⟨lk_24_101, List.forall_mem_cons.mpr ⟨lk_24_102, List.forall_mem_cons.mpr ⟨lk_24_103, List.forall_mem_cons.mpr ⟨lk_24_104, List.forall_mem_cons.mpr ⟨lk_24_105, List.forall_mem_cons.mpr ⟨lk_24_106, List.forall_mem_cons.mpr ⟨lk_24_107, List.forall_mem_cons.mpr ⟨lk_24_108, List.forall_mem_cons.mpr ⟨lk_24_109, List.forall_mem_cons.mpr ⟨lk_24_110, List.forall_mem_cons.mpr ⟨lk_24_111, List.forall_mem_cons.mpr ⟨lk_24_112, List.forall_mem_cons.mpr ⟨lk_24_113, List.forall_mem_cons.mpr ⟨lk_24_114, List.forall_mem_cons.mpr ⟨lk_24_115, List.forall_mem_cons.mpr ⟨lk_24_116, List.forall_mem_cons.mpr ⟨lk_24_117, List.forall_mem_cons.mpr ⟨lk_24_118, List.forall_mem_cons.mpr ⟨lk_24_119, List.forall_mem_cons.mpr ⟨lk_24_120, List.forall_mem_cons.mpr ⟨lk_24_121, List.forall_mem_cons.mpr ⟨lk_24_122, List.forall_mem_cons.mpr ⟨lk_24_123, List.forall_mem_cons.mpr ⟨lk_24_124, List.forall_mem_cons.mpr ⟨lk_24_125, List.forall_mem_cons.mpr ⟨lk_24_126, List.forall_mem_cons.mpr ⟨lk_24_127, List.forall_mem_cons.mpr ⟨lk_24_128, List.forall_mem_cons.mpr ⟨lk_24_129, List.forall_mem_cons.mpr ⟨lk_24_130, List.forall_mem_cons.mpr ⟨lk_24_131, List.forall_mem_cons.mpr ⟨lk_24_132, List.forall_mem_cons.mpr ⟨lk_24_133, List.forall_mem_cons.mpr ⟨lk_24_134, List.forall_mem_cons.mpr ⟨lk_24_135, List.forall_mem_cons.mpr ⟨lk_24_136, List.forall_mem_cons.mpr ⟨lk_24_137, List.forall_mem_cons.mpr ⟨lk_24_138, List.forall_mem_cons.mpr ⟨lk_24_139, List.forall_mem_cons.mpr ⟨lk_24_140, List.forall_mem_cons.mpr ⟨lk_24_141, List.forall_mem_cons.mpr ⟨lk_24_142, List.forall_mem_cons.mpr ⟨lk_24_143, List.forall_mem_cons.mpr ⟨lk_24_144, List.forall_mem_cons.mpr ⟨lk_24_145, List.forall_mem_cons.mpr ⟨lk_24_146, List.forall_mem_cons.mpr ⟨lk_24_147, List.forall_mem_cons.mpr ⟨lk_24_148, List.forall_mem_cons.mpr ⟨lk_24_149, List.forall_mem_cons.mpr ⟨lk_24_150, List.forall_mem_cons.mpr ⟨lk_24_151, List.forall_mem_cons.mpr ⟨lk_24_152, List.forall_mem_cons.mpr ⟨lk_24_153, List.forall_mem_cons.mpr ⟨lk_24_154, List.forall_mem_cons.mpr ⟨lk_24_155, List.forall_mem_cons.mpr ⟨lk_24_156, List.forall_mem_cons.mpr ⟨lk_24_157, List.forall_mem_cons.mpr ⟨lk_24_158, List.forall_mem_cons.mpr ⟨lk_24_159, List.forall_mem_cons.mpr ⟨lk_24_160, List.forall_mem_cons.mpr ⟨lk_24_161, List.forall_mem_cons.mpr ⟨lk_24_162, List.forall_mem_cons.mpr ⟨lk_24_163, List.forall_mem_cons.mpr ⟨lk_24_164, List.forall_mem_cons.mpr ⟨lk_24_165, List.forall_mem_cons.mpr ⟨lk_24_166, List.forall_mem_cons.mpr ⟨lk_24_167, List.forall_mem_cons.mpr ⟨lk_24_168, List.forall_mem_cons.mpr ⟨lk_24_169, List.forall_mem_cons.mpr ⟨lk_24_170, List.forall_mem_cons.mpr ⟨lk_24_171, List.forall_mem_cons.mpr ⟨lk_24_172, List.forall_mem_cons.mpr ⟨lk_24_173, List.forall_mem_cons.mpr ⟨lk_24_174, List.forall_mem_cons.mpr ⟨lk_24_175, List.forall_mem_cons.mpr ⟨lk_24_176, List.forall_mem_cons.mpr ⟨lk_24_177, List.forall_mem_cons.mpr ⟨lk_24_178, List.forall_mem_cons.mpr ⟨lk_24_179, fun _ h => absurd h List.not_mem_nil⟩⟩⟩⟩⟩⟩⟩⟩⟩⟩⟩⟩⟩⟩⟩⟩⟩⟩⟩⟩⟩⟩⟩⟩⟩⟩⟩⟩⟩⟩⟩⟩⟩⟩⟩⟩⟩⟩⟩⟩⟩⟩⟩⟩⟩⟩⟩⟩⟩⟩⟩⟩⟩⟩⟩⟩⟩⟩⟩⟩⟩⟩⟩⟩⟩⟩⟩⟩⟩⟩⟩⟩⟩⟩⟩⟩⟩⟩⟩⟩⟩⟩⟩⟩⟩⟩⟩⟩⟩⟩⟩⟩⟩⟩⟩⟩⟩⟩⟩⟩⟩⟩⟩⟩⟩⟩⟩⟩⟩⟩⟩⟩⟩⟩⟩⟩⟩⟩⟩⟩⟩⟩⟩⟩⟩⟩⟩⟩⟩⟩⟩⟩⟩⟩⟩⟩⟩⟩⟩⟩⟩⟩⟩⟩⟩⟩⟩⟩⟩⟩⟩⟩⟩⟩⟩⟩⟩⟩⟩⟩⟩⟩⟩⟩⟩⟩⟩⟩⟩⟩⟩⟩⟩⟩⟩⟩⟩⟩⟩⟩
def LK_25 : List dI := [(68, 0, 1, []), (57, 0, 7, [12, 6, 0]), (70, 0, 0, [0]), (79, 0, 13, [12, 7, 3]), (79, 0, 17, [12, 8, 3]), (79, 0, 20, [12, 9, 3]), (79, 0, 23, [12, 10, 3]), (79, 0, 26, [12, 11, 3]), (79, 0, 29, [12, 12, 3]), (79, 0, 32, [12, 13, 3]), (79, 0, 35, [12, 14, 3]), (57, 0, 38, [12, 17, 0]), (79, 0, 41, [12, 18, 3]), (79, 0, 44, [12, 36, 3]), (79, 0, 47, [12, 37, 3]), (79, 0, 50, [12, 38, 3]), (79, 0, 53, [12, 39, 3]), (79, 0, 56, [12, 40, 3]), (79, 0, 59, [12, 41, 3]), (79, 0, 62, [12, 42, 3]), (79, 0, 65, [12, 43, 3]), (79, 0, 68, [12, 44, 3]), (79, 0, 71, [12, 45, 3]), (70, 0, 0, [1]), (79, 0, 74, [12, 46, 3]), (79, 0, 78, [12, 47, 3]), (79, 0, 81, [12, 48, 3]), (79, 0, 84, [12, 49, 3]), (79, 0, 87, [12, 51, 3]), (79, 0, 90, [12, 52, 3]), (79, 0, 93, [12, 53, 3]), (79, 0, 96, [12, 54, 3]), (79, 0, 99, [12, 55, 3]), (79, 0, 102, [12, 56, 3]), (79, 0, 105, [12, 57, 3]), (79, 0, 108, [12, 58, 3]), (79, 0, 111, [12, 59, 3]), (79, 0, 114, [12, 60, 3]), (79, 0, 117, [12, 61, 3]), (79, 0, 120, [12, 62, 3]), (79, 0, 123, [12, 63, 3]), (79, 0, 126, [12, 64, 3]), (79, 0, 129, [12, 66, 3]), (79, 0, 132, [12, 68, 3]), (79, 0, 135, [12, 69, 3]), (79, 0, 138, [12, 73, 3]), (79, 0, 141, [12, 74, 3]), (79, 0, 144, [12, 75, 3])]
theorem lk_25_0 : okJ "WingTramsModel" true (68, 0, 1, []) := ⟨tg6 179 (by decide +kernel) rfl, tg1 32 (by decide +kernel) rfl, tg1 33 (by decide +kernel) rfl⟩
theorem lk_25_1 : okJ "WingTramsModel" true (57, 0, 7, [12, 6, 0]) := ⟨(RX12, TX12, 76), tyX12, rfl, rfl, okC12, by decide, tg6 186 (by decide +kernel) rfl, rfl, fun h => (by cases h), Or.inl ⟨rfl, rfl⟩⟩
theorem lk_25_2 : okJ "WingTramsModel" true (70, 0, 0, [0]) := tg1 44 (by decide +kernel) rfl
theorem lk_25_3 : okJ "WingTramsModel" true (79, 0, 13, [12, 7, 3]) := ⟨(RX12, TX12, 76), tyX12, rfl, rfl, okC12, by decide, tg6 187 (by decide +kernel) rfl, rfl, fun h => rfl, Or.inr (Or.inr (Or.inr ⟨rfl, fun _ => ⟨rfl, rfl⟩⟩))⟩
theorem lk_25_4 : okJ "WingTramsModel" true (79, 0, 17, [12, 8, 3]) := ⟨(RX12, TX12, 76), tyX12, rfl, rfl, okC12, by decide, tg6 188 (by decide +kernel) rfl, rfl, fun h => rfl, Or.inr (Or.inr (Or.inr ⟨rfl, fun _ => ⟨rfl, rfl⟩⟩))⟩
theorem lk_25_5 : okJ "WingTramsModel" true (79, 0, 20, [12, 9, 3]) := ⟨(RX12, TX12, 76), tyX12, rfl, rfl, okC12, by decide, tg6 189 (by decide +kernel) rfl, rfl, fun h => rfl, Or.inr (Or.inr (Or.inr ⟨rfl, fun _ => ⟨rfl, rfl⟩⟩))⟩
theorem lk_25_6 : okJ "WingTramsModel" true (79, 0, 23, [12, 10, 3]) := ⟨(RX12, TX12, 76), tyX12, rfl, rfl, okC12, by decide, tg6 190 (by decide +kernel) rfl, rfl, fun h => rfl, Or.inr (Or.inr (Or.inr ⟨rfl, fun _ => ⟨rfl, rfl⟩⟩))⟩
theorem lk_25_7 : okJ "WingTramsModel" true (79, 0, 26, [12, 11, 3]) := ⟨(RX12, TX12, 76), tyX12, rfl, rfl, okC12, by decide, tg6 191 (by decide +kernel) rfl, rfl, fun h => rfl, Or.inr (Or.inr (Or.inr ⟨rfl, fun _ => ⟨rfl, rfl⟩⟩))⟩
theorem lk_25_8 : okJ "WingTramsModel" true (79, 0, 29, [12, 12, 3]) := ⟨(RX12, TX12, 76), tyX12, rfl, rfl, okC12, by decide, tg6 192 (by decide +kernel) rfl, rfl, fun h => rfl, Or.inr (Or.inr (Or.inr ⟨rfl, fun _ => ⟨rfl, rfl⟩⟩))⟩
theorem lk_25_9 : okJ "WingTramsModel" true (79, 0, 32, [12, 13, 3]) := ⟨(RX12, TX12, 76), tyX12, rfl, rfl, okC12, by decide, tg6 193 (by decide +kernel) rfl, rfl, fun h => rfl, Or.inr (Or.inr (Or.inr ⟨rfl, fun _ => ⟨rfl, rfl⟩⟩))⟩
theorem lk_25_10 : okJ "WingTramsModel" true (79, 0, 35, [12, 14, 3]) := ⟨(RX12, TX12, 76), tyX12, rfl, rfl, okC12, by decide, tg6 194 (by decide +kernel) rfl, rfl, fun h => rfl, Or.inr (Or.inr (Or.inr ⟨rfl, fun _ => ⟨rfl, rfl⟩⟩))⟩
theorem lk_25_11 : okJ "WingTramsModel" true (57, 0, 38, [12, 17, 0]) := ⟨(RX12, TX12, 76), tyX12, rfl, rfl, okC12, by decide, tg6 197 (by decide +kernel) rfl, rfl, fun h => (by cases h), Or.inl ⟨rfl, rfl⟩⟩
theorem lk_25_12 : okJ "WingTramsModel" true (79, 0, 41, [12, 18, 3]) := ⟨(RX12, TX12, 76), tyX12, rfl, rfl, okC12, by decide, tg6 198 (by decide +kernel) rfl, rfl, fun h => rfl, Or.inr (Or.inr (Or.inr ⟨rfl, fun _ => ⟨rfl, rfl⟩⟩))⟩
theorem lk_25_13 : okJ "WingTramsModel" true (79, 0, 44, [12, 36, 3]) := ⟨(RX12, TX12, 76), tyX12, rfl, rfl, okC12, by decide, tg6 216 (by decide +kernel) rfl, rfl, fun h => rfl, Or.inr (Or.inr (Or.inr ⟨rfl, fun _ => ⟨rfl, rfl⟩⟩))⟩
theorem lk_25_14 : okJ "WingTramsModel" true (79, 0, 47, [12, 37, 3]) := ⟨(RX12, TX12, 76), tyX12, rfl, rfl, okC12, by decide, tg6 217 (by decide +kernel) rfl, rfl, fun h => rfl, Or.inr (Or.inr (Or.inr ⟨rfl, fun _ => ⟨rfl, rfl⟩⟩))⟩
theorem lk_25_15 : okJ "WingTramsModel" true (79, 0, 50, [12, 38, 3]) := ⟨(RX12, TX12, 76), tyX12, rfl, rfl, okC12, by decide, tg6 218 (by decide +kernel) rfl, rfl, fun h => rfl, Or.inr (Or.inr (Or.inr ⟨rfl, fun _ => ⟨rfl, rfl⟩⟩))⟩
theorem lk_25_16 : okJ "WingTramsModel" true (79, 0, 53, [12, 39, 3]) := ⟨(RX12, TX12, 76), tyX12, rfl, rfl, okC12, by decide, tg6 219 (by decide +kernel) rfl, rfl, fun h => rfl, Or.inr (Or.inr (Or.inr ⟨rfl, fun _ => ⟨rfl, rfl⟩⟩))⟩
theorem lk_25_17 : okJ "WingTramsModel" true (79, 0, 56, [12, 40, 3]) := ⟨(RX12, TX12, 76), tyX12, rfl, rfl, okC12, by decide, tg6 220 (by decide +kernel) rfl, rfl, fun h => rfl, Or.inr (Or.inr (Or.inr ⟨rfl, fun _ => ⟨rfl, rfl⟩⟩))⟩
theorem lk_25_18 : okJ "WingTramsModel" true (79, 0, 59, [12, 41, 3]) := ⟨(RX12, TX12, 76), tyX12, rfl, rfl, okC12, by decide, tg6 221 (by decide +kernel) rfl, rfl, fun h => rfl, Or.inr (Or.inr (Or.inr ⟨rfl, fun _ => ⟨rfl, rfl⟩⟩))⟩
theorem lk_25_19 : okJ "WingTramsModel" true (79, 0, 62, [12, 42, 3]) := ⟨(RX12, TX12, 76), tyX12, rfl, rfl, okC12, by decide, tg6 222 (by decide +kernel) rfl, rfl, fun h => rfl, Or.inr (Or.inr (Or.inr ⟨rfl, fun _ => ⟨rfl, rfl⟩⟩))⟩
theorem lk_25_20 : okJ "WingTramsModel" true (79, 0, 65, [12, 43, 3]) := ⟨(RX12, TX12, 76), tyX12, rfl, rfl, okC12, by decide, tg6 223 (by decide +kernel) rfl, rfl, fun h => rfl, Or.inr (Or.inr (Or.inr ⟨rfl, fun _ => ⟨rfl, rfl⟩⟩))⟩
theorem lk_25_21 : okJ "WingTramsModel" true (79, 0, 68, [12, 44, 3]) := ⟨(RX12, TX12, 76), tyX12, rfl, rfl, okC12, by decide, tg6 224 (by decide +kernel) rfl, rfl, fun h => rfl, Or.inr (Or.inr (Or.inr ⟨rfl, fun _ => ⟨rfl, rfl⟩⟩))⟩
theorem lk_25_22 : okJ "WingTramsModel" true (79, 0, 71, [12, 45, 3]) := ⟨(RX12, TX12, 76), tyX12, rfl, rfl, okC12, by decide, tg6 225 (by decide +kernel) rfl, rfl, fun h => rfl, Or.inr (Or.inr (Or.inr ⟨rfl, fun _ => ⟨rfl, rfl⟩⟩))⟩
theorem lk_25_23 : okJ "WingTramsModel" true (70, 0, 0, [1]) := tg7 169 (by decide +kernel) rfl
theorem lk_25_24 : okJ "WingTramsModel" true (79, 0, 74, [12, 46, 3]) := ⟨(RX12, TX12, 76), tyX12, rfl, rfl, okC12, by decide, tg6 226 (by decide +kernel) rfl, rfl, fun h => rfl, Or.inr (Or.inr (Or.inr ⟨rfl, fun _ => ⟨rfl, rfl⟩⟩))⟩
theorem lk_25_25 : okJ "WingTramsModel" true (79, 0, 78, [12, 47, 3]) := ⟨(RX12, TX12, 76), tyX12, rfl, rfl, okC12, by decide, tg6 227 (by decide +kernel) rfl, rfl, fun h => rfl, Or.inr (Or.inr (Or.inr ⟨rfl, fun _ => ⟨rfl, rfl⟩⟩))⟩
theorem lk_25_26 : okJ "WingTramsModel" true (79, 0, 81, [12, 48, 3]) := ⟨(RX12, TX12, 76), tyX12, rfl, rfl, okC12, by decide, tg6 228 (by decide +kernel) rfl, rfl, fun h => rfl, Or.inr (Or.inr (Or.inr ⟨rfl, fun _ => ⟨rfl, rfl⟩⟩))⟩
theorem lk_25_27 : okJ "WingTramsModel" true (79, 0, 84, [12, 49, 3]) := ⟨(RX12, TX12, 76), tyX12, rfl, rfl, okC12, by decide, tg6 229 (by decide +kernel) rfl, rfl, fun h => rfl, Or.inr (Or.inr (Or.inr ⟨rfl, fun _ => ⟨rfl, rfl⟩⟩))⟩
theorem lk_25_28 : okJ "WingTramsModel" true (79, 0, 87, [12, 51, 3]) := ⟨(RX12, TX12, 76), tyX12, rfl, rfl, okC12, by decide, tg6 231 (by decide +kernel) rfl, rfl, fun h => rfl, Or.inr (Or.inr (Or.inr ⟨rfl, fun _ => ⟨rfl, rfl⟩⟩))⟩
theorem lk_25_29 : okJ "WingTramsModel" true (79, 0, 90, [12, 52, 3]) := ⟨(RX12, TX12, 76), tyX12, rfl, rfl, okC12, by decide, tg6 232 (by decide +kernel) rfl, rfl, fun h => rfl, Or.inr (Or.inr (Or.inr ⟨rfl, fun _ => ⟨rfl, rfl⟩⟩))⟩
theorem lk_25_30 : okJ "WingTramsModel" true (79, 0, 93, [12, 53, 3]) := ⟨(RX12, TX12, 76), tyX12, rfl, rfl, okC12, by decide, tg6 233 (by decide +kernel) rfl, rfl, fun h => rfl, Or.inr (Or.inr (Or.inr ⟨rfl, fun _ => ⟨rfl, rfl⟩⟩))⟩
theorem lk_25_31 : okJ "WingTramsModel" true (79, 0, 96, [12, 54, 3]) := ⟨(RX12, TX12, 76), tyX12, rfl, rfl, okC12, by decide, tg6 234 (by decide +kernel) rfl, rfl, fun h => rfl, Or.inr (Or.inr (Or.inr ⟨rfl, fun _ => ⟨rfl, rfl⟩⟩))⟩
theorem lk_25_32 : okJ "WingTramsModel" true (79, 0, 99, [12, 55, 3]) := ⟨(RX12, TX12, 76), tyX12, rfl, rfl, okC12, by decide, tg6 235 (by decide +kernel) rfl, rfl, fun h => rfl, Or.inr (Or.inr (Or.inr ⟨rfl, fun _ => ⟨rfl, rfl⟩⟩))⟩
theorem lk_25_33 : okJ "WingTramsModel" true (79, 0, 102, [12, 56, 3]) := ⟨(RX12, TX12, 76), tyX12, rfl, rfl, okC12, by decide, tg6 236 (by decide +kernel) rfl, rfl, fun h => rfl, Or.inr (Or.inr (Or.inr ⟨rfl, fun _ => ⟨rfl, rfl⟩⟩))⟩
theorem lk_25_34 : okJ "WingTramsModel" true (79, 0, 105, [12, 57, 3]) := ⟨(RX12, TX12, 76), tyX12, rfl, rfl, okC12, by decide, tg6 237 (by decide +kernel) rfl, rfl, fun h => rfl, Or.inr (Or.inr (Or.inr ⟨rfl, fun _ => ⟨rfl, rfl⟩⟩))⟩
theorem lk_25_35 : okJ "WingTramsModel" true (79, 0, 108, [12, 58, 3]) := ⟨(RX12, TX12, 76), tyX12, rfl, rfl, okC12, by decide, tg6 238 (by decide +kernel) rfl, rfl, fun h => rfl, Or.inr (Or.inr (Or.inr ⟨rfl, fun _ => ⟨rfl, rfl⟩⟩))⟩
theorem lk_25_36 : okJ "WingTramsModel" true (79, 0, 111, [12, 59, 3]) := ⟨(RX12, TX12, 76), tyX12, rfl, rfl, okC12, by decide, tg6 239 (by decide +kernel) rfl, rfl, fun h => rfl, Or.inr (Or.inr (Or.inr ⟨rfl, fun _ => ⟨rfl, rfl⟩⟩))⟩
theorem lk_25_37 : okJ "WingTramsModel" true (79, 0, 114, [12, 60, 3]) := ⟨(RX12, TX12, 76), tyX12, rfl, rfl, okC12, by decide, tg7 0 (by decide +kernel) rfl, rfl, fun h => rfl, Or.inr (Or.inr (Or.inr ⟨rfl, fun _ => ⟨rfl, rfl⟩⟩))⟩
theorem lk_25_38 : okJ "WingTramsModel" true (79, 0, 117, [12, 61, 3]) := ⟨(RX12, TX12, 76), tyX12, rfl, rfl, okC12, by decide, tg7 1 (by decide +kernel) rfl, rfl, fun h => rfl, Or.inr (Or.inr (Or.inr ⟨rfl, fun _ => ⟨rfl, rfl⟩⟩))⟩
theorem lk_25_39 : okJ "WingTramsModel" true (79, 0, 120, [12, 62, 3]) := ⟨(RX12, TX12, 76), tyX12, rfl, rfl, okC12, by decide, tg7 2 (by decide +kernel) rfl, rfl, fun h => rfl, Or.inr (Or.inr (Or.inr ⟨rfl, fun _ => ⟨rfl, rfl⟩⟩))⟩
theorem lk_25_40 : okJ "WingTramsModel" true (79, 0, 123, [12, 63, 3]) := ⟨(RX12, TX12, 76), tyX12, rfl, rfl, okC12, by decide, tg7 3 (by decide +kernel) rfl, rfl, fun h => rfl, Or.inr (Or.inr (Or.inr ⟨rfl, fun _ => ⟨rfl, rfl⟩⟩))⟩
theorem lk_25_41 : okJ "WingTramsModel" true (79, 0, 126, [12, 64, 3]) := ⟨(RX12, TX12, 76), tyX12, rfl, rfl, okC12, by decide, tg7 4 (by decide +kernel) rfl, rfl, fun h => rfl, Or.inr (Or.inr (Or.inr ⟨rfl, fun _ => ⟨rfl, rfl⟩⟩))⟩
theorem lk_25_42 : okJ "WingTramsModel" true (79, 0, 129, [12, 66, 3]) := ⟨(RX12, TX12, 76), tyX12, rfl, rfl, okC12, by decide, tg7 6 (by decide +kernel) rfl, rfl, fun h => rfl, Or.inr (Or.inr (Or.inr ⟨rfl, fun _ => ⟨rfl, rfl⟩⟩))⟩
theorem lk_25_43 : okJ "WingTramsModel" true (79, 0, 132, [12, 68, 3]) := ⟨(RX12, TX12, 76), tyX12, rfl, rfl, okC12, by decide, tg7 8 (by decide +kernel) rfl, rfl, fun h => rfl, Or.inr (Or.inr (Or.inr ⟨rfl, fun _ => ⟨rfl, rfl⟩⟩))⟩
theorem lk_25_44 : okJ "WingTramsModel" true (79, 0, 135, [12, 69, 3]) := ⟨(RX12, TX12, 76), tyX12, rfl, rfl, okC12, by decide, tg7 9 (by decide +kernel) rfl, rfl, fun h => rfl, Or.inr (Or.inr (Or.inr ⟨rfl, fun _ => ⟨rfl, rfl⟩⟩))⟩
theorem lk_25_45 : okJ "WingTramsModel" true (79, 0, 138, [12, 73, 3]) := ⟨(RX12, TX12, 76), tyX12, rfl, rfl, okC12, by decide, tg7 13 (by decide +kernel) rfl, rfl, fun h => rfl, Or.inr (Or.inr (Or.inr ⟨rfl, fun _ => ⟨rfl, rfl⟩⟩))⟩
theorem lk_25_46 : okJ "WingTramsModel" true (79, 0, 141, [12, 74, 3]) := ⟨(RX12, TX12, 76), tyX12, rfl, rfl, okC12, by decide, tg7 14 (by decide +kernel) rfl, rfl, fun h => rfl, Or.inr (Or.inr (Or.inr ⟨rfl, fun _ => ⟨rfl, rfl⟩⟩))⟩
theorem lk_25_47 : okJ "WingTramsModel" true (79, 0, 144, [12, 75, 3]) := ⟨(RX12, TX12, 76), tyX12, rfl, rfl, okC12, by decide, tg7 15 (by decide +kernel) rfl, rfl, fun h => rfl, Or.inr (Or.inr (Or.inr ⟨rfl, fun _ => ⟨rfl, rfl⟩⟩))⟩
set_option maxRecDepth 100000 in
theorem LK_25_ok : ∀ q ∈ LK_25, okJ "WingTramsModel" true q := List.forall_mem_cons.mpr ⟨lk_25_0, List.forall_mem_cons.mpr ⟨lk_25_1, List.forall_mem_cons.mpr ⟨lk_25_2, List.forall_mem_cons.mpr ⟨lk_25_3, List.forall_mem_cons.mpr ⟨lk_25_4, List.forall_mem_cons.mpr ⟨lk_25_5, List.forall_mem_cons.mpr ⟨lk_25_6, List.forall_mem_cons.mpr ⟨lk_25_7, List.forall_mem_cons.mpr ⟨lk_25_8, List.forall_mem_cons.mpr ⟨lk_25_9, List.forall_mem_cons.mpr ⟨lk_25_10, List.forall_mem_cons.mpr ⟨lk_25_11, List.forall_mem_cons.mpr ⟨lk_25_12, List.forall_mem_cons.mpr ⟨lk_25_13, List.forall_mem_cons.mpr ⟨lk_25_14, List.forall_mem_cons.mpr ⟨lk_25_15, List.forall_mem_cons.mpr ⟨lk_25_16, List.forall_mem_cons.mpr ⟨lk_25_17, List.forall_mem_cons.mpr ⟨lk_25_18, List.forall_mem_cons.mpr ⟨lk_25_19, List.forall_mem_cons.mpr ⟨lk_25_20, List.forall_mem_cons.mpr ⟨lk_25_21, List.forall_mem_cons.mpr ⟨lk_25_22, List.forall_mem_cons.mpr ⟨lk_25_23, List.forall_mem_cons.mpr ⟨lk_25_24, List.forall_mem_cons.mpr ⟨lk_25_25, List.forall_mem_cons.mpr ⟨lk_25_26, List.forall_mem_cons.mpr ⟨lk_25_27, List.forall_mem_cons.mpr ⟨lk_25_28, List.forall_mem_cons.mpr ⟨lk_25_29, List.forall_mem_cons.mpr ⟨lk_25_30, List.forall_mem_cons.mpr ⟨lk_25_31, List.forall_mem_cons.mpr ⟨lk_25_32, List.forall_mem_cons.mpr ⟨lk_25_33, List.forall_mem_cons.mpr ⟨lk_25_34, List.forall_mem_cons.mpr ⟨lk_25_35, List.forall_mem_cons.mpr ⟨lk_25_36, List.forall_mem_cons.mpr ⟨lk_25_37, List.forall_mem_cons.mpr ⟨lk_25_38, List.forall_mem_cons.mpr ⟨lk_25_39, List.forall_mem_cons.mpr ⟨lk_25_40, List.forall_mem_cons.mpr ⟨lk_25_41, List.forall_mem_cons.mpr ⟨lk_25_42, List.forall_mem_cons.mpr ⟨lk_25_43, List.forall_mem_cons.mpr ⟨lk_25_44, List.forall_mem_cons.mpr ⟨lk_25_45, List.forall_mem_cons.mpr ⟨lk_25_46, List.forall_mem_cons.mpr ⟨lk_25_47, fun _ h => absurd h List.not_mem_nil⟩⟩⟩⟩⟩⟩⟩⟩⟩⟩⟩⟩⟩⟩⟩⟩⟩⟩⟩⟩⟩⟩⟩⟩⟩⟩⟩⟩⟩⟩⟩⟩⟩⟩⟩⟩⟩⟩⟩⟩⟩⟩⟩⟩⟩⟩⟩⟩
def LK_26 : List dI := [(4, 1431655765, 265, []), (4, 858993459, 266, []), (4, 252645135, 267, [])]
theorem lk_26_0 : okJ "java/lang/Integer" false (4, 1431655765, 265, []) := tg3 196 (by decide +kernel) rfl
theorem lk_26_1 : okJ "java/lang/Integer" false (4, 858993459, 266, []) := tg3 197 (by decide +kernel) rfl
theorem lk_26_2 : okJ "java/lang/Integer" false (4, 252645135, 267, []) := tg3 198 (by decide +kernel) rfl
set_option maxRecDepth 100000 in
theorem LK_26_ok : ∀ q ∈ LK_26, okJ "java/lang/Integer" false q := List.forall_mem_cons.mpr ⟨lk_26_0, List.forall_mem_cons.mpr ⟨lk_26_1, List.forall_mem_cons.mpr ⟨lk_26_2, fun _ h => absurd h List.not_mem_nil⟩⟩⟩
def LK_27 : List dI := []
set_option maxRecDepth 100000 in
theorem LK_27_ok : ∀ q ∈ LK_27, okJ "java/lang/Math" false q := fun _ h => absurd h List.not_mem_nil
