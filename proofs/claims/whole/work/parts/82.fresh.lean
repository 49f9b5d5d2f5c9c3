/-! THE MAKING: constructors run over a list of writes, the newest first -/
abbrev dW : Type := List (Nat × Int × Int)
def ov : dW → dS
  | [] => fun _ _ => 0
  | (k, i, v) :: ws => up (ov ws) k i v
def cnt (ws : dW) : Nat := (ov ws 1000000 0).toNat
section XE
variable (J : Nat → Nat × Nat → dL → List dX → dW → Option dW) (C : Nat → List dX → dW → Option dW) (B : Nat × Nat)
def xex : List dI → Nat × Nat → dL → List dX → dW → Option dW
  | [], _, _, _, _ => none
  | (op, a, b, tl) :: is, u, ls, st, ws => match op with
    | 0 => xex is u ls (.inl a :: st) ws
    | 1 => xex is u ls (.inl a :: st) ws
    | 2 => xex is u ls (.inl a :: st) ws
    | 6 => (match ls[b]? with
      | some (some (.inl x)) => xex is u ls (.inl x :: st) ws
      | _ => none)
    | 8 => (match ls[b]? with
      | some (some (.inr (.inr t))) => xex is u ls (.inr (.inr t) :: st) ws
      | _ => none)
    | 11 => (match st with
      | .inl x :: r => if b < ls.length ∧ (b = 0 ∨ isL ls[b - 1]? = false) then xex is u (ls.set b (some (.inl x))) r ws else none
      | _ => none)
    | 14 => (match st with
      | .inr (.inr t) :: r => if b < ls.length ∧ (b = 0 ∨ isL ls[b - 1]? = false) then xex is u (ls.set b (some (.inr (.inr t)))) r ws else none
      | _ => none)
    | 40 => (match st with
      | v :: r => if c1 v = true then xex is u ls (v :: v :: r) ws else none
      | _ => none)
    | 43 => J b u ls st ws
    | 47 => (match st with
      | .inl x :: r => if 0 ≤ x then J b u ls r ws else xex is u ls r ws
      | _ => none)
    | 56 => (match st with
      | .inr (.inr t) :: r => (match spx t with
        | some (.inr (c, fs)) => if c = n0 tl 0 ∧ t < cnt ws then (match fs[n0 tl 1]? with
          | some (q + 2) => if ov ws t (n0 tl 1) = 1 then xex is u ls (.inr (.inr q) :: r) ws else none
          | _ => none) else none
        | _ => none)
      | _ => none)
    | 57 => (match st with
      | .inl x :: .inr (.inr t) :: r => (match spx t with
        | some (.inr (c, fs)) => if c = n0 tl 0 ∧ t < cnt ws ∧ n0 tl 2 = 0 ∧ fs[n0 tl 1]? = some 0 then xex is u ls r ((t, ((n0 tl 1 : Nat) : Int), x) :: ws) else none
        | _ => none)
      | _ => none)
    | 79 => (match st with
      | .inl x :: .inr (.inr t) :: r => (match spx t with
        | some (.inr (c, fs)) => if c = n0 tl 0 ∧ t < cnt ws ∧ n0 tl 2 = 0 ∧ fs[n0 tl 1]? = some 0 then xex is u ls r ((t, ((n0 tl 1 : Nat) : Int), x) :: ws) else none
        | _ => none)
      | .inr (.inr q) :: .inr (.inr t) :: r => (match spx t with
        | some (.inr (c, fs)) => if c = n0 tl 0 ∧ t < cnt ws ∧ n0 tl 2 = 3 ∧ fs[n0 tl 1]? = some (q + 2) then xex is u ls r ((t, ((n0 tl 1 : Nat) : Int), 1) :: ws) else none
        | _ => none)
      | _ => none)
    | 59 => (match st with
      | .inl x :: .inl i :: .inr (.inr t) :: r => (match spx t with
        | some (.inl (n, kd)) => if kd = 0 ∧ t < cnt ws ∧ 0 ≤ i ∧ i < n then xex is u ls r ((t, i, x) :: ws) else none
        | _ => none)
      | _ => none)
    | 67 => (match popN (n0 tl 1) [] st with
      | some (.inr (.inr t) :: as, r) => if wt r ≤ 8 ∧ u.1 + n0 tl 3 ≤ B.1 ∧ u.2 + n0 tl 4 ≤ B.2 then (match C (n0 tl 0) (.inr (.inr t) :: as) ws with
        | some ws' => xex is (u.1 + n0 tl 3, u.2 + n0 tl 4) ls r ws'
        | none => none) else none
      | _ => none)
    | 68 => (match st with
      | .inr (.inr _) :: r => if wt r ≤ 8 then xex is u ls r ws else none
      | _ => none)
    | 69 => (match spx (cnt ws) with
      | some (.inr (c, _)) => if c = n0 tl 0 ∧ u.1 + 1 ≤ B.1 ∧ u.2 + n0 tl 1 ≤ B.2 then xex is (u.1 + 1, u.2 + n0 tl 1) ls (.inr (.inr (cnt ws)) :: st) ((1000000, 0, ((cnt ws : Nat) : Int) + 1) :: ws) else none
      | _ => none)
    | 70 => (match st with
      | .inl x :: r => (match spx (cnt ws) with
        | some (.inl (n, kd)) => if kd = n0 tl 0 ∧ x = n ∧ n ≤ 100000 ∧ u.1 + 1 ≤ B.1 ∧ u.2 + n ≤ B.2 then xex is (u.1 + 1, u.2 + n) ls (.inr (.inr (cnt ws)) :: r) ((1000000, 0, ((cnt ws : Nat) : Int) + 1) :: ws) else none
        | _ => none)
      | _ => none)
    | 73 => (match st with
      | [] => if u.1 ≤ B.1 ∧ u.2 ≤ B.2 then some ws else none
      | _ => none)
    | 78 => J b u ls st ws
    | _ => none
end XE
def xrun (C : Nat → List dX → dW → Option dW) (y : Nat) : Nat → Nat → Nat × Nat → dL → List dX → dW → Option dW
  | 0, _, _, _, _, _ => none
  | f + 1, lb, u, ls, st, ws => xex (xrun C y f) C (inf y).2.2 (blk y lb) u ls st ws
def xcl : Nat → Nat → List dX → dW → Option dW
  | 0, _, _, _ => none
  | d + 1, y, as, ws => if as.all c1 = true ∧ as.length ≤ (inf y).1 ∧ (inf y).2.1 = true then xrun (xcl d) y 5 0 (0, 0) (as.map some ++ List.replicate ((inf y).1 - as.length) none) [] ws else none
section XS
variable {J : Nat → Nat × Nat → dL → List dX → dW → Option dW} {Cx : Nat → List dX → dW → Option dW} {C : dC} {B : Nat × Nat} {P : Nat → dK} {Q : dR → dS → Prop} {R : dW → Prop}
theorem xex_s (hC : ∀ (y : Nat) (as : List dX) (ws ws' : dW), Cx y as ws = some ws' → ∀ Q : dR → dS → Prop, Q (.inl none) (ov ws') → C y as (ov ws) Q) (hQ : ∀ ws, R ws → Q (.inl none) (ov ws))
    (hJ : ∀ (lb : Nat) (u : Nat × Nat) (ls : dL) (st : List dX) (ws ws' : dW), J lb u ls st ws = some ws' → R ws' → P lb u ls st (ov ws)) :
    ∀ (is : List dI) (u : Nat × Nat) (ls : dL) (st : List dX) (ws ws' : dW), xex J Cx B is u ls st ws = some ws' → R ws' → ex true B C P Q is u ls st (ov ws)
  | [], _, _, _, _, _, h, _ => by simp [xex] at h
  | (op, a, b, tl) :: is, u, ls, st, ws, ws', h, hR => by
    have ih := xex_s hC hQ hJ is
    unfold xex at h
    show stp true B C P Q op a b tl (ex true B C P Q is) u ls st (ov ws)
    split at h
    · exact ih _ _ _ _ _ h hR
    · exact ih _ _ _ _ _ h hR
    · exact ih _ _ _ _ _ h hR
    · show s_iload b _ u ls st (ov ws)
      unfold s_iload
      split at h
      · rename_i hs
        simp only [hs]
        exact ih _ _ _ _ _ h hR
      · cases h
    · show s_aload b _ u ls st (ov ws)
      unfold s_aload
      split at h
      · rename_i hs
        simp only [hs]
        exact ih _ _ _ _ _ h hR
      · cases h
    · split at h
      · split at h
        · rename_i hs
          exact ⟨hs, ih _ _ _ _ _ h hR⟩
        · cases h
      · cases h
    · split at h
      · split at h
        · rename_i hs
          exact ⟨hs, ih _ _ _ _ _ h hR⟩
        · cases h
      · cases h
    · split at h
      · split at h
        · rename_i hs
          exact ⟨hs, ih _ _ _ _ _ h hR⟩
        · cases h
      · cases h
    · exact hJ _ _ _ _ _ _ h hR
    · split at h
      · split at h
        · rename_i hs
          exact ⟨fun _ => hJ _ _ _ _ _ _ h hR, fun z => absurd hs z⟩
        · rename_i hs
          exact ⟨fun z => absurd z hs, fun _ => ih _ _ _ _ _ h hR⟩
      · cases h
    · split at h
      · split at h
        · rename_i hs
          split at h
          · rename_i hc
            split at h
            · rename_i hf
              split at h
              · rename_i h1
                rw [st_56]
                unfold s_getf
                simp only [hs, hf]
                exact ⟨hc.1, fun _ => hc.2, fun _ => h1, ih _ _ _ _ _ h hR⟩
              · cases h
            · cases h
          · cases h
        · cases h
      · cases h
    · split at h
      · split at h
        · rename_i hs
          split at h
          · rename_i hc
            rw [st_57]
            unfold s_putf
            simp only [hs, hc.2.2.2]
            exact ⟨hc.1, fun _ => hc.2.1, Or.inl hc.2.2.1, ih _ _ _ _ _ h hR⟩
          · cases h
        · cases h
      · cases h
    · split at h
      · split at h
        · rename_i hs
          split at h
          · rename_i hc
            rw [st_79]
            unfold s_putf
            simp only [hs, hc.2.2.2]
            exact ⟨hc.1, fun _ => hc.2.1, Or.inl hc.2.2.1, ih _ _ _ _ _ h hR⟩
          · cases h
        · cases h
      · split at h
        · rename_i hs
          split at h
          · rename_i hc
            rw [st_79]
            unfold s_putf
            simp only [hs, hc.2.2.2]
            exact ⟨hc.1, fun _ => hc.2.1, hc.2.2.1, trivial, trivial, ih _ _ _ _ _ h hR⟩
          · cases h
        · cases h
      · cases h
    · split at h
      · split at h
        · rename_i hs
          split at h
          · rename_i hc
            rw [st_59]
            unfold s_ast
            simp only [hs]
            exact ⟨hc.1, fun _ => hc.2.1, hc.2.2.1, hc.2.2.2, fun z => absurd z (by decide), ih _ _ _ _ _ h hR⟩
          · cases h
        · cases h
      · cases h
    · split at h
      · rename_i hp
        split at h
        · rename_i hc
          split at h
          · rename_i ws1 h1
            rw [st_67]
            unfold s_call
            simp only [hp]
            exact ⟨hc.1, hc.2.1, hc.2.2, Or.inr (Or.inl trivial), hC _ _ _ _ h1 _ (ih _ _ _ _ _ h hR)⟩
          · cases h
        · cases h
      · cases h
    · split at h
      · split at h
        · rename_i hs
          exact ⟨hs, ih _ _ _ _ _ h hR⟩
        · cases h
      · cases h
    · split at h
      · rename_i hs
        split at h
        · rename_i hc
          rw [st_69]
          unfold s_new
          unfold cnt at hs
          simp only [hs]
          exact ⟨hc.1, trivial, hc.2.1, hc.2.2, ih _ _ _ _ _ h hR⟩
        · cases h
      · cases h
    · split at h
      · split at h
        · rename_i hs
          split at h
          · rename_i hc
            rw [st_70]
            unfold s_newa
            unfold cnt at hs
            simp only [hs]
            exact ⟨hc.1, trivial, hc.2.1, hc.2.2.1, hc.2.2.2.1, hc.2.2.2.2, ih _ _ _ _ _ h hR⟩
          · cases h
        · cases h
      · cases h
    · split at h
      · split at h
        · rename_i hc
          cases h
          exact ⟨hc.1, hc.2, hQ _ hR⟩
        · cases h
      · cases h
    · exact hJ _ _ _ _ _ _ h hR
    · cases h
end XS
theorem xrun_s {d y : Nat} {Cx : Nat → List dX → dW → Option dW} {Q : dR → dS → Prop} {ws' : dW} (hy : (inf y).2.1 = true) (hC : ∀ (y : Nat) (as : List dX) (ws ws' : dW), Cx y as ws = some ws' → ∀ Q : dR → dS → Prop, Q (.inl none) (ov ws') → wpm blk inf d y as (ov ws) Q) (hq : Q (.inl none) (ov ws')) : ∀ (f lb : Nat) (u : Nat × Nat) (ls : dL) (st : List dX) (ws : dW), xrun Cx y f lb u ls st ws = some ws' → TT d y Q lb u ls st (ov ws)
  | 0, _, _, _, _, _, h => by simp [xrun] at h
  | f + 1, lb, u, ls, st, ws, h => by
    rw [TT_eq, hy]
    exact xex_s (R := fun w => w = ws') hC (fun w e => by rw [e]; exact hq) (fun lb u ls st w w' h1 e => by
      rw [e] at h1
      exact xrun_s hy hC hq f lb u ls st w h1) _ _ _ _ _ _ h rfl
theorem xcl_s : ∀ (d y : Nat) (as : List dX) (ws ws' : dW), xcl d y as ws = some ws' → ∀ Q : dR → dS → Prop, Q (.inl none) (ov ws') → wpm blk inf d y as (ov ws) Q
  | 0, _, _, _, _, h => by simp [xcl] at h
  | d + 1, y, as, ws, ws', h => by
    intro Q hq
    unfold xcl at h
    split at h
    · rename_i hc
      rw [wpm_eq]
      exact ⟨⟨hc.1, hc.2.1⟩, xrun_s hc.2.2 (xcl_s d) hq 5 0 (0, 0) _ _ ws h⟩
    · cases h
/-! the law's beginning -/
def lwB : List dI := [(69, 0, 8, [11, 19]), (40, 0, 0, []), (67, 0, 92, [97, 1, 0, 152, 152000]), (14, 0, 1, []), (69, 0, 93, [12, 76]), (40, 0, 0, []), (67, 0, 95, [156, 1, 0, 43, 9566]), (14, 0, 2, []), (0, 1, 0, []), (70, 0, 0, [2]), (14, 0, 3, []), (0, 0, 0, []), (11, 0, 4, []), (78, 0, 1, [])]
def lwL (i : Int) : dL := [some (.inr (.inr 100000)), some (.inr (.inr 0)), some (.inr (.inr 153)), some (.inr (.inr 197)), some (.inl i), none, none]
def lwJ (lb : Nat) (u : Nat × Nat) (ls : dL) (st : List dX) (ws : dW) : Option dW := if lb = 1 ∧ u.1 ≤ 1000 ∧ u.2 ≤ 300000 ∧ ls = lwL 0 ∧ st = [] then some ws else none
def mdX : Option dW := xex lwJ (xcl 8) (1000, 300000) lwB (0, 0) [some (.inr (.inr 100000)), none, none, none, none, none, none] [] []
set_option maxRecDepth 100000 in
def mdW : dW := [(1000000, 0, 198), (153, 75, 1), (1000000, 0, 197), (153, 74, 1), (1000000, 0, 196), (153, 73, 1), (1000000, 0, 195), (153, 69, 1), (1000000, 0, 194), (153, 68, 1), (1000000, 0, 193), (153, 66, 1), (1000000, 0, 192), (153, 64, 1), (1000000, 0, 191), (153, 63, 1), (1000000, 0, 190), (153, 62, 1), (1000000, 0, 189), (153, 61, 1), (1000000, 0, 188), (153, 60, 1), (1000000, 0, 187), (153, 59, 1), (1000000, 0, 186), (153, 58, 1), (1000000, 0, 185), (153, 57, 1), (1000000, 0, 184), (153, 56, 1), (1000000, 0, 183), (153, 55, 1), (1000000, 0, 182), (153, 54, 1), (1000000, 0, 181), (153, 53, 1), (1000000, 0, 180), (153, 52, 1), (1000000, 0, 179), (153, 51, 1), (1000000, 0, 178), (153, 49, 1), (1000000, 0, 177), (153, 48, 1), (1000000, 0, 176), (153, 47, 1), (174, 18, 0), (174, 17, 0), (174, 16, 0), (174, 15, 0), (174, 14, 0), (174, 13, 0), (174, 12, 0), (174, 11, 0), (174, 10, 0), (174, 9, 0), (174, 8, 0), (174, 7, 0), (174, 6, 0), (174, 5, 0), (174, 4, 0), (174, 3, 0), (174, 2, 0), (174, 1, 0), (174, 0, -1), (1000000, 0, 175), (153, 46, 1), (1000000, 0, 174), (153, 45, 1), (1000000, 0, 173), (153, 44, 1), (1000000, 0, 172), (153, 43, 1), (1000000, 0, 171), (153, 42, 1), (1000000, 0, 170), (153, 41, 1), (1000000, 0, 169), (153, 40, 1), (1000000, 0, 168), (153, 39, 1), (1000000, 0, 167), (153, 38, 1), (1000000, 0, 166), (153, 37, 1), (1000000, 0, 165), (153, 36, 1), (1000000, 0, 164), (153, 18, 1), (1000000, 0, 163), (153, 17, -1), (153, 14, 1), (1000000, 0, 162), (153, 13, 1), (1000000, 0, 161), (153, 12, 1), (1000000, 0, 160), (153, 11, 1), (1000000, 0, 159), (153, 10, 1), (1000000, 0, 158), (153, 9, 1), (1000000, 0, 157), (153, 8, 1), (1000000, 0, 156), (153, 7, 1), (1000000, 0, 155), (153, 6, 360), (1000000, 0, 154), (0, 18, 1), (151, 0, 1), (1000000, 0, 153), (1000000, 0, 152), (0, 16, 1), (149, 0, 1), (1000000, 0, 151), (1000000, 0, 150), (0, 15, 1), (147, 0, 1), (1000000, 0, 149), (1000000, 0, 148), (0, 14, 1), (142, 2, 1), (145, 0, 1), (1000000, 0, 147), (1000000, 0, 146), (142, 1, 1), (143, 0, 1), (1000000, 0, 145), (1000000, 0, 144), (142, 0, 1), (1000000, 0, 143), (0, 13, 1), (133, 5, 1), (140, 0, 1), (1000000, 0, 142), (1000000, 0, 141), (133, 4, 1), (138, 0, 1), (1000000, 0, 140), (1000000, 0, 139), (133, 3, 1), (136, 0, 1), (1000000, 0, 138), (1000000, 0, 137), (133, 2, 1), (134, 0, 1), (1000000, 0, 136), (1000000, 0, 135), (133, 1, 1), (133, 0, 1), (1000000, 0, 134), (0, 12, 1), (114, 10, 1), (131, 0, 1), (1000000, 0, 133), (1000000, 0, 132), (114, 9, 1), (129, 0, 1), (1000000, 0, 131), (1000000, 0, 130), (114, 8, 1), (127, 0, 1), (1000000, 0, 129), (1000000, 0, 128), (114, 6, 1), (125, 0, 1), (1000000, 0, 127), (1000000, 0, 126), (114, 5, 1), (123, 0, 1), (1000000, 0, 125), (1000000, 0, 124), (114, 4, 1), (121, 0, 1), (1000000, 0, 123), (1000000, 0, 122), (114, 3, 1), (119, 0, 1), (1000000, 0, 121), (1000000, 0, 120), (114, 2, 1), (117, 0, 1), (1000000, 0, 119), (1000000, 0, 118), (114, 1, 1), (115, 0, 1), (1000000, 0, 117), (1000000, 0, 116), (114, 0, 1), (1000000, 0, 115), (0, 11, 1), (109, 5, 1), (112, 0, 1), (1000000, 0, 114), (1000000, 0, 113), (109, 4, 1), (110, 0, 1), (1000000, 0, 112), (1000000, 0, 111), (109, 0, -1), (1000000, 0, 110), (0, 9, 1), (89, 2, 1), (102, 4, 1), (107, 0, 1), (1000000, 0, 109), (1000000, 0, 108), (102, 3, 1), (105, 0, 1), (1000000, 0, 107), (1000000, 0, 106), (102, 2, 1), (103, 0, 1), (1000000, 0, 105), (1000000, 0, 104), (102, 1, 8), (1000000, 0, 103), (89, 1, 1), (95, 4, 1), (100, 0, 1), (1000000, 0, 102), (1000000, 0, 101), (95, 3, 1), (98, 0, 1), (1000000, 0, 100), (1000000, 0, 99), (95, 2, 1), (96, 0, 1), (1000000, 0, 98), (1000000, 0, 97), (95, 1, 40), (1000000, 0, 96), (89, 0, 1), (90, 5, 1), (93, 0, 1), (1000000, 0, 95), (1000000, 0, 94), (90, 4, 1), (91, 0, 1), (1000000, 0, 93), (1000000, 0, 92), (90, 0, -1), (1000000, 0, 91), (1000000, 0, 90), (0, 8, 1), (69, 2, 1), (82, 4, 1), (87, 0, 1), (1000000, 0, 89), (1000000, 0, 88), (82, 3, 1), (85, 0, 1), (1000000, 0, 87), (1000000, 0, 86), (82, 2, 1), (83, 0, 1), (1000000, 0, 85), (1000000, 0, 84), (82, 1, 8), (1000000, 0, 83), (69, 1, 1), (75, 4, 1), (80, 0, 1), (1000000, 0, 82), (1000000, 0, 81), (75, 3, 1), (78, 0, 1), (1000000, 0, 80), (1000000, 0, 79), (75, 2, 1), (76, 0, 1), (1000000, 0, 78), (1000000, 0, 77), (75, 1, 40), (1000000, 0, 76), (69, 0, 1), (70, 5, 1), (73, 0, 1), (1000000, 0, 75), (1000000, 0, 74), (70, 4, 1), (71, 0, 1), (1000000, 0, 73), (1000000, 0, 72), (70, 0, -1), (1000000, 0, 71), (1000000, 0, 70), (0, 7, 1), (68, 1, 1), (68, 0, 1), (1000000, 0, 69), (0, 6, 1), (61, 2, 1), (66, 0, 1), (1000000, 0, 68), (1000000, 0, 67), (61, 1, 1), (64, 0, 1), (1000000, 0, 66), (1000000, 0, 65), (61, 0, 1), (62, 0, 1), (1000000, 0, 64), (1000000, 0, 63), (1000000, 0, 62), (0, 5, 1), (33, 15, 1), (54, 4, 1), (59, 0, 1), (1000000, 0, 61), (1000000, 0, 60), (54, 3, 1), (57, 0, 1), (1000000, 0, 59), (1000000, 0, 58), (54, 2, 1), (55, 0, 1), (1000000, 0, 57), (1000000, 0, 56), (1000000, 0, 55), (33, 14, 1), (52, 0, 1), (1000000, 0, 54), (1000000, 0, 53), (33, 13, 1), (50, 0, 1), (1000000, 0, 52), (1000000, 0, 51), (33, 12, 1), (48, 0, 1), (1000000, 0, 50), (1000000, 0, 49), (33, 11, 1), (46, 0, 1), (1000000, 0, 48), (1000000, 0, 47), (33, 10, 1), (44, 0, 1), (1000000, 0, 46), (1000000, 0, 45), (33, 9, 1), (42, 0, 1), (1000000, 0, 44), (1000000, 0, 43), (33, 8, 1), (40, 0, 1), (1000000, 0, 42), (1000000, 0, 41), (33, 7, 1), (38, 0, 1), (1000000, 0, 40), (1000000, 0, 39), (33, 6, 1), (36, 0, 1), (1000000, 0, 38), (1000000, 0, 37), (33, 5, 1), (34, 0, 1), (1000000, 0, 36), (1000000, 0, 35), (33, 4, 360), (1000000, 0, 34), (0, 4, 1), (5, 15, 1), (26, 4, 1), (31, 0, 1), (1000000, 0, 33), (1000000, 0, 32), (26, 3, 1), (29, 0, 1), (1000000, 0, 31), (1000000, 0, 30), (26, 2, 1), (27, 0, 1), (1000000, 0, 29), (1000000, 0, 28), (1000000, 0, 27), (5, 14, 1), (24, 0, 1), (1000000, 0, 26), (1000000, 0, 25), (5, 13, 1), (22, 0, 1), (1000000, 0, 24), (1000000, 0, 23), (5, 12, 1), (20, 0, 1), (1000000, 0, 22), (1000000, 0, 21), (5, 11, 1), (18, 0, 1), (1000000, 0, 20), (1000000, 0, 19), (5, 10, 1), (16, 0, 1), (1000000, 0, 18), (1000000, 0, 17), (5, 9, 1), (14, 0, 1), (1000000, 0, 16), (1000000, 0, 15), (5, 8, 1), (12, 0, 1), (1000000, 0, 14), (1000000, 0, 13), (5, 7, 1), (10, 0, 1), (1000000, 0, 12), (1000000, 0, 11), (5, 6, 1), (8, 0, 1), (1000000, 0, 10), (1000000, 0, 9), (5, 5, 1), (6, 0, 1), (1000000, 0, 8), (1000000, 0, 7), (5, 4, 360), (1000000, 0, 6), (0, 3, 1), (3, 0, 1), (1000000, 0, 5), (1000000, 0, 4), (0, 2, -1), (0, 0, 1), (1, 0, 1), (1000000, 0, 3), (1000000, 0, 2), (1000000, 0, 1)]
set_option maxRecDepth 100000 in
theorem mdX_eq : mdX = some mdW := by decide +kernel
theorem ov_no {k : Nat} : ∀ {ws : dW}, ws.all (fun w => decide (w.1 ≠ k)) = true → ∀ i, ov ws k i = 0
  | [], _, _ => rfl
  | (k', i', v) :: ws, h, i => by
    rw [List.all_cons, Bool.and_eq_true] at h
    have h1 : k' ≠ k := of_decide_eq_true h.1
    show up (ov ws) k' i' v k i = 0
    rw [up_k (Ne.symm h1)]
    exact ov_no h.2 i
