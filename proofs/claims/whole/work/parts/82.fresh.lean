/-! THE MAKING: constructors run over a list of writes, the newest first -/
abbrev dW : Type := List (Nat × Int × Int)
def ov : dW → dS
  | [] => fun _ _ => 0
  | (k, i, v) :: ws => up (ov ws) k i v
def cnt (ws : dW) : Nat := (ov ws 1000000 0).toNat
section XE
variable (J : Nat → Nat × Nat → dL → List dX → dW → Option dW) (C : Nat → List dX → dW → Option dW) (B : Nat × Nat)
def xex : List dI → Nat × Nat → dL → List dX → dW → Option dW
  | [], _, _, _, _ => none
  | (op, a, b, tl) :: is, u, ls, st, ws => match op with
    | 0 => xex is u ls (.inl a :: st) ws
    | 1 => xex is u ls (.inl a :: st) ws
    | 2 => xex is u ls (.inl a :: st) ws
    | 6 => (match ls[b]? with
      | some (some (.inl x)) => xex is u ls (.inl x :: st) ws
      | _ => none)
    | 8 => (match ls[b]? with
      | some (some (.inr (.inr t))) => xex is u ls (.inr (.inr t) :: st) ws
      | _ => none)
    | 11 => (match st with
      | .inl x :: r => if b < ls.length ∧ (b = 0 ∨ isL ls[b - 1]? = false) then xex is u (ls.set b (some (.inl x))) r ws else none
      | _ => none)
    | 14 => (match st with
      | .inr (.inr t) :: r => if b < ls.length ∧ (b = 0 ∨ isL ls[b - 1]? = false) then xex is u (ls.set b (some (.inr (.inr t)))) r ws else none
      | _ => none)
    | 40 => (match st with
      | v :: r => if c1 v = true then xex is u ls (v :: v :: r) ws else none
      | _ => none)
    | 43 => J b u ls st ws
    | 47 => (match st with
      | .inl x :: r => if 0 ≤ x then J b u ls r ws else xex is u ls r ws
      | _ => none)
    | 56 => (match st with
      | .inr (.inr t) :: r => (match spx t with
        | some (.inr (c, fs)) => if c = n0 tl 0 ∧ t < cnt ws then (match fs[n0 tl 1]? with
          | some (q + 2) => if ov ws t (n0 tl 1) = 1 then xex is u ls (.inr (.inr q) :: r) ws else none
          | _ => none) else none
        | _ => none)
      | _ => none)
    | 57 => (match st with
      | .inl x :: .inr (.inr t) :: r => (match spx t with
        | some (.inr (c, fs)) => if c = n0 tl 0 ∧ t < cnt ws ∧ n0 tl 2 = 0 ∧ fs[n0 tl 1]? = some 0 then xex is u ls r ((t, ((n0 tl 1 : Nat) : Int), x) :: ws) else none
        | _ => none)
      | _ => none)
    | 79 => (match st with
      | .inl x :: .inr (.inr t) :: r => (match spx t with
        | some (.inr (c, fs)) => if c = n0 tl 0 ∧ t < cnt ws ∧ n0 tl 2 = 0 ∧ fs[n0 tl 1]? = some 0 then xex is u ls r ((t, ((n0 tl 1 : Nat) : Int), x) :: ws) else none
        | _ => none)
      | .inr (.inr q) :: .inr (.inr t) :: r => (match spx t with
        | some (.inr (c, fs)) => if c = n0 tl 0 ∧ t < cnt ws ∧ n0 tl 2 = 3 ∧ fs[n0 tl 1]? = some (q + 2) then xex is u ls r ((t, ((n0 tl 1 : Nat) : Int), 1) :: ws) else none
        | _ => none)
      | _ => none)
    | 59 => (match st with
      | .inl x :: .inl i :: .inr (.inr t) :: r => (match spx t with
        | some (.inl (n, kd)) => if kd = 0 ∧ t < cnt ws ∧ 0 ≤ i ∧ i < n then xex is u ls r ((t, i, x) :: ws) else none
        | _ => none)
      | _ => none)
    | 67 => (match popN (n0 tl 1) [] st with
      | some (.inr (.inr t) :: as, r) => if wt r ≤ 8 ∧ u.1 + n0 tl 3 ≤ B.1 ∧ u.2 + n0 tl 4 ≤ B.2 then (match C (n0 tl 0) (.inr (.inr t) :: as) ws with
        | some ws' => xex is (u.1 + n0 tl 3, u.2 + n0 tl 4) ls r ws'
        | none => none) else none
      | _ => none)
    | 68 => (match st with
      | .inr (.inr _) :: r => if wt r ≤ 8 then xex is u ls r ws else none
      | _ => none)
    | 69 => (match spx (cnt ws) with
      | some (.inr (c, _)) => if c = n0 tl 0 ∧ u.1 + 1 ≤ B.1 ∧ u.2 + n0 tl 1 ≤ B.2 then xex is (u.1 + 1, u.2 + n0 tl 1) ls (.inr (.inr (cnt ws)) :: st) ((1000000, 0, ((cnt ws : Nat) : Int) + 1) :: ws) else none
      | _ => none)
    | 70 => (match st with
      | .inl x :: r => (match spx (cnt ws) with
        | some (.inl (n, kd)) => if kd = n0 tl 0 ∧ x = n ∧ n ≤ 100000 ∧ u.1 + 1 ≤ B.1 ∧ u.2 + n ≤ B.2 then xex is (u.1 + 1, u.2 + n) ls (.inr (.inr (cnt ws)) :: r) ((1000000, 0, ((cnt ws : Nat) : Int) + 1) :: ws) else none
        | _ => none)
      | _ => none)
    | 73 => (match st with
      | [] => if u.1 ≤ B.1 ∧ u.2 ≤ B.2 then some ws else none
      | _ => none)
    | 78 => J b u ls st ws
    | _ => none
end XE
def xrun (C : Nat → List dX → dW → Option dW) (y : Nat) : Nat → Nat → Nat × Nat → dL → List dX → dW → Option dW
  | 0, _, _, _, _, _ => none
  | f + 1, lb, u, ls, st, ws => xex (xrun C y f) C (inf y).2.2 (blk y lb) u ls st ws
def xcl : Nat → Nat → List dX → dW → Option dW
  | 0, _, _, _ => none
  | d + 1, y, as, ws => if as.all c1 = true ∧ as.length ≤ (inf y).1 ∧ (inf y).2.1 = true then xrun (xcl d) y 5 0 (0, 0) (as.map some ++ List.replicate ((inf y).1 - as.length) none) [] ws else none
section XS
variable {J : Nat → Nat × Nat → dL → List dX → dW → Option dW} {Cx : Nat → List dX → dW → Option dW} {C : dC} {B : Nat × Nat} {P : Nat → dK} {Q : dR → dS → Prop} {R : dW → Prop}
theorem xex_s (hC : ∀ (y : Nat) (as : List dX) (ws ws' : dW), Cx y as ws = some ws' → ∀ Q : dR → dS → Prop, Q (.inl none) (ov ws') → C y as (ov ws) Q) (hQ : ∀ ws, R ws → Q (.inl none) (ov ws))
    (hJ : ∀ (lb : Nat) (u : Nat × Nat) (ls : dL) (st : List dX) (ws ws' : dW), J lb u ls st ws = some ws' → R ws' → P lb u ls st (ov ws)) :
    ∀ (is : List dI) (u : Nat × Nat) (ls : dL) (st : List dX) (ws ws' : dW), xex J Cx B is u ls st ws = some ws' → R ws' → ex true B C P Q is u ls st (ov ws)
  | [], _, _, _, _, _, h, _ => by simp [xex] at h
  | (op, a, b, tl) :: is, u, ls, st, ws, ws', h, hR => by
    have ih := xex_s hC hQ hJ is
    unfold xex at h
    show stp true B C P Q op a b tl (ex true B C P Q is) u ls st (ov ws)
    split at h
    · exact ih _ _ _ _ _ h hR
    · exact ih _ _ _ _ _ h hR
    · exact ih _ _ _ _ _ h hR
    · show s_iload b _ u ls st (ov ws)
      unfold s_iload
      split at h
      · rename_i hs
        simp only [hs]
        exact ih _ _ _ _ _ h hR
      · cases h
    · show s_aload b _ u ls st (ov ws)
      unfold s_aload
      split at h
      · rename_i hs
        simp only [hs]
        exact ih _ _ _ _ _ h hR
      · cases h
    · split at h
      · split at h
        · rename_i hs
          exact ⟨hs, ih _ _ _ _ _ h hR⟩
        · cases h
      · cases h
    · split at h
      · split at h
        · rename_i hs
          exact ⟨hs, ih _ _ _ _ _ h hR⟩
        · cases h
      · cases h
    · split at h
      · split at h
        · rename_i hs
          exact ⟨hs, ih _ _ _ _ _ h hR⟩
        · cases h
      · cases h
    · exact hJ _ _ _ _ _ _ h hR
    · split at h
      · split at h
        · rename_i hs
          exact ⟨fun _ => hJ _ _ _ _ _ _ h hR, fun z => absurd hs z⟩
        · rename_i hs
          exact ⟨fun z => absurd z hs, fun _ => ih _ _ _ _ _ h hR⟩
      · cases h
    · split at h
      · split at h
        · rename_i hs
          split at h
          · rename_i hc
            split at h
            · rename_i hf
              split at h
              · rename_i h1
                rw [st_56]
                unfold s_getf
                simp only [hs, hf]
                exact ⟨hc.1, fun _ => hc.2, fun _ => h1, ih _ _ _ _ _ h hR⟩
              · cases h
            · cases h
          · cases h
        · cases h
      · cases h
    · split at h
      · split at h
        · rename_i hs
          split at h
          · rename_i hc
            rw [st_57]
            unfold s_putf
            simp only [hs, hc.2.2.2]
            exact ⟨hc.1, fun _ => hc.2.1, Or.inl hc.2.2.1, ih _ _ _ _ _ h hR⟩
          · cases h
        · cases h
      · cases h
    · split at h
      · split at h
        · rename_i hs
          split at h
          · rename_i hc
            rw [st_79]
            unfold s_putf
            simp only [hs, hc.2.2.2]
            exact ⟨hc.1, fun _ => hc.2.1, Or.inl hc.2.2.1, ih _ _ _ _ _ h hR⟩
          · cases h
        · cases h
      · split at h
        · rename_i hs
          split at h
          · rename_i hc
            rw [st_79]
            unfold s_putf
            simp only [hs, hc.2.2.2]
            exact ⟨hc.1, fun _ => hc.2.1, hc.2.2.1, trivial, trivial, ih _ _ _ _ _ h hR⟩
          · cases h
        · cases h
      · cases h
    · split at h
      · split at h
        · rename_i hs
          split at h
          · rename_i hc
            rw [st_59]
            unfold s_ast
            simp only [hs]
            exact ⟨hc.1, fun _ => hc.2.1, hc.2.2.1, hc.2.2.2, fun z => absurd z (by decide), ih _ _ _ _ _ h hR⟩
          · cases h
        · cases h
      · cases h
    · split at h
      · rename_i hp
        split at h
        · rename_i hc
          split at h
          · rename_i ws1 h1
            rw [st_67]
            unfold s_call
            simp only [hp]
            exact ⟨hc.1, hc.2.1, hc.2.2, Or.inr (Or.inl trivial), hC _ _ _ _ h1 _ (ih _ _ _ _ _ h hR)⟩
          · cases h
        · cases h
      · cases h
    · split at h
      · split at h
        · rename_i hs
          exact ⟨hs, ih _ _ _ _ _ h hR⟩
        · cases h
      · cases h
    · split at h
      · rename_i hs
        split at h
        · rename_i hc
          rw [st_69]
          unfold s_new
          unfold cnt at hs
          simp only [hs]
          exact ⟨hc.1, trivial, hc.2.1, hc.2.2, ih _ _ _ _ _ h hR⟩
        · cases h
      · cases h
    · split at h
      · split at h
        · rename_i hs
          split at h
          · rename_i hc
            rw [st_70]
            unfold s_newa
            unfold cnt at hs
            simp only [hs]
            exact ⟨hc.1, trivial, hc.2.1, hc.2.2.1, hc.2.2.2.1, hc.2.2.2.2, ih _ _ _ _ _ h hR⟩
          · cases h
        · cases h
      · cases h
    · split at h
      · split at h
        · rename_i hc
          cases h
          exact ⟨hc.1, hc.2, hQ _ hR⟩
        · cases h
      · cases h
    · exact hJ _ _ _ _ _ _ h hR
    · cases h
end XS
theorem xrun_s {d y : Nat} {Cx : Nat → List dX → dW → Option dW} {Q : dR → dS → Prop} {ws' : dW} (hy : (inf y).2.1 = true) (hC : ∀ (y : Nat) (as : List dX) (ws ws' : dW), Cx y as ws = some ws' → ∀ Q : dR → dS → Prop, Q (.inl none) (ov ws') → wpm blk inf d y as (ov ws) Q) (hq : Q (.inl none) (ov ws')) : ∀ (f lb : Nat) (u : Nat × Nat) (ls : dL) (st : List dX) (ws : dW), xrun Cx y f lb u ls st ws = some ws' → TT d y Q lb u ls st (ov ws)
  | 0, _, _, _, _, _, h => by simp [xrun] at h
  | f + 1, lb, u, ls, st, ws, h => by
    rw [TT_eq, hy]
    exact xex_s (R := fun w => w = ws') hC (fun w e => by rw [e]; exact hq) (fun lb u ls st w w' h1 e => by
      rw [e] at h1
      exact xrun_s hy hC hq f lb u ls st w h1) _ _ _ _ _ _ h rfl
theorem xcl_s : ∀ (d y : Nat) (as : List dX) (ws ws' : dW), xcl d y as ws = some ws' → ∀ Q : dR → dS → Prop, Q (.inl none) (ov ws') → wpm blk inf d y as (ov ws) Q
  | 0, _, _, _, _, h => by simp [xcl] at h
  | d + 1, y, as, ws, ws', h => by
    intro Q hq
    unfold xcl at h
    split at h
    · rename_i hc
      rw [wpm_eq]
      exact ⟨⟨hc.1, hc.2.1⟩, xrun_s hc.2.2 (xcl_s d) hq 5 0 (0, 0) _ _ ws h⟩
    · cases h
/-! the law's beginning -/
def lwB : List dI := [(69, 0, 8, [11, 19]), (40, 0, 0, []), (67, 0, 92, [97, 1, 0, 152, 152000]), (14, 0, 1, []), (69, 0, 93, [12, 76]), (40, 0, 0, []), (67, 0, 95, [156, 1, 0, 43, 9566]), (14, 0, 2, []), (0, 1, 0, []), (70, 0, 0, [2]), (14, 0, 3, []), (0, 0, 0, []), (11, 0, 4, []), (78, 0, 1, [])]
def lwL (i : Int) : dL := [some (.inr (.inr 100000)), some (.inr (.inr 0)), some (.inr (.inr 153)), some (.inr (.inr 197)), some (.inl i), none, none]
def lwJ (lb : Nat) (u : Nat × Nat) (ls : dL) (st : List dX) (ws : dW) : Option dW := if lb = 1 ∧ u.1 ≤ 1000 ∧ u.2 ≤ 300000 ∧ ls = lwL 0 ∧ st = [] then some ws else none
def cwX : Option dW := xex lwJ (xcl 8) (1000, 300000) lwB (0, 0) [some (.inr (.inr 100000)), none, none, none, none, none, none] [] []
set_option maxRecDepth 100000 in
theorem cwX_is : cwX.isSome = true := by decide +kernel
def cws : dW := cwX.getD []
theorem cwX_eq : cwX = some cws := by
  have h := cwX_is
  unfold cws
  cases h1 : cwX with
  | none => rw [h1] at h; cases h
  | some w => rfl
theorem ov_no {k : Nat} : ∀ {ws : dW}, ws.all (fun w => decide (w.1 ≠ k)) = true → ∀ i, ov ws k i = 0
  | [], _, _ => rfl
  | (k', i', v) :: ws, h, i => by
    rw [List.all_cons, Bool.and_eq_true] at h
    have h1 : k' ≠ k := of_decide_eq_true h.1
    show up (ov ws) k' i' v k i = 0
    rw [up_k (Ne.symm h1)]
    exact ov_no h.2 i
