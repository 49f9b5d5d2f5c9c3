/-! FAST: the same meanings, where what can be computed is computed away, and dead locals are none -/
def gd (b : Bool) (p : Prop) : Prop := match b with
  | true => p
  | false => False
theorem gd_e {b : Bool} {p : Prop} (h : gd b p) : b = true ∧ p := by
  cases b
  · exact h.elim
  · exact ⟨rfl, h⟩
def LEl (a b : dL) : Prop := a.length = b.length ∧ ∀ (i : Nat) (v : dX), a[i]? = some (some v) → b[i]? = some (some v)
def noL (ls : dL) : Prop := ∀ i : Nat, isL ls[i]? = false
def msk : List Bool → dL → dL
  | true :: m, v :: ls => v :: msk m ls
  | false :: m, _ :: ls => none :: msk m ls
  | _, ls => ls
theorem LEl_refl (ls : dL) : LEl ls ls := ⟨rfl, fun _ _ h => h⟩
theorem LEl_tr {a b c : dL} (h : LEl a b) (h2 : LEl b c) : LEl a c := ⟨h.1.trans h2.1, fun i v q => h2.2 i v (h.2 i v q)⟩
theorem msk_le : ∀ (m : List Bool) (ls : dL), LEl (msk m ls) ls
  | true :: m, v :: ls => by
    have ih := msk_le m ls
    refine ⟨by simp [msk, ih.1], fun i w h => ?_⟩
    cases i with
    | zero => exact h
    | succ i => exact ih.2 i w h
  | false :: m, v :: ls => by
    have ih := msk_le m ls
    refine ⟨by simp [msk, ih.1], fun i w h => ?_⟩
    cases i with
    | zero => simp [msk] at h
    | succ i => exact ih.2 i w h
  | [], ls => by rw [msk]; exact LEl_refl ls; all_goals (intros; simp_all)
  | true :: m, [] => LEl_refl []
  | false :: m, [] => LEl_refl []
theorem LEl_set {a b : dL} (h : LEl a b) (i : Nat) (v : dX) : LEl (a.set i (some v)) (b.set i (some v)) := by
  refine ⟨by simp [h.1], fun j w q => ?_⟩
  rw [List.getElem?_set] at q ⊢
  by_cases e : i = j
  · rw [if_pos e] at q ⊢
    rw [← h.1]
    exact q
  · rw [if_neg e] at q ⊢
    exact h.2 j w q
theorem noL_set {a : dL} (h : noL a) (i : Nat) (v : dX) (hv : c1 v = true) : noL (a.set i (some v)) := by
  intro j
  rw [List.getElem?_set]
  by_cases e : i = j
  · rw [if_pos e]
    split
    · match v, hv with
      | .inl _, _ => rfl
      | .inr (.inr _), _ => rfl
    · rfl
  · rw [if_neg e]
    exact h j
/-- an owed thing over known locals serves all locals that know more -/
def Rl (kf k : dK) : Prop := ∀ u ls' ls st σ, LEl ls' ls → noL ls → kf u ls' st σ → k u ls st σ
def f_istore (i : Nat) (k : dK) : dK := fun u ls st σ => match st with
  | .inl x :: r => gd (Nat.blt i ls.length) (k u (ls.set i (some (.inl x))) r σ)
  | _ => False
def f_astore (i : Nat) (k : dK) : dK := fun u ls st σ => match st with
  | .inr (.inr t) :: r => gd (Nat.blt i ls.length) (k u (ls.set i (some (.inr (.inr t)))) r σ)
  | _ => False
def f_iinc (i : Nat) (a : Int) (k : dK) : dK := fun u ls st σ => match ls[i]? with
  | some (some (.inl x)) => k u (ls.set i (some (.inl (wr (x + a))))) st σ
  | _ => False
def f_dup (k : dK) : dK := fun u ls st σ => match st with
  | .inl v :: r => k u ls (.inl v :: .inl v :: r) σ
  | .inr (.inr v) :: r => k u ls (.inr (.inr v) :: .inr (.inr v) :: r) σ
  | _ => False
def f_pop (k : dK) : dK := fun u ls st σ => match st with
  | .inl _ :: r => k u ls r σ
  | .inr (.inr _) :: r => k u ls r σ
  | _ => False
def f_dup2 (k : dK) : dK := fun u ls st σ => match st with
  | .inl v :: .inr (.inr w) :: r => k u ls (.inl v :: .inr (.inr w) :: .inl v :: .inr (.inr w) :: r) σ
  | _ => False
def f_getf (ci j : Nat) (k : dK) : dK := fun u ls st σ => match st with
  | .inr (.inr t) :: r => (match spx t with
    | some (.inr (c, fs)) => gd (Nat.beq c ci) (match fs[j]? with
      | some 0 => k u ls (.inl (σ t j) :: r) σ
      | some 1 => k u ls (.inr (.inl (wrL (σ t j + 4294967296 * σ t (j + 1000)))) :: r) σ
      | some (q + 2) => k u ls (.inr (.inr q) :: r) σ
      | none => False)
    | _ => False)
  | _ => False
/-- a store that follows from another, by name -/
def st1 (σ1 : dS) (k : dS → Prop) : Prop := ∀ σ' : dS, σ' = σ1 → k σ'
theorem st1_e {σ1 : dS} {k : dS → Prop} (h : st1 σ1 k) : k σ1 := h σ1 rfl
def f_putf (ci j z : Nat) (k : dK) : dK := fun u ls st σ => match st with
  | v :: .inr (.inr t) :: r => (match spx t with
    | some (.inr (c, fs)) => gd (Nat.beq c ci) (match fs[j]?, v with
      | some 0, .inl x => (match z with
        | 0 => st1 (up σ t j x) (fun σ' => k u ls r σ')
        | 1 => (x = 0 ∨ x = 1) ∧ st1 (up σ t j x) (fun σ' => k u ls r σ')
        | _ => False)
      | some 1, .inr (.inl x) => gd (Nat.beq z 2) (lS x ∧ st1 (up (up σ t j (lo32 x)) t (j + 1000) (hi32 x)) (fun σ' => k u ls r σ'))
      | _, _ => False)
    | _ => False)
  | _ => False
def f_ald (kind : Nat) (k : dK) : dK := fun u ls st σ => match st with
  | .inl i :: .inr (.inr t) :: r => (match spx t with
    | some (.inl (n, kd)) => gd (Nat.beq kd kind) (0 ≤ i ∧ i < n ∧ k u ls (.inl (σ t i) :: r) σ)
    | _ => False)
  | _ => False
def f_ast (kind : Nat) (k : dK) : dK := fun u ls st σ => match st with
  | .inl x :: .inl i :: .inr (.inr t) :: r => (match spx t with
    | some (.inl (n, kd)) => gd (Nat.beq kd kind) (0 ≤ i ∧ i < n ∧ (match kind with
      | 0 => st1 (up σ t i x) (fun σ' => k u ls r σ')
      | _ => (x = 0 ∨ x = 1) ∧ st1 (up σ t i x) (fun σ' => k u ls r σ')))
    | _ => False)
  | _ => False
def f_alen (k : dK) : dK := fun u ls st σ => match st with
  | .inr (.inr t) :: r => (match spx t with
    | some (.inl (n, _)) => k u ls (.inl (n : Int) :: r) σ
    | _ => False)
  | _ => False
/-- what a method answers: 0 nothing, 1 an int, 2 a long -/
def rkl : List Nat := [1, 1, 1, 1, 0, 1, 0, 0, 0, 0, 0, 0, 0, 0, 0, 0, 0, 0, 1, 1, 0, 0, 0, 1, 0, 0, 0, 0, 1, 1, 1, 1, 0, 0, 0, 1, 0, 0, 0, 1, 1, 1, 1, 1, 1, 0, 1, 1, 1, 1, 1, 1, 1, 1, 1, 1, 1, 1, 1, 1, 1, 1, 1, 1, 1, 1, 1, 0, 0, 1, 0, 1, 1, 1, 1, 1, 0, 0, 0, 1, 1, 1, 1, 1, 1, 1, 0, 1, 1, 1, 1, 0, 0, 0, 0, 1, 1, 0, 1, 0, 1, 1, 1, 1, 1, 1, 1, 1, 1, 0, 0, 0, 1, 1, 1, 1, 1, 1, 1, 1, 1, 1, 1, 1, 1, 1, 1, 1, 1, 1, 1, 1, 1, 1, 1, 1, 1, 1, 0, 1, 1, 1, 0, 1, 0, 1, 1, 1, 1, 1, 1, 1, 1, 1, 0, 1, 0, 1, 1, 1, 1, 0, 1, 1, 0, 1, 1, 1, 0, 2, 2, 1, 0, 1, 1, 0, 1, 1, 1, 0, 1, 1, 0, 0, 0, 0, 0, 1, 0, 0, 0, 0, 0, 0, 1, 1, 1, 1, 1, 0, 1, 1, 1, 1, 1, 0, 1, 0, 1, 0, 1, 1, 1, 1, 1, 1, 1, 1, 1, 1, 1, 1, 1, 1, 1, 1, 1, 1, 1, 1, 1, 1, 1, 1, 1, 1, 1, 1, 1, 1, 1, 1, 1, 1, 1, 1, 1, 1, 1, 1, 1, 1, 1, 1, 1, 1, 1, 0, 1, 1, 1, 1, 1, 1, 1, 0, 1]
def rk (y : Nat) : Nat := rkl.getD y 0
def wV (d y : Nat) (as : List dX) (σ : dS) (Q : dR → dS → Prop) (K : dS → Prop) : Prop := wpm blk inf d y as σ (fun res σ' => match res with
  | .inl none => K σ'
  | .inl (some _) => False
  | .inr e => Q (.inr e) σ')
def wI (d y : Nat) (as : List dX) (σ : dS) (Q : dR → dS → Prop) (K : Int → dS → Prop) : Prop := wpm blk inf d y as σ (fun res σ' => match res with
  | .inl (some (.inl v)) => K v σ'
  | .inl _ => False
  | .inr e => Q (.inr e) σ')
def wJ (d y : Nat) (as : List dX) (σ : dS) (Q : dR → dS → Prop) (K : Int → dS → Prop) : Prop := wpm blk inf d y as σ (fun res σ' => match res with
  | .inl (some (.inr (.inl v))) => K v σ'
  | .inl _ => False
  | .inr e => Q (.inr e) σ')
def rowN (t : Nat) : Option Nat := match spx t, spx (t + 1) with
  | some (.inr (6, [q])), some (.inl (n, 0)) => (match Nat.beq q (t + 3) with
    | true => some n
    | false => none)
  | _, _ => none
theorem rowN_is {t n : Nat} (h : rowN t = some n) : isRow t n := by
  unfold rowN at h
  split at h
  · rename_i q m h1 h2
    split at h
    · rename_i e
      have e' := Nat.eq_of_beq_eq_true e
      rw [e'] at h1
      cases h
      exact ⟨h1, h2⟩
    · cases h
  · cases h
def fC (d y : Nat) (as : List dX) (σ : dS) (Q : dR → dS → Prop) (K : Option dX → dS → Prop) : Prop := match y with
  | 2 => (match as with
    | [.inl a, .inl b] => K (some (.inl (max a b))) σ
    | _ => False)
  | 3 => (match as with
    | [.inl a, .inl b] => K (some (.inl (min a b))) σ
    | _ => False)
  | 5 => (match as with
    | [.inr (.inr t), .inl i] => (match rowN t with
      | some n => K (some (.inl (rat σ (t + 1) n i))) σ
      | none => False)
    | _ => False)
  | 6 => (match as with
    | [.inr (.inr t), .inl i, .inl v] => (match rowN t with
      | some n => st1 (rput σ (t + 1) n i v) (fun σ' => K none σ')
      | none => False)
    | _ => False)
  | 7 => (match as with
    | [.inr (.inr t), .inl v] => (match rowN t with
      | some n => st1 (rfill σ (t + 1) n v 0) (fun σ' => K none σ')
      | none => False)
    | _ => False)
  | 8 => (match as with
    | [.inr (.inr t), .inr (.inr t2)] => (match rowN t, rowN t2 with
      | some n, some n2 => gd (!Nat.beq t t2) (st1 (rcopy σ (t + 1) n (t2 + 1) n2 0) (fun σ' => K none σ'))
      | _, _ => False)
    | _ => False)
  | y => (match rk y with
    | 0 => wV (d + 1) y as σ Q (fun σ' => K none σ')
    | 1 => wI (d + 1) y as σ Q (fun v σ' => K (some (.inl v)) σ')
    | _ => wJ (d + 1) y as σ Q (fun v σ' => K (some (.inr (.inl v))) σ'))
theorem max_eq (d : Nat) (a b : Int) (σ : dS) (Q : dR → dS → Prop) : wpm blk inf (d + 1) 2 [.inl a, .inl b] σ Q = Q (.inl (some (.inl (max a b)))) σ := by
  rw [wpm_eq, iq_2]
  apply propext
  simp [TT_eq, iq_2, bq_2, bk_2, ex_cons, st_0, st_1, st_2, st_3, st_4, st_5, st_6, st_7, st_8, st_9, st_10, st_11, st_12, st_13, st_14, st_15, st_16, st_17, st_18, st_19, st_20, st_21, st_22, st_23, st_24, st_25, st_26, st_27, st_28, st_29, st_30, st_32, st_33, st_34, st_35, st_36, st_37, st_38, st_39, st_40, st_41, st_42, st_43, st_44, st_45, st_46, st_47, st_48, st_49, st_50, st_51, st_52, st_53, st_54, st_55, st_56, st_57, st_58, st_59, st_60, st_61, st_62, st_63, st_64, st_65, st_66, st_67, st_68, st_69, st_70, st_71, st_72, st_73, st_74, st_75, st_76, st_78, st_79, st_84, st_85, st_86, s_push, s_iload, s_lload, s_aload, s_istore, s_astore, s_lstore, s_iinc, s_bin, s_div, s_un, s_i2l, s_lbin, s_lshl, s_lcmp, s_dup, s_pop, s_dup2, s_if, s_icmp, isT, s_getf, s_putf, s_ald, s_ast, s_lald, s_last, s_alen, s_call, s_objI, s_new, s_newa, s_iret, s_lret, s_vret, s_tsw, swT, s_lsw, swL, s_throw, s_tln, s_tch, s_tix, n0, okS, isL, c1, wt, popN]
  by_cases h : a < b
  · rw [show max a b = b by omega]
    simp [h, show ¬ b ≤ a by omega]
  · rw [show max a b = a by omega]
    simp [h, show b ≤ a by omega]
theorem min_eq (d : Nat) (a b : Int) (σ : dS) (Q : dR → dS → Prop) : wpm blk inf (d + 1) 3 [.inl a, .inl b] σ Q = Q (.inl (some (.inl (min a b)))) σ := by
  rw [wpm_eq, iq_3]
  apply propext
  simp [TT_eq, iq_3, bq_3, bk_3, ex_cons, st_0, st_1, st_2, st_3, st_4, st_5, st_6, st_7, st_8, st_9, st_10, st_11, st_12, st_13, st_14, st_15, st_16, st_17, st_18, st_19, st_20, st_21, st_22, st_23, st_24, st_25, st_26, st_27, st_28, st_29, st_30, st_32, st_33, st_34, st_35, st_36, st_37, st_38, st_39, st_40, st_41, st_42, st_43, st_44, st_45, st_46, st_47, st_48, st_49, st_50, st_51, st_52, st_53, st_54, st_55, st_56, st_57, st_58, st_59, st_60, st_61, st_62, st_63, st_64, st_65, st_66, st_67, st_68, st_69, st_70, st_71, st_72, st_73, st_74, st_75, st_76, st_78, st_79, st_84, st_85, st_86, s_push, s_iload, s_lload, s_aload, s_istore, s_astore, s_lstore, s_iinc, s_bin, s_div, s_un, s_i2l, s_lbin, s_lshl, s_lcmp, s_dup, s_pop, s_dup2, s_if, s_icmp, isT, s_getf, s_putf, s_ald, s_ast, s_lald, s_last, s_alen, s_call, s_objI, s_new, s_newa, s_iret, s_lret, s_vret, s_tsw, swT, s_lsw, swL, s_throw, s_tln, s_tch, s_tix, n0, okS, isL, c1, wt, popN]
  by_cases h : b < a
  · rw [show min a b = b by omega]
    simp [h, show ¬ a ≤ b by omega]
  · rw [show min a b = a by omega]
    simp [h, show a ≤ b by omega]
theorem fC_s {d y : Nat} {as : List dX} {σ : dS} {Q : dR → dS → Prop} {K : Option dX → dS → Prop} (h : fC d y as σ Q K) : wpm blk inf (d + 1) y as σ (fun res σ' => match res with
    | .inl v => K v σ'
    | .inr e => Q (.inr e) σ') := by
  unfold fC at h
  split at h
  · split at h
    · rw [max_eq]; exact h
    · exact h.elim
  · split at h
    · rw [min_eq]; exact h
    · exact h.elim
  · split at h
    · split at h
      · rename_i n hn
        rw [at_eq d (rowN_is hn)]; exact h
      · exact h.elim
    · exact h.elim
  · split at h
    · split at h
      · rename_i n hn
        rw [put_eq d (rowN_is hn)]; exact st1_e h
      · exact h.elim
    · exact h.elim
  · split at h
    · split at h
      · rename_i n hn
        rw [fill_eq d (rowN_is hn)]; exact st1_e h
      · exact h.elim
    · exact h.elim
  · split at h
    · split at h
      · rename_i t t2 _ _ n n2 hn hn2
        obtain ⟨g1, g2⟩ := gd_e h
        rw [copy_eq d (rowN_is hn) (rowN_is hn2) (fun e => by rw [e] at g1; simp at g1)]
        exact st1_e g2
      · exact h.elim
    · exact h.elim
  · split at h
    · refine wpm_mono h (fun r σ' q => ?_)
      split at q
      · exact q
      · exact q.elim
      · exact q
    · refine wpm_mono h (fun r σ' q => ?_)
      split at q
      · exact q
      · exact q.elim
      · exact q
    · refine wpm_mono h (fun r σ' q => ?_)
      split at q
      · exact q
      · exact q.elim
      · exact q
def rcv (ci : Nat) (as : List dX) : Bool := match ci with
  | 0 => true
  | ci => (match as with
    | .inr (.inr t) :: _ => (match Nat.beq ci 999 with
      | true => true
      | false => (match spx t with
        | some (.inr (c, _)) => Nat.beq (c + 1) ci
        | _ => false))
    | _ => false)
def f_call (d : Nat) (B : Nat × Nat) (Q : dR → dS → Prop) (y n ci mc ms : Nat) (k : dK) : dK := fun u ls st σ => match popN n [] st with
  | some (as, r) => gd (Nat.ble (wt r) 8) (gd (Nat.ble (u.1 + mc) B.1) (gd (Nat.ble (u.2 + ms) B.2) (gd (rcv ci as) (fC d y as σ Q (fun v σ' => match v with
    | some v => k (u.1 + mc, u.2 + ms) ls (v :: r) σ'
    | none => k (u.1 + mc, u.2 + ms) ls r σ')))))
  | none => False
def f_iret (B : Nat × Nat) (Q : dR → dS → Prop) (z : Nat) : dK := fun u _ st σ => match st with
  | [.inl x] => gd (Nat.ble u.1 B.1) (gd (Nat.ble u.2 B.2) (match z with
    | 1 => (x = 0 ∨ x = 1) ∧ Q (.inl (some (.inl x))) σ
    | _ => Q (.inl (some (.inl x))) σ))
  | _ => False
def f_lret (B : Nat × Nat) (Q : dR → dS → Prop) : dK := fun u _ st σ => match st with
  | [.inr (.inl x)] => gd (Nat.ble u.1 B.1) (gd (Nat.ble u.2 B.2) (Q (.inl (some (.inr (.inl x)))) σ))
  | _ => False
def f_vret (B : Nat × Nat) (Q : dR → dS → Prop) : dK := fun u _ st σ => match st with
  | [] => gd (Nat.ble u.1 B.1) (gd (Nat.ble u.2 B.2) (Q (.inl none) σ))
  | _ => False
def f_throw (B : Nat × Nat) (Q : dR → dS → Prop) (e : Nat) : dK := fun u _ st σ => gd (Nat.ble (u.1 + 1) B.1) (gd (Nat.ble (u.2 + 6) B.2) (gd (Nat.ble (wt st) 8) (Q (.inr e) σ)))
def f_tln (B : Nat × Nat) (n : Nat) (k : dK) : dK := fun u ls st σ => gd (Nat.ble (wt st) 8) (gd (Nat.ble u.1 B.1) (gd (Nat.ble u.2 B.2) (k u ls (.inl (tx_len n) :: st) σ)))
def f_tch (B : Nat × Nat) (n i : Nat) (k : dK) : dK := fun u ls st σ => match ls[i]? with
  | some (some (.inl x)) => gd (Nat.ble (wt st) 8) (gd (Nat.ble u.1 B.1) (gd (Nat.ble u.2 B.2) (0 ≤ x ∧ x < tx_len n ∧ k u ls (.inl (tx_ch n x) :: st) σ)))
  | _ => False
def f_tix (B : Nat × Nat) (n i : Nat) (k : dK) : dK := fun u ls st σ => match ls[i]? with
  | some (some (.inl x)) => gd (Nat.ble (wt st) 8) (gd (Nat.ble u.1 B.1) (gd (Nat.ble u.2 B.2) (0 ≤ x ∧ x ≤ 255 ∧ k u ls (.inl (tx_ix n x) :: st) σ)))
  | _ => False
def fstp (d : Nat) (B : Nat × Nat) (P : Nat → dK) (Q : dR → dS → Prop) (op : Nat) (a : Int) (b : Nat) (tl : List Nat) (k : dK) : dK := match op with
  | 0 => s_push (.inl a) k
  | 1 => s_push (.inl a) k
  | 2 => s_push (.inl a) k
  | 3 => s_push (.inl a) k
  | 4 => s_push (.inl a) k
  | 5 => s_iload b k
  | 6 => s_iload b k
  | 7 => s_aload b k
  | 8 => s_aload b k
  | 11 => f_istore b k
  | 12 => f_istore b k
  | 13 => f_astore b k
  | 14 => f_astore b k
  | 17 => f_iinc b a k
  | 18 => s_bin (fun x y => wr (x + y)) k
  | 19 => s_bin (fun x y => wr (x - y)) k
  | 20 => s_bin (fun x y => wr (x * y)) k
  | 21 => s_div idv k
  | 22 => s_div irm k
  | 23 => s_un (fun x => wr (-x)) k
  | 24 => s_bin shl k
  | 25 => s_bin shr k
  | 26 => s_bin ush k
  | 27 => s_bin ian k
  | 28 => s_bin ior k
  | 29 => s_bin ixr k
  | 30 => s_i2l k
  | 32 => s_un i2c k
  | 33 => s_lcmp k
  | 34 => s_push (.inr (.inl a)) k
  | 35 => s_lbin (fun x y => wrL (x + y)) k
  | 36 => s_lbin (fun x y => wrL (x - y)) k
  | 37 => s_lshl k
  | 38 => s_lbin lio k
  | 39 => s_push (.inr (.inl a)) k
  | 40 => f_dup k
  | 41 => f_pop k
  | 42 => f_dup2 k
  | 43 => P b
  | 44 => s_if (fun x => x = 0) (P b) k
  | 45 => s_if (fun x => x ≠ 0) (P b) k
  | 46 => s_if (fun x => x < 0) (P b) k
  | 47 => s_if (fun x => 0 ≤ x) (P b) k
  | 48 => s_if (fun x => 0 < x) (P b) k
  | 49 => s_if (fun x => x ≤ 0) (P b) k
  | 50 => s_icmp (fun x y => x = y) (P b) k
  | 51 => s_icmp (fun x y => x ≠ y) (P b) k
  | 52 => s_icmp (fun x y => x < y) (P b) k
  | 53 => s_icmp (fun x y => y ≤ x) (P b) k
  | 54 => s_icmp (fun x y => y < x) (P b) k
  | 55 => s_icmp (fun x y => x ≤ y) (P b) k
  | 56 => f_getf (n0 tl 0) (n0 tl 1) k
  | 57 => f_putf (n0 tl 0) (n0 tl 1) (n0 tl 2) k
  | 58 => f_ald 0 k
  | 59 => f_ast 0 k
  | 60 => f_ald 1 k
  | 61 => f_ast 1 k
  | 64 => f_alen k
  | 65 => f_call d B Q (n0 tl 0) (n0 tl 1) (n0 tl 2) (n0 tl 3) (n0 tl 4) k
  | 66 => f_call d B Q (n0 tl 0) (n0 tl 1) 0 (n0 tl 3) (n0 tl 4) k
  | 71 => f_iret B Q (n0 tl 0)
  | 72 => f_lret B Q
  | 73 => f_vret B Q
  | 74 => s_tsw P b a tl
  | 75 => s_lsw P b tl
  | 76 => f_throw B Q (n0 tl 0)
  | 78 => P b
  | 84 => f_tln B (n0 tl 0) k
  | 85 => f_tch B (n0 tl 0) b k
  | 86 => f_tix B (n0 tl 0) b k
  | _ => fun _ _ _ _ => False
def fex (d : Nat) (B : Nat × Nat) (P : Nat → dK) (Q : dR → dS → Prop) : List dI → dK
  | [] => fun _ _ _ _ => False
  | (op, a, b, tl) :: is => fstp d B P Q op a b tl (fex d B P Q is)
section RL
variable {kf k : dK}
theorem rl_push {v : dX} (hk : Rl kf k) : Rl (s_push v kf) (s_push v k) := fun _ _ _ _ _ h1 h2 h => hk _ _ _ _ _ h1 h2 h
theorem rl_iload {i : Nat} (hk : Rl kf k) : Rl (s_iload i kf) (s_iload i k) := by
  intro u ls' ls st σ h1 h2 h
  unfold s_iload at h ⊢
  split at h
  · rename_i x hx
    rw [h1.2 _ _ hx]
    exact hk _ _ _ _ _ h1 h2 h
  · exact h.elim
theorem rl_aload {i : Nat} (hk : Rl kf k) : Rl (s_aload i kf) (s_aload i k) := by
  intro u ls' ls st σ h1 h2 h
  unfold s_aload at h ⊢
  split at h
  · rename_i x hx
    rw [h1.2 _ _ hx]
    exact hk _ _ _ _ _ h1 h2 h
  · exact h.elim
theorem okS_of {i : Nat} {ls' ls : dL} (h1 : LEl ls' ls) (h2 : noL ls) (h : Nat.blt i ls'.length = true) : okS ls i :=
  ⟨by rw [← h1.1]; exact Nat.le_of_ble_eq_true h, Or.inr (h2 _)⟩
theorem rl_istore {i : Nat} (hk : Rl kf k) : Rl (f_istore i kf) (s_istore i k) := by
  intro u ls' ls st σ h1 h2 h
  unfold f_istore at h
  unfold s_istore
  split at h
  · obtain ⟨g1, g2⟩ := gd_e h
    exact ⟨okS_of h1 h2 g1, hk _ _ _ _ _ (LEl_set h1 _ _) (noL_set h2 _ _ rfl) g2⟩
  · exact h.elim
theorem rl_astore {i : Nat} (hk : Rl kf k) : Rl (f_astore i kf) (s_astore i k) := by
  intro u ls' ls st σ h1 h2 h
  unfold f_astore at h
  unfold s_astore
  split at h
  · obtain ⟨g1, g2⟩ := gd_e h
    exact ⟨okS_of h1 h2 g1, hk _ _ _ _ _ (LEl_set h1 _ _) (noL_set h2 _ _ rfl) g2⟩
  · exact h.elim
theorem rl_iinc {i : Nat} {a : Int} (hk : Rl kf k) : Rl (f_iinc i a kf) (s_iinc i a k) := by
  intro u ls' ls st σ h1 h2 h
  unfold f_iinc at h
  unfold s_iinc
  split at h
  · rename_i x hx
    have hy := h1.2 _ _ hx
    rw [hy]
    exact ⟨⟨(List.getElem?_eq_some_iff.mp hy).1, Or.inr (h2 _)⟩, hk _ _ _ _ _ (LEl_set h1 _ _) (noL_set h2 _ _ rfl) h⟩
  · exact h.elim
theorem rl_bin {f : Int → Int → Int} (hk : Rl kf k) : Rl (s_bin f kf) (s_bin f k) := by
  intro u ls' ls st σ h1 h2 h
  unfold s_bin at h ⊢
  split at h
  · exact hk _ _ _ _ _ h1 h2 h
  · exact h.elim
theorem rl_div {f : Int → Int → Int} (hk : Rl kf k) : Rl (s_div f kf) (s_div f k) := by
  intro u ls' ls st σ h1 h2 h
  unfold s_div at h ⊢
  split at h
  · exact ⟨h.1, hk _ _ _ _ _ h1 h2 h.2⟩
  · exact h.elim
theorem rl_un {f : Int → Int} (hk : Rl kf k) : Rl (s_un f kf) (s_un f k) := by
  intro u ls' ls st σ h1 h2 h
  unfold s_un at h ⊢
  split at h
  · exact hk _ _ _ _ _ h1 h2 h
  · exact h.elim
theorem rl_i2l (hk : Rl kf k) : Rl (s_i2l kf) (s_i2l k) := by
  intro u ls' ls st σ h1 h2 h
  unfold s_i2l at h ⊢
  split at h
  · exact hk _ _ _ _ _ h1 h2 h
  · exact h.elim
theorem rl_lbin {f : Int → Int → Int} (hk : Rl kf k) : Rl (s_lbin f kf) (s_lbin f k) := by
  intro u ls' ls st σ h1 h2 h
  unfold s_lbin at h ⊢
  split at h
  · exact hk _ _ _ _ _ h1 h2 h
  · exact h.elim
theorem rl_lshl (hk : Rl kf k) : Rl (s_lshl kf) (s_lshl k) := by
  intro u ls' ls st σ h1 h2 h
  unfold s_lshl at h ⊢
  split at h
  · exact hk _ _ _ _ _ h1 h2 h
  · exact h.elim
theorem rl_lcmp (hk : Rl kf k) : Rl (s_lcmp kf) (s_lcmp k) := by
  intro u ls' ls st σ h1 h2 h
  unfold s_lcmp at h ⊢
  split at h
  · exact hk _ _ _ _ _ h1 h2 h
  · exact h.elim
theorem rl_dup (hk : Rl kf k) : Rl (f_dup kf) (s_dup k) := by
  intro u ls' ls st σ h1 h2 h
  unfold f_dup at h
  unfold s_dup
  split at h
  · exact ⟨rfl, hk _ _ _ _ _ h1 h2 h⟩
  · exact ⟨rfl, hk _ _ _ _ _ h1 h2 h⟩
  · exact h.elim
theorem rl_pop (hk : Rl kf k) : Rl (f_pop kf) (s_pop k) := by
  intro u ls' ls st σ h1 h2 h
  unfold f_pop at h
  unfold s_pop
  split at h
  · exact ⟨rfl, hk _ _ _ _ _ h1 h2 h⟩
  · exact ⟨rfl, hk _ _ _ _ _ h1 h2 h⟩
  · exact h.elim
theorem rl_dup2 (hk : Rl kf k) : Rl (f_dup2 kf) (s_dup2 k) := by
  intro u ls' ls st σ h1 h2 h
  unfold f_dup2 at h
  unfold s_dup2
  split at h
  · exact ⟨rfl, rfl, hk _ _ _ _ _ h1 h2 h⟩
  · exact h.elim
theorem rl_if {c : Int → Prop} {jf j : dK} (hj : Rl jf j) (hk : Rl kf k) : Rl (s_if c jf kf) (s_if c j k) := by
  intro u ls' ls st σ h1 h2 h
  unfold s_if at h ⊢
  split at h
  · exact ⟨fun q => hj _ _ _ _ _ h1 h2 (h.1 q), fun q => hk _ _ _ _ _ h1 h2 (h.2 q)⟩
  · exact h.elim
theorem rl_icmp {c : Int → Int → Prop} {jf j : dK} (hj : Rl jf j) (hk : Rl kf k) : Rl (s_icmp c jf kf) (s_icmp c j k) := by
  intro u ls' ls st σ h1 h2 h
  unfold s_icmp at h ⊢
  split at h
  · exact ⟨fun q => hj _ _ _ _ _ h1 h2 (h.1 q), fun q => hk _ _ _ _ _ h1 h2 (h.2 q)⟩
  · exact h.elim
theorem rl_getf {ci j : Nat} (hk : Rl kf k) : Rl (f_getf ci j kf) (s_getf false ci j k) := by
  intro u ls' ls st σ h1 h2 h
  unfold f_getf at h
  unfold s_getf
  split at h
  · split at h
    · rename_i hs
      simp only [hs]
      obtain ⟨g1, g2⟩ := gd_e h
      refine ⟨Nat.eq_of_beq_eq_true g1, nofun, ?_⟩
      split at g2
      · rename_i hf; simp only [hf]; exact hk _ _ _ _ _ h1 h2 g2
      · rename_i hf; simp only [hf]; exact hk _ _ _ _ _ h1 h2 g2
      · rename_i hf; simp only [hf]; exact ⟨nofun, hk _ _ _ _ _ h1 h2 g2⟩
      · exact g2.elim
    · exact h.elim
  · exact h.elim
theorem rl_putf {ci j z : Nat} (hk : Rl kf k) : Rl (f_putf ci j z kf) (s_putf false ci j z k) := by
  intro u ls' ls st σ h1 h2 h
  unfold f_putf at h
  unfold s_putf
  split at h
  · split at h
    · rename_i hs
      simp only [hs]
      obtain ⟨g1, g2⟩ := gd_e h
      refine ⟨Nat.eq_of_beq_eq_true g1, nofun, ?_⟩
      split at g2
      · rename_i hf
        simp only [hf]
        split at g2
        · exact ⟨Or.inl rfl, hk _ _ _ _ _ h1 h2 (st1_e g2)⟩
        · exact ⟨Or.inr ⟨rfl, g2.1⟩, hk _ _ _ _ _ h1 h2 (st1_e g2.2)⟩
        · exact g2.elim
      · rename_i hf
        simp only [hf]
        obtain ⟨g3, g4⟩ := gd_e g2
        exact ⟨Nat.eq_of_beq_eq_true g3, g4.1, hk _ _ _ _ _ h1 h2 (st1_e g4.2)⟩
      · exact g2.elim
    · exact h.elim
  · exact h.elim
theorem rl_ald {kind : Nat} (hk : Rl kf k) : Rl (f_ald kind kf) (s_ald false kind k) := by
  intro u ls' ls st σ h1 h2 h
  unfold f_ald at h
  unfold s_ald
  split at h
  · split at h
    · rename_i hs
      simp only [hs]
      obtain ⟨g1, g2⟩ := gd_e h
      exact ⟨Nat.eq_of_beq_eq_true g1, nofun, g2.1, g2.2.1, hk _ _ _ _ _ h1 h2 g2.2.2⟩
    · exact h.elim
  · exact h.elim
theorem rl_ast {kind : Nat} (hk : Rl kf k) : Rl (f_ast kind kf) (s_ast false kind k) := by
  intro u ls' ls st σ h1 h2 h
  unfold f_ast at h
  unfold s_ast
  split at h
  · split at h
    · rename_i hs
      simp only [hs]
      obtain ⟨g1, g2⟩ := gd_e h
      obtain ⟨g3, g4, g5⟩ := g2
      refine ⟨Nat.eq_of_beq_eq_true g1, nofun, g3, g4, ?_⟩
      split at g5
      · exact ⟨nofun, hk _ _ _ _ _ h1 h2 (st1_e g5)⟩
      · exact ⟨fun _ => g5.1, hk _ _ _ _ _ h1 h2 (st1_e g5.2)⟩
    · exact h.elim
  · exact h.elim
theorem rl_alen (hk : Rl kf k) : Rl (f_alen kf) (s_alen false k) := by
  intro u ls' ls st σ h1 h2 h
  unfold f_alen at h
  unfold s_alen
  split at h
  · split at h
    · rename_i hs
      simp only [hs]
      exact ⟨nofun, hk _ _ _ _ _ h1 h2 h⟩
    · exact h.elim
  · exact h.elim
theorem rcv_s {ci : Nat} {as : List dX} {σ : dS} : rcv ci as = true → ci = 0 ∨ (match as with
      | .inr (.inr t) :: _ => ci = 999 ∨ (match spx t with
        | some (.inr (c, _)) => c + 1 = ci ∧ isT false σ t
        | _ => False)
      | _ => False) := by
  intro h
  cases ci with
  | zero => exact Or.inl rfl
  | succ ci =>
    refine Or.inr ?_
    match as, h with
    | .inr (.inr t) :: _, h =>
      simp only [rcv] at h ⊢
      split at h
      · rename_i e
        exact Or.inl (Nat.eq_of_beq_eq_true e)
      · split at h
        · exact Or.inr ⟨Nat.eq_of_beq_eq_true h, nofun⟩
        · cases h
theorem rl_call {d : Nat} {B : Nat × Nat} {Q : dR → dS → Prop} {y n ci mc ms : Nat} (hk : Rl kf k) : Rl (f_call d B Q y n ci mc ms kf) (s_call false (wpm blk inf (d + 1)) B Q y n ci mc ms k) := by
  intro u ls' ls st σ h1 h2 h
  unfold f_call at h
  unfold s_call
  split at h
  · rename_i as r hp
    simp only [hp]
    obtain ⟨g1, h⟩ := gd_e h
    obtain ⟨g2, h⟩ := gd_e h
    obtain ⟨g3, h⟩ := gd_e h
    obtain ⟨g4, h⟩ := gd_e h
    refine ⟨Nat.le_of_ble_eq_true g1, Nat.le_of_ble_eq_true g2, Nat.le_of_ble_eq_true g3, rcv_s g4, ?_⟩
    refine wpm_mono (fC_s h) (fun res σ' q => ?_)
    match res, q with
    | .inl (some v), q => exact hk _ _ _ _ _ h1 h2 q
    | .inl none, q => exact hk _ _ _ _ _ h1 h2 q
    | .inr e, q => exact q
  · exact h.elim
theorem rl_iret {B : Nat × Nat} {Q : dR → dS → Prop} {z : Nat} : Rl (f_iret B Q z) (s_iret B Q z) := by
  intro u ls' ls st σ h1 h2 h
  unfold f_iret at h
  unfold s_iret
  split at h
  · obtain ⟨g1, h⟩ := gd_e h
    obtain ⟨g2, h⟩ := gd_e h
    refine ⟨Nat.le_of_ble_eq_true g1, Nat.le_of_ble_eq_true g2, ?_⟩
    split at h
    · exact ⟨fun _ => h.1, h.2⟩
    · rename_i hz
      exact ⟨fun e => absurd e hz, h⟩
  · exact h.elim
theorem rl_lret {B : Nat × Nat} {Q : dR → dS → Prop} : Rl (f_lret B Q) (s_lret B Q) := by
  intro u ls' ls st σ h1 h2 h
  unfold f_lret at h
  unfold s_lret
  split at h
  · obtain ⟨g1, h⟩ := gd_e h
    obtain ⟨g2, h⟩ := gd_e h
    exact ⟨Nat.le_of_ble_eq_true g1, Nat.le_of_ble_eq_true g2, h⟩
  · exact h.elim
theorem rl_vret {B : Nat × Nat} {Q : dR → dS → Prop} : Rl (f_vret B Q) (s_vret B Q) := by
  intro u ls' ls st σ h1 h2 h
  unfold f_vret at h
  unfold s_vret
  split at h
  · obtain ⟨g1, h⟩ := gd_e h
    obtain ⟨g2, h⟩ := gd_e h
    exact ⟨Nat.le_of_ble_eq_true g1, Nat.le_of_ble_eq_true g2, h⟩
  · exact h.elim
theorem rl_throw {B : Nat × Nat} {Q : dR → dS → Prop} {e : Nat} : Rl (f_throw B Q e) (s_throw B Q e) := by
  intro u ls' ls st σ h1 h2 h
  unfold f_throw at h
  unfold s_throw
  obtain ⟨g1, h⟩ := gd_e h
  obtain ⟨g2, h⟩ := gd_e h
  obtain ⟨g3, h⟩ := gd_e h
  exact ⟨Nat.le_of_ble_eq_true g1, Nat.le_of_ble_eq_true g2, Nat.le_of_ble_eq_true g3, h⟩
theorem rl_swT {Pf P : Nat → dK} (hP : ∀ lb, Rl (Pf lb) (P lb)) {dl : Nat} {x : Int} {u : Nat × Nat} {ls' ls : dL} {r : List dX} {σ : dS} (h1 : LEl ls' ls) (h2 : noL ls) : ∀ (tl : List Nat) (a : Int), swT Pf dl x u ls' r σ a tl → swT P dl x u ls r σ a tl
  | [], _, h => hP _ _ _ _ _ _ h1 h2 h
  | _ :: tl, _, h => ⟨fun q => hP _ _ _ _ _ _ h1 h2 (h.1 q), fun q => rl_swT hP h1 h2 tl _ (h.2 q)⟩
theorem rl_tsw {Pf P : Nat → dK} (hP : ∀ lb, Rl (Pf lb) (P lb)) {dl : Nat} {a : Int} {tl : List Nat} : Rl (s_tsw Pf dl a tl) (s_tsw P dl a tl) := by
  intro u ls' ls st σ h1 h2 h
  unfold s_tsw at h ⊢
  split at h
  · exact rl_swT hP h1 h2 tl a h
  · exact h.elim
theorem rl_swL {Pf P : Nat → dK} (hP : ∀ lb, Rl (Pf lb) (P lb)) {dl : Nat} {x : Int} {u : Nat × Nat} {ls' ls : dL} {r : List dX} {σ : dS} (h1 : LEl ls' ls) (h2 : noL ls) : ∀ (tl : List Nat), swL Pf dl x u ls' r σ tl → swL P dl x u ls r σ tl
  | [], h => hP _ _ _ _ _ _ h1 h2 h
  | [_], h => hP _ _ _ _ _ _ h1 h2 h
  | _ :: _ :: tl, h => ⟨fun q => hP _ _ _ _ _ _ h1 h2 (h.1 q), fun q => rl_swL hP h1 h2 tl (h.2 q)⟩
theorem rl_lsw {Pf P : Nat → dK} (hP : ∀ lb, Rl (Pf lb) (P lb)) {dl : Nat} {tl : List Nat} : Rl (s_lsw Pf dl tl) (s_lsw P dl tl) := by
  intro u ls' ls st σ h1 h2 h
  unfold s_lsw at h ⊢
  split at h
  · exact rl_swL hP h1 h2 tl h
  · exact h.elim
theorem rl_no : Rl (fun _ _ _ _ => False) k := fun _ _ _ _ _ _ _ h => h.elim
theorem rl_tln {B : Nat × Nat} {n : Nat} (hk : Rl kf k) : Rl (f_tln B n kf) (s_tln B n k) := by
  intro u ls' ls st σ h1 h2 h
  unfold f_tln at h
  obtain ⟨g1, h⟩ := gd_e h
  obtain ⟨g2, h⟩ := gd_e h
  obtain ⟨g3, h⟩ := gd_e h
  exact ⟨Nat.le_of_ble_eq_true g1, Nat.le_of_ble_eq_true g2, Nat.le_of_ble_eq_true g3, hk _ _ _ _ _ h1 h2 h⟩
theorem rl_tch {B : Nat × Nat} {n i : Nat} (hk : Rl kf k) : Rl (f_tch B n i kf) (s_tch B n i k) := by
  intro u ls' ls st σ h1 h2 h
  unfold f_tch at h
  unfold s_tch
  split at h
  · rename_i x hx
    rw [h1.2 _ _ hx]
    obtain ⟨g1, h⟩ := gd_e h
    obtain ⟨g2, h⟩ := gd_e h
    obtain ⟨g3, h⟩ := gd_e h
    exact ⟨Nat.le_of_ble_eq_true g1, Nat.le_of_ble_eq_true g2, Nat.le_of_ble_eq_true g3, h.1, h.2.1, hk _ _ _ _ _ h1 h2 h.2.2⟩
  · exact h.elim
theorem rl_tix {B : Nat × Nat} {n i : Nat} (hk : Rl kf k) : Rl (f_tix B n i kf) (s_tix B n i k) := by
  intro u ls' ls st σ h1 h2 h
  unfold f_tix at h
  unfold s_tix
  split at h
  · rename_i x hx
    rw [h1.2 _ _ hx]
    obtain ⟨g1, h⟩ := gd_e h
    obtain ⟨g2, h⟩ := gd_e h
    obtain ⟨g3, h⟩ := gd_e h
    exact ⟨Nat.le_of_ble_eq_true g1, Nat.le_of_ble_eq_true g2, Nat.le_of_ble_eq_true g3, h.1, h.2.1, hk _ _ _ _ _ h1 h2 h.2.2⟩
  · exact h.elim
theorem rl_stp {d : Nat} {B : Nat × Nat} {Pf P : Nat → dK} {Q : dR → dS → Prop} (hP : ∀ lb, Rl (Pf lb) (P lb)) {op : Nat} {a : Int} {b : Nat} {tl : List Nat} (hk : Rl kf k) : Rl (fstp d B Pf Q op a b tl kf) (stp false B (wpm blk inf (d + 1)) P Q op a b tl k) := by
  unfold fstp
  split
  · exact rl_push hk
  · exact rl_push hk
  · exact rl_push hk
  · exact rl_push hk
  · exact rl_push hk
  · exact rl_iload hk
  · exact rl_iload hk
  · exact rl_aload hk
  · exact rl_aload hk
  · exact rl_istore hk
  · exact rl_istore hk
  · exact rl_astore hk
  · exact rl_astore hk
  · exact rl_iinc hk
  · exact rl_bin hk
  · exact rl_bin hk
  · exact rl_bin hk
  · exact rl_div hk
  · exact rl_div hk
  · exact rl_un hk
  · exact rl_bin hk
  · exact rl_bin hk
  · exact rl_bin hk
  · exact rl_bin hk
  · exact rl_bin hk
  · exact rl_bin hk
  · exact rl_i2l hk
  · exact rl_un hk
  · exact rl_lcmp hk
  · exact rl_push hk
  · exact rl_lbin hk
  · exact rl_lbin hk
  · exact rl_lshl hk
  · exact rl_lbin hk
  · exact rl_push hk
  · exact rl_dup hk
  · exact rl_pop hk
  · exact rl_dup2 hk
  · exact hP _
  · exact rl_if (hP _) hk
  · exact rl_if (hP _) hk
  · exact rl_if (hP _) hk
  · exact rl_if (hP _) hk
  · exact rl_if (hP _) hk
  · exact rl_if (hP _) hk
  · exact rl_icmp (hP _) hk
  · exact rl_icmp (hP _) hk
  · exact rl_icmp (hP _) hk
  · exact rl_icmp (hP _) hk
  · exact rl_icmp (hP _) hk
  · exact rl_icmp (hP _) hk
  · exact rl_getf hk
  · exact rl_putf hk
  · exact rl_ald hk
  · exact rl_ast hk
  · exact rl_ald hk
  · exact rl_ast hk
  · exact rl_alen hk
  · exact rl_call hk
  · exact rl_call hk
  · exact rl_iret
  · exact rl_lret
  · exact rl_vret
  · exact rl_tsw hP
  · exact rl_lsw hP
  · exact rl_throw
  · exact hP _
  · exact rl_tln hk
  · exact rl_tch hk
  · exact rl_tix hk
  · exact rl_no
theorem rl_ex {d : Nat} {B : Nat × Nat} {Pf P : Nat → dK} {Q : dR → dS → Prop} (hP : ∀ lb, Rl (Pf lb) (P lb)) : ∀ is : List dI, Rl (fex d B Pf Q is) (ex false B (wpm blk inf (d + 1)) P Q is)
  | [] => rl_no
  | (op, a, b, tl) :: is => rl_stp (op := op) (a := a) (b := b) (tl := tl) hP (rl_ex hP is)
end RL
/-- method y from block lb on, over locals of which some may be unknown -/
def UT (d y : Nat) (Q : dR → dS → Prop) (lb : Nat) : dK := fun u ls' st σ => ∀ ls, LEl ls' ls → noL ls → TT (d + 1) y Q lb u ls st σ
def UJ (m : Nat → List Bool) (d y : Nat) (Q : dR → dS → Prop) (lb : Nat) : dK := fun u ls' st σ => UT d y Q lb u (msk (m lb) ls') st σ
theorem ut {m : Nat → List Bool} {d y lb : Nat} {Q : dR → dS → Prop} {u : Nat × Nat} {ls' : dL} {st : List dX} {σ : dS} (hf : (inf y).2.1 = false) (h : fex d (inf y).2.2 (UJ m d y Q) Q (blk y lb) u ls' st σ) : UT d y Q lb u ls' st σ := by
  intro ls h1 h2
  rw [TT_eq, hf]
  refine rl_ex (P := TT (d + 1) y Q) (fun lb u ls' ls st σ q1 q2 q => ?_) _ u ls' ls st σ h1 h2 h
  exact q ls (LEl_tr (msk_le _ _) q1) q2
/-- a method begins -/
theorem ut0 {d y : Nat} {as : List dX} {σ : dS} {Q : dR → dS → Prop} (h0 : as.all c1 = true) (h1 : as.length ≤ (inf y).1) (h : UT d y Q 0 (0, 0) (as.map some ++ List.replicate ((inf y).1 - as.length) none) [] σ) : wpm blk inf (d + 2) y as σ Q := by
  rw [wpm_eq]
  refine ⟨⟨h0, h1⟩, h _ (LEl_refl _) (fun i => ?_)⟩
  rw [List.getElem?_append]
  split
  · rw [List.getElem?_map]
    cases ha : as[i]? with
    | none => rfl
    | some v =>
      have := List.all_eq_true.mp h0 v (List.mem_of_getElem? ha)
      match v, this with
      | .inl _, _ => rfl
      | .inr (.inr _), _ => rfl
  · rw [List.getElem?_replicate]
    split <;> rfl
