/-! THE WORLD: cell k of the world lies at G.1 + k; the store says what it holds -/
/-- the first cell's address; what lies outside; the classes' numbers and slots; the classes of int, boolean and long arrays -/
abbrev dG : Type := Nat × (Nat → Nat) × va_G × (ClassId × ClassId × ClassId)
def adr (G : dG) (t : Nat) : Nat := if t < 100000 then G.1 + t else G.2.1 (t - 100000)
def dv (G : dG) : dX → Value
  | .inl x => .int (Int32.ofInt x)
  | .inr (.inl x) => .long (Int64.ofInt x)
  | .inr (.inr t) => .ref (adr G t)
def fv (G : dG) (fr : Bool) (a b : Int) : Nat → Value
  | 0 => .int (Int32.ofInt a)
  | 1 => .long (Int64.ofInt (a + 4294967296 * b))
  | t + 2 => if fr = true ∧ a ≠ 1 then .null else .ref (adr G t)
def fvs (G : dG) (fr : Bool) (f : Int → Int) : List Nat → Nat → List Value
  | [], _ => []
  | c :: cs, j => fv G fr (f j) (f (j + 1000)) c :: fvs G fr f cs (j + 1)
def ent (G : dG) (fr : Bool) (f : Int → Int) : dSh → va_E
  | .inl (n, 0) => .inl (G.2.2.2.1, n, .inl (fun i => Int32.ofInt (f i)))
  | .inl (n, 1) => .inl (G.2.2.2.2.1, n, .inl (fun i => Int32.ofInt (f i)))
  | .inl (n, _) => .inl (G.2.2.2.2.2, n, .inr (.inl (fun i => Int64.ofInt (f i + 4294967296 * f (-1 - i)))))
  | .inr (c, fs) => .inr (c, fvs G fr f fs 0)
def entK (G : dG) (fr : Bool) (σ : dS) (k : Nat) : Nat × va_E := (G.1 + k, ent G fr (σ k) ((spx k).getD (.inl (0, 0))))
def wl (G : dG) (fr : Bool) (σ : dS) (n : Nat) : va_W := (List.range n).map (entK G fr σ)
/-- how many cells there are -/
def nOf (fr : Bool) (σ : dS) : Nat := if fr = true then (σ 1000000 0).toNat else dN
def Wd (G : dG) (fr : Bool) (σ : dS) (H : Heap) : Prop :=
  va_P G.2.2.1 vwCl (wl G fr σ (nOf fr σ)) H ∧ (∀ k i, iR (σ k i)) ∧ nOf fr σ ≤ dN ∧ G.1 + nOf fr σ ≤ H.size ∧ (fr = true → H.size = G.1 + nOf fr σ ∧ ∀ k, nOf fr σ ≤ k → k < 1000000 → ∀ i, σ k i = 0)
def rg (G : dG) : Nat → Prop := fun q => G.1 ≤ q
def dT (G : dG) : List (ClassId × FieldType) := [(G.2.2.2.1, .int), (G.2.2.2.2.1, .boolean), (G.2.2.2.2.2, .long)]
theorem fvs_len (G : dG) (fr : Bool) (f : Int → Int) : ∀ (cs : List Nat) (j : Nat), (fvs G fr f cs j).length = cs.length
  | [], _ => rfl
  | c :: cs, j => by simp only [fvs, List.length_cons, fvs_len G fr f cs (j + 1)]
theorem fvs_get (G : dG) (fr : Bool) (f : Int → Int) : ∀ (cs : List Nat) (j b c : Nat), cs[b]? = some c → (fvs G fr f cs j)[b]? = some (fv G fr (f ((j + b : Nat) : Int)) (f ((j + b : Nat) + 1000)) c)
  | [], _, b, c, h => by simp at h
  | d :: cs, j, 0, c, h => by
    simp only [List.getElem?_cons_zero, Option.some.injEq] at h
    subst h
    simp only [fvs, List.getElem?_cons_zero, Nat.add_zero]
  | d :: cs, j, b + 1, c, h => by
    rw [List.getElem?_cons_succ] at h
    have := fvs_get G fr f cs (j + 1) b c h
    simp only [fvs, List.getElem?_cons_succ]
    rw [this, show j + 1 + b = j + (b + 1) from by omega]
theorem fvs_congr (G : dG) (fr : Bool) (f g : Int → Int) : ∀ (cs : List Nat) (j : Nat), (∀ i : Nat, j ≤ i → i < j + cs.length → f i = g i ∧ f (i + 1000) = g (i + 1000)) → fvs G fr f cs j = fvs G fr g cs j
  | [], _, _ => rfl
  | c :: cs, j, h => by
    have h0 := h j (Nat.le_refl _) (by simp)
    simp only [fvs]
    rw [h0.1, h0.2, fvs_congr G fr f g cs (j + 1) (fun i h1 h2 => h i (by omega) (by simp only [List.length_cons]; omega))]
theorem fvs_set (G : dG) (fr : Bool) (f g : Int → Int) : ∀ (cs : List Nat) (j b c : Nat), cs[b]? = some c → (∀ i : Nat, j ≤ i → i < j + cs.length → i ≠ j + b → f i = g i ∧ f (i + 1000) = g (i + 1000)) →
    (fvs G fr f cs j).set b (fv G fr (g ((j + b : Nat) : Int)) (g ((j + b : Nat) + 1000)) c) = fvs G fr g cs j
  | [], _, b, c, h, _ => by simp at h
  | d :: cs, j, 0, c, h, hh => by
    simp only [List.getElem?_cons_zero, Option.some.injEq] at h
    subst h
    simp only [fvs, List.set_cons_zero, Nat.add_zero]
    rw [fvs_congr G fr f g cs (j + 1) (fun i h1 h2 => hh i (by omega) (by simp only [List.length_cons]; omega) (by omega))]
  | d :: cs, j, b + 1, c, h, hh => by
    rw [List.getElem?_cons_succ] at h
    have h0 := hh j (Nat.le_refl _) (by simp) (by omega)
    have := fvs_set G fr f g cs (j + 1) b c h (fun i h1 h2 h3 => hh i (by omega) (by simp only [List.length_cons]; omega) (by omega))
    rw [show j + 1 + b = j + (b + 1) from by omega] at this
    simp only [fvs, List.set_cons_succ]
    rw [this, h0.1, h0.2]
theorem wl_get {G : dG} {fr : Bool} {σ : dS} {n k : Nat} (h : k < n) : (wl G fr σ n)[k]? = some (entK G fr σ k) := by
  unfold wl
  rw [List.getElem?_map, List.getElem?_range h]
  rfl
theorem wl_set {G : dG} {fr : Bool} {σ σ' : dS} {n k : Nat} (h : ∀ k', k' < n → k' ≠ k → entK G fr σ k' = entK G fr σ' k') : (wl G fr σ n).set k (entK G fr σ' k) = wl G fr σ' n := by
  apply List.ext_getElem?
  intro i
  by_cases hi : i < n
  · by_cases hk : i = k
    · subst hk
      rw [List.getElem?_set_self (by unfold wl; simpa using hi), wl_get hi]
    · rw [List.getElem?_set_ne (Ne.symm hk), wl_get hi, wl_get hi, h i hi hk]
  · rw [List.getElem?_eq_none (by unfold wl; simp; omega), List.getElem?_eq_none (by unfold wl; simp; omega)]
theorem entK_congr {G : dG} {fr : Bool} {σ σ' : dS} {k : Nat} (h : σ k = σ' k) : entK G fr σ k = entK G fr σ' k := by
  unfold entK
  rw [h]
theorem wl_D {G : dG} {fr : Bool} {σ : dS} {n : Nat} : va_D (rg G) (wl G fr σ n) := by
  have key : ∀ (i : Nat) (p : Nat × va_E), (wl G fr σ n)[i]? = some p → p.1 = G.1 + i := by
    intro i p h
    have hl : i < n := by
      have := (List.getElem?_eq_some_iff.mp h).1
      unfold wl at this
      simpa using this
    rw [wl_get hl] at h
    cases h
    rfl
  refine ⟨fun i j p q hi hj hpq => ?_, fun k q hk => ?_⟩
  · have h1 := key i p hi
    have h2 := key j q hj
    omega
  · have h1 := key k q hk
    show G.1 ≤ q.1
    omega
theorem wl_succ {G : dG} {fr : Bool} {σ : dS} {n : Nat} : wl G fr σ (n + 1) = wl G fr σ n ++ [entK G fr σ n] := by
  unfold wl
  rw [List.range_succ, List.map_append]
  rfl
theorem wl_congr {G : dG} {fr : Bool} {σ σ' : dS} {n : Nat} (h : ∀ k, k < n → σ k = σ' k) : wl G fr σ n = wl G fr σ' n := by
  apply List.ext_getElem?
  intro i
  by_cases hi : i < n
  · rw [wl_get hi, wl_get hi, entK_congr (h i hi)]
  · rw [List.getElem?_eq_none (by unfold wl; simp; omega), List.getElem?_eq_none (by unfold wl; simp; omega)]
theorem up_row {σ : dS} {k k' : Nat} {i v : Int} (h : k' ≠ k) : up σ k i v k' = σ k' := by
  funext j
  exact up_ne σ (fun q => h q.1)
theorem adr_of {G : dG} {t : Nat} (h : t < 100000) : adr G t = G.1 + t := by
  unfold adr
  rw [if_pos h]
theorem nOf_up {fr : Bool} {σ : dS} {k : Nat} {i v : Int} (h : k < 1000000) : nOf fr (up σ k i v) = nOf fr σ := by
  unfold nOf
  rw [up_row (by omega)]
/-- a cell of the world, by its shape -/
theorem Wd.cell {G : dG} {fr : Bool} {σ : dS} {H : Heap} {k : Nat} {s : dSh} (h : Wd G fr σ H) (hk : k < nOf fr σ) (hs : spx k = some s) : (wl G fr σ (nOf fr σ))[k]? = some (G.1 + k, ent G fr (σ k) s) := by
  rw [wl_get hk]
  unfold entK
  rw [hs]
  rfl
theorem spx_lt {k : Nat} {s : dSh} (h : spx k = some s) : k < dN := by
  have := (List.getElem?_eq_some_iff.mp h).1
  rw [spl_len] at this
  exact this
/-- behind a change of one cell's row -/
theorem Wd.put {G : dG} {fr : Bool} {σ : dS} {H H1 : Heap} {k : Nat} {i v : Int} {s : dSh} (h : Wd G fr σ H) (hk : k < nOf fr σ) (hs : spx k = some s) (hv : iR v)
    (hP : va_P G.2.2.1 vwCl ((wl G fr σ (nOf fr σ)).set k (G.1 + k, ent G fr (up σ k i v k) s)) H1) (hz : H1.size = H.size) : Wd G fr (up σ k i v) H1 := by
  obtain ⟨-, h2, h3, h4, h5⟩ := h
  have hk2 : k < 1000000 := Nat.lt_of_lt_of_le (spx_lt hs) (by decide)
  have e : (wl G fr σ (nOf fr σ)).set k (G.1 + k, ent G fr (up σ k i v k) s) = wl G fr (up σ k i v) (nOf fr σ) := by
    have : (G.1 + k, ent G fr (up σ k i v k) s) = entK G fr (up σ k i v) k := by
      unfold entK
      rw [hs]
      rfl
    rw [this]
    exact wl_set (fun k' _ hk' => entK_congr (up_row hk').symm)
  refine ⟨by rw [nOf_up hk2, ← e]; exact hP, fun k' i' => ?_, by rw [nOf_up hk2]; exact h3, by rw [nOf_up hk2, hz]; exact h4, fun hf => ⟨by rw [nOf_up hk2, hz]; exact (h5 hf).1, fun k' h6 h7 i' => ?_⟩⟩
  · by_cases hq : k' = k ∧ i' = i
    · rw [hq.1, hq.2, up_same]; exact hv
    · rw [up_ne σ hq]; exact h2 k' i'
  · rw [nOf_up hk2] at h6
    rw [up_row (by omega)]
    exact (h5 hf).2 k' h6 h7 i'
