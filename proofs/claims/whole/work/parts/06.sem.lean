/-! WHAT A METHOD DOES, over the store alone: items (op, a, b, tl) in blocks; what is owed behind an item is a predicate of room used, locals, stack, store -/
abbrev dL : Type := List (Option dX)
abbrev dK : Type := Nat × Nat → dL → List dX → dS → Prop
abbrev dR : Type := Option dX ⊕ Nat
abbrev dI : Type := Nat × Int × Nat × List Nat
abbrev dC : Type := Nat → List dX → dS → (dR → dS → Prop) → Prop
def shl (x s : Int) : Int := (Int32.ofInt x <<< (Int32.ofInt s &&& 31)).toInt
def shr (x s : Int) : Int := (Int32.ofInt x >>> (Int32.ofInt s &&& 31)).toInt
def ush (x s : Int) : Int := ((Int32.ofInt x).toUInt32 >>> ((Int32.ofInt s).toUInt32 &&& Int32.toUInt32 31)).toInt32.toInt
def idv (x y : Int) : Int := (Int32.ofInt x / Int32.ofInt y).toInt
def irm (x y : Int) : Int := (Int32.ofInt x - Int32.ofInt x / Int32.ofInt y * Int32.ofInt y).toInt
def i2c (x : Int) : Int := ((Int32.ofInt x).toUInt32 % 65536).toInt32.toInt
def ian (x y : Int) : Int := (Int32.ofInt x &&& Int32.ofInt y).toInt
def ior (x y : Int) : Int := (Int32.ofInt x ||| Int32.ofInt y).toInt
def ixr (x y : Int) : Int := (Int32.ofInt x ^^^ Int32.ofInt y).toInt
def lsh (x : Int) (s : Int) : Int := (Int64.ofInt x <<< ((Int32.ofInt s).toInt64 &&& 63)).toInt
def lio (x y : Int) : Int := (Int64.ofInt x ||| Int64.ofInt y).toInt
def cmp (x y : Int) : Int := if x < y then -1 else if x = y then 0 else 1
def lo32 (x : Int) : Int := wr x
def hi32 (x : Int) : Int := (x - wr x) / 4294967296
theorem lohi (x : Int) : lo32 x + 4294967296 * hi32 x = x := by
  unfold lo32 hi32
  have h : (x - wr x) % 4294967296 = 0 := by
    unfold wr
    have h1 : (Int.bmod x (4294967296 : Nat)) % ((4294967296 : Nat) : Int) = x % ((4294967296 : Nat) : Int) := Int.bmod_emod
    have h2 : (Int.bmod x 4294967296) % 4294967296 = x % 4294967296 := h1
    omega
  omega
def lS (x : Int) : Prop := -4611686018427387904 ≤ x ∧ x < 4611686018427387904
theorem hi_R {x : Int} (h : lS x) : iR (hi32 x) := by
  have h1 := lohi x
  have h2 := wr_R x
  unfold lo32 at h1
  unfold lS at h
  unfold iR at *
  omega
def isL : Option (Option dX) → Bool
  | some (some (.inr (.inl _))) => true
  | _ => false
def okS (ls : dL) (i : Nat) : Prop := i < ls.length ∧ (i = 0 ∨ isL ls[i - 1]? = false)
def c1 : dX → Bool
  | .inr (.inl _) => false
  | _ => true
def wt : List dX → Nat
  | [] => 0
  | v :: r => (if c1 v = true then 1 else 2) + wt r
def popN : Nat → List dX → List dX → Option (List dX × List dX)
  | 0, acc, st => some (acc, st)
  | n + 1, acc, v :: st => popN n (v :: acc) st
  | _ + 1, _, [] => none
def s_push (v : dX) (k : dK) : dK := fun u ls st σ => k u ls (v :: st) σ
def s_iload (i : Nat) (k : dK) : dK := fun u ls st σ => match ls[i]? with
  | some (some (.inl x)) => k u ls (.inl x :: st) σ
  | _ => False
def s_lload (i : Nat) (k : dK) : dK := fun u ls st σ => match ls[i]? with
  | some (some (.inr (.inl x))) => k u ls (.inr (.inl x) :: st) σ
  | _ => False
def s_aload (i : Nat) (k : dK) : dK := fun u ls st σ => match ls[i]? with
  | some (some (.inr (.inr t))) => k u ls (.inr (.inr t) :: st) σ
  | _ => False
def s_istore (i : Nat) (k : dK) : dK := fun u ls st σ => match st with
  | .inl x :: r => okS ls i ∧ k u (ls.set i (some (.inl x))) r σ
  | _ => False
def s_astore (i : Nat) (k : dK) : dK := fun u ls st σ => match st with
  | .inr (.inr t) :: r => okS ls i ∧ k u (ls.set i (some (.inr (.inr t)))) r σ
  | _ => False
def s_lstore (i : Nat) (k : dK) : dK := fun u ls st σ => match st with
  | .inr (.inl x) :: r => okS ls i ∧ i + 1 < ls.length ∧ k u ((ls.set i (some (.inr (.inl x)))).set (i + 1) none) r σ
  | _ => False
def s_iinc (i : Nat) (a : Int) (k : dK) : dK := fun u ls st σ => match ls[i]? with
  | some (some (.inl x)) => okS ls i ∧ k u (ls.set i (some (.inl (wr (x + a))))) st σ
  | _ => False
def s_bin (f : Int → Int → Int) (k : dK) : dK := fun u ls st σ => match st with
  | .inl y :: .inl x :: r => k u ls (.inl (f x y) :: r) σ
  | _ => False
def s_div (f : Int → Int → Int) (k : dK) : dK := fun u ls st σ => match st with
  | .inl y :: .inl x :: r => y ≠ 0 ∧ k u ls (.inl (f x y) :: r) σ
  | _ => False
def s_un (f : Int → Int) (k : dK) : dK := fun u ls st σ => match st with
  | .inl x :: r => k u ls (.inl (f x) :: r) σ
  | _ => False
def s_i2l (k : dK) : dK := fun u ls st σ => match st with
  | .inl x :: r => k u ls (.inr (.inl x) :: r) σ
  | _ => False
def s_lbin (f : Int → Int → Int) (k : dK) : dK := fun u ls st σ => match st with
  | .inr (.inl y) :: .inr (.inl x) :: r => k u ls (.inr (.inl (f x y)) :: r) σ
  | _ => False
def s_lshl (k : dK) : dK := fun u ls st σ => match st with
  | .inl y :: .inr (.inl x) :: r => k u ls (.inr (.inl (lsh x y)) :: r) σ
  | _ => False
def s_lcmp (k : dK) : dK := fun u ls st σ => match st with
  | .inr (.inl y) :: .inr (.inl x) :: r => k u ls (.inl (cmp x y) :: r) σ
  | _ => False
def s_dup (k : dK) : dK := fun u ls st σ => match st with
  | v :: r => c1 v = true ∧ k u ls (v :: v :: r) σ
  | _ => False
def s_pop (k : dK) : dK := fun u ls st σ => match st with
  | v :: r => c1 v = true ∧ k u ls r σ
  | _ => False
def s_dup2 (k : dK) : dK := fun u ls st σ => match st with
  | v :: w :: r => c1 v = true ∧ c1 w = true ∧ k u ls (v :: w :: v :: w :: r) σ
  | _ => False
def s_if (c : Int → Prop) (j : dK) (k : dK) : dK := fun u ls st σ => match st with
  | .inl x :: r => (c x → j u ls r σ) ∧ (¬ c x → k u ls r σ)
  | _ => False
def s_icmp (c : Int → Int → Prop) (j : dK) (k : dK) : dK := fun u ls st σ => match st with
  | .inl y :: .inl x :: r => (c x y → j u ls r σ) ∧ (¬ c x y → k u ls r σ)
  | _ => False
/-- in a making method a cell must be there already -/
def isT (fr : Bool) (σ : dS) (t : Nat) : Prop := fr = true → t < (σ 1000000 0).toNat
def s_getf (fr : Bool) (ci j : Nat) (k : dK) : dK := fun u ls st σ => match st with
  | .inr (.inr t) :: r => (match spx t with
    | some (.inr (c, fs)) => c = ci ∧ isT fr σ t ∧ (match fs[j]? with
      | some 0 => k u ls (.inl (σ t j) :: r) σ
      | some 1 => k u ls (.inr (.inl (wrL (σ t j + 4294967296 * σ t (j + 1000)))) :: r) σ
      | some (q + 2) => (fr = true → σ t j = 1) ∧ k u ls (.inr (.inr q) :: r) σ
      | none => False)
    | _ => False)
  | _ => False
/-- z: 0 an int field, 1 a boolean, 2 a long, 3 a reference -/
def s_putf (fr : Bool) (ci j z : Nat) (k : dK) : dK := fun u ls st σ => match st with
  | v :: .inr (.inr t) :: r => (match spx t with
    | some (.inr (c, fs)) => c = ci ∧ isT fr σ t ∧ (match fs[j]?, v with
      | some 0, .inl x => (z = 0 ∨ z = 1 ∧ (x = 0 ∨ x = 1)) ∧ k u ls r (up σ t j x)
      | some 1, .inr (.inl x) => z = 2 ∧ lS x ∧ k u ls r (up (up σ t j (lo32 x)) t (j + 1000) (hi32 x))
      | some (q + 2), .inr (.inr q') => z = 3 ∧ fr = true ∧ q' = q ∧ k u ls r (up σ t j 1)
      | _, _ => False)
    | _ => False)
  | _ => False
def s_ald (fr : Bool) (kind : Nat) (k : dK) : dK := fun u ls st σ => match st with
  | .inl i :: .inr (.inr t) :: r => (match spx t with
    | some (.inl (n, kd)) => kd = kind ∧ isT fr σ t ∧ 0 ≤ i ∧ i < n ∧ k u ls (.inl (σ t i) :: r) σ
    | _ => False)
  | _ => False
def s_ast (fr : Bool) (kind : Nat) (k : dK) : dK := fun u ls st σ => match st with
  | .inl x :: .inl i :: .inr (.inr t) :: r => (match spx t with
    | some (.inl (n, kd)) => kd = kind ∧ isT fr σ t ∧ 0 ≤ i ∧ i < n ∧ (kind = 1 → x = 0 ∨ x = 1) ∧ k u ls r (up σ t i x)
    | _ => False)
  | _ => False
def s_lald (k : dK) : dK := fun u ls st σ => match st with
  | .inl i :: .inr (.inr t) :: r => (match spx t with
    | some (.inl (n, kd)) => kd = 2 ∧ 0 ≤ i ∧ i < n ∧ k u ls (.inr (.inl (wrL (σ t i + 4294967296 * σ t (-1 - i)))) :: r) σ
    | _ => False)
  | _ => False
def s_last (k : dK) : dK := fun u ls st σ => match st with
  | .inr (.inl x) :: .inl i :: .inr (.inr t) :: r => (match spx t with
    | some (.inl (n, kd)) => kd = 2 ∧ 0 ≤ i ∧ i < n ∧ lS x ∧ k u ls r (up (up σ t i (lo32 x)) t (-1 - i) (hi32 x))
    | _ => False)
  | _ => False
def s_alen (fr : Bool) (k : dK) : dK := fun u ls st σ => match st with
  | .inr (.inr t) :: r => (match spx t with
    | some (.inl (n, _)) => isT fr σ t ∧ k u ls (.inl (n : Int) :: r) σ
    | _ => False)
  | _ => False
/-- a call of y with n words (the receiver among them), ci + 1 the receiver's class (0: none), (mc, ms) the room that it may take; th: it may throw -/
def s_call (fr : Bool) (C : dC) (B : Nat × Nat) (Q : dR → dS → Prop) (y n ci mc ms : Nat) (k : dK) : dK := fun u ls st σ => match popN n [] st with
  | some (as, r) => wt r ≤ 8 ∧ u.1 + mc ≤ B.1 ∧ u.2 + ms ≤ B.2 ∧ (ci = 0 ∨ (match as with
      | .inr (.inr t) :: _ => ci = 999 ∨ (match spx t with
        | some (.inr (c, _)) => c + 1 = ci ∧ isT fr σ t
        | _ => False)
      | _ => False)) ∧ C y as σ (fun res σ' => match res with
      | .inl (some v) => k (u.1 + mc, u.2 + ms) ls (v :: r) σ'
      | .inl none => k (u.1 + mc, u.2 + ms) ls r σ'
      | .inr e => Q (.inr e) σ')
  | none => False
def s_objI (k : dK) : dK := fun u ls st σ => match st with
  | .inr (.inr _) :: r => wt r ≤ 8 ∧ k u ls r σ
  | _ => False
def s_new (fr : Bool) (B : Nat × Nat) (ci N : Nat) (k : dK) : dK := fun u ls st σ => match spx (σ 1000000 0).toNat with
  | some (.inr (c, _)) => c = ci ∧ fr = true ∧ u.1 + 1 ≤ B.1 ∧ u.2 + N ≤ B.2 ∧ k (u.1 + 1, u.2 + N) ls (.inr (.inr (σ 1000000 0).toNat) :: st) (up σ 1000000 0 (((σ 1000000 0).toNat : Int) + 1))
  | _ => False
def s_newa (fr : Bool) (B : Nat × Nat) (kind : Nat) (k : dK) : dK := fun u ls st σ => match st with
  | .inl x :: r => (match spx (σ 1000000 0).toNat with
    | some (.inl (n, kd)) => kd = kind ∧ fr = true ∧ x = n ∧ n ≤ 100000 ∧ u.1 + 1 ≤ B.1 ∧ u.2 + n ≤ B.2 ∧ k (u.1 + 1, u.2 + n) ls (.inr (.inr (σ 1000000 0).toNat) :: r) (up σ 1000000 0 (((σ 1000000 0).toNat : Int) + 1))
    | _ => False)
  | _ => False
/-- z: 1 where a boolean is returned -/
def s_iret (B : Nat × Nat) (Q : dR → dS → Prop) (z : Nat) : dK := fun u _ st σ => match st with
  | [.inl x] => u.1 ≤ B.1 ∧ u.2 ≤ B.2 ∧ (z = 1 → x = 0 ∨ x = 1) ∧ Q (.inl (some (.inl x))) σ
  | _ => False
def s_lret (B : Nat × Nat) (Q : dR → dS → Prop) : dK := fun u _ st σ => match st with
  | [.inr (.inl x)] => u.1 ≤ B.1 ∧ u.2 ≤ B.2 ∧ Q (.inl (some (.inr (.inl x)))) σ
  | _ => False
def s_vret (B : Nat × Nat) (Q : dR → dS → Prop) : dK := fun u _ st σ => match st with
  | [] => u.1 ≤ B.1 ∧ u.2 ≤ B.2 ∧ Q (.inl none) σ
  | _ => False
def swT (P : Nat → dK) (d : Nat) (x : Int) (u : Nat × Nat) (ls : dL) (r : List dX) (σ : dS) : Int → List Nat → Prop
  | _, [] => P d u ls r σ
  | a, lb :: tl => (x = a → P lb u ls r σ) ∧ (¬ x = a → swT P d x u ls r σ (a + 1) tl)
def s_tsw (P : Nat → dK) (d : Nat) (a : Int) (tl : List Nat) : dK := fun u ls st σ => match st with
  | .inl x :: r => swT P d x u ls r σ a tl
  | _ => False
def swL (P : Nat → dK) (d : Nat) (x : Int) (u : Nat × Nat) (ls : dL) (r : List dX) (σ : dS) : List Nat → Prop
  | a :: lb :: tl => (x = (a : Int) → P lb u ls r σ) ∧ (¬ x = (a : Int) → swL P d x u ls r σ tl)
  | _ => P d u ls r σ
def s_lsw (P : Nat → dK) (d : Nat) (tl : List Nat) : dK := fun u ls st σ => match st with
  | .inl x :: r => swL P d x u ls r σ tl
  | _ => False
def s_throw (B : Nat × Nat) (Q : dR → dS → Prop) (e : Nat) : dK := fun u _ st σ => u.1 + 1 ≤ B.1 ∧ u.2 + 6 ≤ B.2 ∧ wt st ≤ 8 ∧ Q (.inr e) σ
def n0 (tl : List Nat) (i : Nat) : Nat := tl.getD i 0
/-- texts: 0 the signs, 1 the words; length, the char at a place, the first place of a char -/
def tx_l : List (List Int) := [[59, 40, 41, 43, 45, 42, 47, 60, 61], [114, 111, 111, 102, 32, 102, 108, 105, 103, 104, 116, 32, 116, 97, 119, 110, 121, 32, 98, 97, 114, 110, 32, 119, 104, 105, 116, 101, 32, 114, 105, 100, 101, 114, 32, 100, 97, 119, 110, 32, 104, 117, 110, 116, 115, 32, 111, 114, 32, 97, 110, 100, 32, 110, 111, 116, 32, 109, 105, 99, 101, 32, 103, 114, 97, 105, 110, 32, 107, 105, 110, 100, 32, 115, 116, 111, 112, 32, 109, 111, 111, 110, 32, 119, 101, 116, 32, 104, 111, 117, 114]]
def tx_t (n : Nat) : List Int := tx_l.getD n []
def tx_len (n : Nat) : Int := ((tx_t n).length : Int)
def tx_ch (n : Nat) (i : Int) : Int := (tx_t n).getD i.toNat 0
def tx_ixF (c : Int) : List Int → Int → Int
  | [], _ => -1
  | b :: l, k => if b = c then k else tx_ixF c l (k + 1)
def tx_ix (n : Nat) (c : Int) : Int := tx_ixF c (tx_t n) 0
def s_tln (B : Nat × Nat) (n : Nat) (k : dK) : dK := fun u ls st σ => wt st ≤ 8 ∧ u.1 ≤ B.1 ∧ u.2 ≤ B.2 ∧ k u ls (.inl (tx_len n) :: st) σ
def s_tch (B : Nat × Nat) (n i : Nat) (k : dK) : dK := fun u ls st σ => match ls[i]? with
  | some (some (.inl x)) => wt st ≤ 8 ∧ u.1 ≤ B.1 ∧ u.2 ≤ B.2 ∧ 0 ≤ x ∧ x < tx_len n ∧ k u ls (.inl (tx_ch n x) :: st) σ
  | _ => False
def s_tix (B : Nat × Nat) (n i : Nat) (k : dK) : dK := fun u ls st σ => match ls[i]? with
  | some (some (.inl x)) => wt st ≤ 8 ∧ u.1 ≤ B.1 ∧ u.2 ≤ B.2 ∧ 0 ≤ x ∧ x ≤ 255 ∧ k u ls (.inl (tx_ix n x) :: st) σ
  | _ => False
def stp (fr : Bool) (B : Nat × Nat) (C : dC) (P : Nat → dK) (Q : dR → dS → Prop) (op : Nat) (a : Int) (b : Nat) (tl : List Nat) (k : dK) : dK := match op with
  | 0 => s_push (.inl a) k
  | 1 => s_push (.inl a) k
  | 2 => s_push (.inl a) k
  | 3 => s_push (.inl a) k
  | 4 => s_push (.inl a) k
  | 5 => s_iload b k
  | 6 => s_iload b k
  | 7 => s_aload b k
  | 8 => s_aload b k
  | 9 => s_lload b k
  | 10 => s_lload b k
  | 11 => s_istore b k
  | 12 => s_istore b k
  | 13 => s_astore b k
  | 14 => s_astore b k
  | 15 => s_lstore b k
  | 16 => s_lstore b k
  | 17 => s_iinc b a k
  | 18 => s_bin (fun x y => wr (x + y)) k
  | 19 => s_bin (fun x y => wr (x - y)) k
  | 20 => s_bin (fun x y => wr (x * y)) k
  | 21 => s_div idv k
  | 22 => s_div irm k
  | 23 => s_un (fun x => wr (-x)) k
  | 24 => s_bin shl k
  | 25 => s_bin shr k
  | 26 => s_bin ush k
  | 27 => s_bin ian k
  | 28 => s_bin ior k
  | 29 => s_bin ixr k
  | 30 => s_i2l k
  | 32 => s_un i2c k
  | 33 => s_lcmp k
  | 34 => s_push (.inr (.inl a)) k
  | 35 => s_lbin (fun x y => wrL (x + y)) k
  | 36 => s_lbin (fun x y => wrL (x - y)) k
  | 37 => s_lshl k
  | 38 => s_lbin lio k
  | 39 => s_push (.inr (.inl a)) k
  | 40 => s_dup k
  | 41 => s_pop k
  | 42 => s_dup2 k
  | 43 => P b
  | 44 => s_if (fun x => x = 0) (P b) k
  | 45 => s_if (fun x => x ≠ 0) (P b) k
  | 46 => s_if (fun x => x < 0) (P b) k
  | 47 => s_if (fun x => 0 ≤ x) (P b) k
  | 48 => s_if (fun x => 0 < x) (P b) k
  | 49 => s_if (fun x => x ≤ 0) (P b) k
  | 50 => s_icmp (fun x y => x = y) (P b) k
  | 51 => s_icmp (fun x y => x ≠ y) (P b) k
  | 52 => s_icmp (fun x y => x < y) (P b) k
  | 53 => s_icmp (fun x y => y ≤ x) (P b) k
  | 54 => s_icmp (fun x y => y < x) (P b) k
  | 55 => s_icmp (fun x y => x ≤ y) (P b) k
  | 56 => s_getf fr (n0 tl 0) (n0 tl 1) k
  | 57 => s_putf fr (n0 tl 0) (n0 tl 1) (n0 tl 2) k
  | 58 => s_ald fr 0 k
  | 59 => s_ast fr 0 k
  | 60 => s_ald fr 1 k
  | 61 => s_ast fr 1 k
  | 62 => s_lald k
  | 63 => s_last k
  | 64 => s_alen fr k
  | 65 => s_call fr C B Q (n0 tl 0) (n0 tl 1) (n0 tl 2) (n0 tl 3) (n0 tl 4) k
  | 66 => s_call fr C B Q (n0 tl 0) (n0 tl 1) 0 (n0 tl 3) (n0 tl 4) k
  | 67 => s_call fr C B Q (n0 tl 0) (n0 tl 1) 999 (n0 tl 3) (n0 tl 4) k
  | 68 => s_objI k
  | 69 => s_new fr B (n0 tl 0) (n0 tl 1) k
  | 70 => s_newa fr B (n0 tl 0) k
  | 71 => s_iret B Q (n0 tl 0)
  | 72 => s_lret B Q
  | 73 => s_vret B Q
  | 74 => s_tsw P b a tl
  | 75 => s_lsw P b tl
  | 76 => s_throw B Q (n0 tl 0)
  | 78 => P b
  | 79 => s_putf fr (n0 tl 0) (n0 tl 1) (n0 tl 2) k
  | 84 => s_tln B (n0 tl 0) k
  | 85 => s_tch B (n0 tl 0) b k
  | 86 => s_tix B (n0 tl 0) b k
  | _ => fun _ _ _ _ => False
def ex (fr : Bool) (B : Nat × Nat) (C : dC) (P : Nat → dK) (Q : dR → dS → Prop) : List dI → dK
  | [] => fun _ _ _ _ => False
  | (op, a, b, tl) :: is => stp fr B C P Q op a b tl (ex fr B C P Q is)
/-- the least that is closed -/
def lfp (F : (Nat → dK) → Nat → dK) : Nat → dK := fun lb u ls st σ => ∀ P : Nat → dK, (∀ lb u ls st σ, F P lb u ls st σ → P lb u ls st σ) → P lb u ls st σ
def bdy (blk : Nat → Nat → List dI) (fr : Bool) (B : Nat × Nat) (C : dC) (Q : dR → dS → Prop) (y : Nat) (P : Nat → dK) (lb : Nat) : dK := ex fr B C P Q (blk y lb)
/-- method y, with calls at most d deep: from args and a store; what it answers and leaves satisfies Q -/
def wpm (blk : Nat → Nat → List dI) (inf : Nat → Nat × Bool × (Nat × Nat)) : Nat → dC
  | 0 => fun _ _ _ _ => False
  | d + 1 => fun y as σ Q => (as.all c1 = true ∧ as.length ≤ (inf y).1) ∧ lfp (bdy blk (inf y).2.1 (inf y).2.2 (wpm blk inf d) Q y) 0 (0, 0) (as.map some ++ List.replicate ((inf y).1 - as.length) none) [] σ
