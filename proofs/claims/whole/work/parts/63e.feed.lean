/-! feed, more, lure -/
theorem ush_bv {x r : Int} (r0 : 0 ≤ r) (r1 : r < 32) : (Int32.ofInt (ush x r)).toBitVec = (Int32.ofInt x).toBitVec >>> r.toNat := by
  have es : ∀ q : Fin 32, ((Int32.ofInt ((q.val : Nat) : Int)).toUInt32 &&& Int32.toUInt32 31).toNat = q.val := by decide
  have h := es ⟨r.toNat, by omega⟩
  have e : ((r.toNat : Nat) : Int) = r := by omega
  simp only [e] at h
  unfold ush
  rw [Int32.ofInt_toInt]
  apply BitVec.eq_of_toNat_eq
  have : ((Int32.ofInt x).toUInt32 >>> ((Int32.ofInt r).toUInt32 &&& Int32.toUInt32 31)).toNat = (Int32.ofInt x).toUInt32.toNat >>> r.toNat := by
    rw [UInt32.toNat_shiftRight, h, Nat.mod_eq_of_lt (by omega)]
  rw [BitVec.toNat_ushiftRight]
  exact this
theorem byte_eq {x s : Int} (s0 : 0 ≤ s) (s1 : s ≤ 24) : ian (ush x s) 255 = ian (shr x s) 255 := by
  have key : ∀ i, i < 32 → gb (ian (ush x s) 255) i = gb (ian (shr x s) 255) i := by
    intro i hi
    rw [gb_ian, gb_ian]
    by_cases h : i < 8
    · have e1 := ush_bv (x := x) s0 (by omega)
      have e2 := shr_bv (x := x) s0 (by omega)
      unfold gb
      rw [e1, e2, BitVec.getLsbD_ushiftRight, BitVec.getLsbD_sshiftRight]
      simp [show ¬ (32 ≤ i) by omega, show s.toNat + i < 32 by omega]
    · have : ∀ i : Fin 32, ¬ i.val < 8 → gb 255 i.val = false := by decide
      rw [this ⟨i, hi⟩ h, Bool.and_false, Bool.and_false]
  have e : ∀ a b : Int32, (∀ i, i < 32 → a.toBitVec.getLsbD i = b.toBitVec.getLsbD i) → a = b := by
    intro a b h
    apply Int32.toBitVec_inj.mp
    exact BitVec.eq_of_getLsbD_eq h
  unfold ian
  congr 1
  apply e
  intro i hi
  have := key i hi
  unfold gb ian at this
  rw [Int32.ofInt_toInt, Int32.ofInt_toInt] at this
  exact this
theorem byte_r (y : Int) : 0 ≤ ian y 255 ∧ ian y 255 ≤ 255 := by
  have h : (Int32.ofInt y &&& Int32.ofInt 255).toBitVec.toNat ≤ 255 := by
    rw [Int32.toBitVec_and, BitVec.toNat_and]
    exact Nat.and_le_right
  unfold ian
  rw [toi_nat (by omega)]
  omega
def byt (x i : Int) : Int := ian (shr x (24 - 8 * i)) 255
/-- a tape with the four bytes of x behind its L bytes -/
def fby (T : Int → Int) (L x : Int) : Int → Int := fun k => if L ≤ k ∧ k < L + 4 then byt x (k - L) else T k
theorem fby_r {T : Int → Int} {L x : Int} (h : ∀ k, 0 ≤ k → k < L → 0 ≤ T k ∧ T k ≤ 255) : ∀ k, 0 ≤ k → k < L + 4 → 0 ≤ fby T L x k ∧ fby T L x k ≤ 255 := by
  intro k k0 k1
  unfold fby
  by_cases z : L ≤ k ∧ k < L + 4
  · rw [if_pos z]; exact byte_r _
  · rw [if_neg z]; exact h k k0 (by omega)
theorem fby_e {T T' : Int → Int} {L x : Int} (h : ∀ k, 0 ≤ k → k < L → T' k = T k) : ∀ k, 0 ≤ k → k < L + 4 → fby T' L x k = fby T L x k := by
  intro k k0 k1
  unfold fby
  by_cases z : L ≤ k ∧ k < L + 4
  · rw [if_pos z, if_pos z]
  · rw [if_neg z, if_neg z]; exact h k k0 (by omega)
section FEED
variable {d : Nat} {Q : dR → dS → Prop} {σ S : dS}
theorem l99 {x L : Int} (L0 : 0 ≤ L) (L1 : L ≤ 696) (hq : ∀ σ', (∀ k, k ≠ 0 → k ≠ 2 → σ' k = S k) → (∀ j, j ≠ 1 → σ' 0 j = S 0 j) → σ' 0 1 = L + 4 → (∀ k, σ' 2 k = fby (S 2) L x k) → Q (.inl none) σ') : ∀ (c : Nat) (i : Int) (σ : dS), 0 ≤ i → i + c = 4 → (∀ k, k ≠ 0 → k ≠ 2 → σ k = S k) → (∀ j, j ≠ 1 → σ 0 j = S 0 j) → σ 0 1 = L + i → (∀ k, σ 2 k = if L ≤ k ∧ k < L + i then byt x (k - L) else S 2 k) → B99_1 d Q x (24 - 8 * i) σ
  | 0, i, σ, i0, hi, hF, h0, h1, h2 => by
    have ei : i = 4 := by omega
    subst ei
    exact b99_1 ⟨fun _ => b99_2 (hq σ hF h0 h1 h2), fun z => absurd (by omega) z⟩
  | c + 1, i, σ, i0, hi, hF, h0, h1, h2 => by
    refine b99_1 ⟨fun z => absurd z (by omega), fun _ σ1 f1 σ2 f2 => ?_⟩
    rw [h1, rput_in (by omega) (by omega), byte_eq (by omega) (by omega)] at f1
    rw [f1, up_k (k' := 0) (by decide), h1, wr_id (by omega) (by omega)] at f2
    have ew : wr (24 - 8 * i + (-8)) = 24 - 8 * (i + 1) := by rw [wr_id (by omega) (by omega)]; omega
    rw [ew]
    refine l99 L0 L1 hq c (i + 1) σ2 (by omega) (by omega) (fun k q1 q2 => by rw [f2, up_k q1, up_k q2]; exact hF k q1 q2) (fun j hj => by rw [f2, up_i hj, up_k (by decide)]; exact h0 j hj) (by rw [f2, up_same]; omega) (fun k => ?_)
    rw [f2, up_k (by decide)]
    by_cases e : k = L + i
    · rw [e, up_same, if_pos ⟨by omega, by omega⟩]
      unfold byt
      rw [show L + i - L = i by omega]
    · rw [up_i e, h2 k]
      by_cases u : L ≤ k ∧ k < L + i
      · rw [if_pos u, if_pos ⟨u.1, by omega⟩]
      · rw [if_neg u, if_neg (by omega)]
theorem w99 {K : dS → Prop} {x L : Int} (hL : S 0 1 = L) (L0 : 0 ≤ L) (L1 : L ≤ 696) (hq : ∀ σ', (∀ k, k ≠ 0 → k ≠ 2 → σ' k = S k) → (∀ j, j ≠ 1 → σ' 0 j = S 0 j) → σ' 0 1 = L + 4 → (∀ k, σ' 2 k = fby (S 2) L x k) → K σ') : wV (d + 2) 99 [.inr (.inr 0), .inl x] S Q K := by
  refine c99 (b99_0 ?_)
  exact l99 L0 L1 hq 4 0 S (by decide) (by decide) (fun _ _ _ => rfl) (fun _ _ => rfl) (by omega) (fun k => by rw [if_neg (by omega)])
theorem l164 {x L : Int} (L0 : 0 ≤ L) (L1 : L ≤ 696) (hq : ∀ σ', (∀ k, k ≠ 153 → k ≠ 161 → σ' k = S k) → (∀ j, j ≠ 15 → σ' 153 j = S 153 j) → σ' 153 15 = L + 4 → (∀ k, σ' 161 k = fby (S 161) L x k) → Q (.inl none) σ') : ∀ (c : Nat) (i : Int) (σ : dS), 0 ≤ i → i + c = 4 → (∀ k, k ≠ 153 → k ≠ 161 → σ k = S k) → (∀ j, j ≠ 15 → σ 153 j = S 153 j) → σ 153 15 = L + i → (∀ k, σ 161 k = if L ≤ k ∧ k < L + i then byt x (k - L) else S 161 k) → B164_1 d Q x (24 - 8 * i) σ
  | 0, i, σ, i0, hi, hF, h0, h1, h2 => by
    have ei : i = 4 := by omega
    subst ei
    exact b164_1 ⟨fun _ => b164_2 (hq σ hF h0 h1 h2), fun z => absurd (by omega) z⟩
  | c + 1, i, σ, i0, hi, hF, h0, h1, h2 => by
    refine b164_1 ⟨fun z => absurd z (by omega), fun _ => ?_⟩
    rw [h1]
    refine ⟨by omega, by omega, fun σ1 f1 σ2 f2 => ?_⟩
    rw [f1, up_k (k' := 153) (by decide), h1, wr_id (by omega) (by omega)] at f2
    have ew : wr (24 - 8 * i + (-8)) = 24 - 8 * (i + 1) := by rw [wr_id (by omega) (by omega)]; omega
    rw [ew]
    refine l164 L0 L1 hq c (i + 1) σ2 (by omega) (by omega) (fun k q1 q2 => by rw [f2, up_k q1, up_k q2]; exact hF k q1 q2) (fun j hj => by rw [f2, up_i hj, up_k (by decide)]; exact h0 j hj) (by rw [f2, up_same]; omega) (fun k => ?_)
    rw [f2, up_k (by decide)]
    by_cases e : k = L + i
    · rw [e, up_same, if_pos ⟨by omega, by omega⟩]
      unfold byt
      rw [show L + i - L = i by omega]
    · rw [up_i e, h2 k]
      by_cases u : L ≤ k ∧ k < L + i
      · rw [if_pos u, if_pos ⟨u.1, by omega⟩]
      · rw [if_neg u, if_neg (by omega)]
theorem w164 {K : dS → Prop} {x L : Int} (hL : S 153 15 = L) (L0 : 0 ≤ L) (L1 : L ≤ 696) (hq : ∀ σ', (∀ k, k ≠ 153 → k ≠ 161 → σ' k = S k) → (∀ j, j ≠ 15 → σ' 153 j = S 153 j) → σ' 153 15 = L + 4 → (∀ k, σ' 161 k = fby (S 161) L x k) → K σ') : wV (d + 2) 164 [.inr (.inr 153), .inl x] S Q K := by
  refine c164 (b164_0 ?_)
  exact l164 L0 L1 hq 4 0 S (by decide) (by decide) (fun _ _ _ => rfl) (fun _ _ => rfl) (by omega) (fun k => by rw [if_neg (by omega)])
def fb5 (T : Int → Int) (L a b c e g : Int) : Int → Int := fby (fby (fby (fby (fby T L a) (L + 4) b) (L + 8) c) (L + 12) e) (L + 16) g
theorem fb5_e {T T' : Int → Int} {L a b c e g : Int} (h : ∀ k, 0 ≤ k → k < L → T' k = T k) : ∀ k, 0 ≤ k → k < L + 20 → fb5 T' L a b c e g k = fb5 T L a b c e g k := by
  have n1 := fby_e (x := a) h
  have n2 := fby_e (L := L + 4) (x := b) n1
  have n3 := fby_e (L := L + 8) (x := c) (fun k p q => n2 k p (by omega))
  have n4 := fby_e (L := L + 12) (x := e) (fun k p q => n3 k p (by omega))
  have n5 := fby_e (L := L + 16) (x := g) (fun k p q => n4 k p (by omega))
  exact fun k p q => n5 k p (by omega)
theorem fb5_r {T : Int → Int} {L a b c e g : Int} (h : ∀ k, 0 ≤ k → k < L → 0 ≤ T k ∧ T k ≤ 255) : ∀ k, 0 ≤ k → k < L + 20 → 0 ≤ fb5 T L a b c e g k ∧ fb5 T L a b c e g k ≤ 255 := by
  have n1 := fby_r (x := a) h
  have n2 := fby_r (L := L + 4) (x := b) n1
  have n3 := fby_r (L := L + 8) (x := c) (fun k p q => n2 k p (by omega))
  have n4 := fby_r (L := L + 12) (x := e) (fun k p q => n3 k p (by omega))
  have n5 := fby_r (L := L + 16) (x := g) (fun k p q => n4 k p (by omega))
  exact fun k p q => n5 k p (by omega)
theorem f5C {a b c e g L : Int} (hL : S 0 1 = L) (L0 : 0 ≤ L) (L1 : L ≤ 680) (hq : ∀ σ', (∀ k, k ≠ 0 → k ≠ 2 → σ' k = S k) → (∀ j, j ≠ 1 → σ' 0 j = S 0 j) → σ' 0 1 = L + 20 → (∀ k, σ' 2 k = fb5 (S 2) L a b c e g k) → Q (.inl (some (.inl (L + 20)))) σ') : B98_1 (d + 1) Q a b c e g S := by
  refine b98_1 (w99 hL L0 (by omega) (fun s1 p1 q1 r1 t1 => w99 (L := L + 4) r1 (by omega) (by omega) (fun s2 p2 q2 r2 t2 => w99 (L := L + 8) (by omega) (by omega) (by omega) (fun s3 p3 q3 r3 t3 => w99 (L := L + 12) (by omega) (by omega) (by omega) (fun s4 p4 q4 r4 t4 => w99 (L := L + 16) (by omega) (by omega) (by omega) (fun s5 p5 q5 r5 t5 => ?_))))))
  have e1 : s1 2 = fby (S 2) L a := funext t1
  have e2 : s2 2 = fby (s1 2) (L + 4) b := funext t2
  have e3 : s3 2 = fby (s2 2) (L + 8) c := funext t3
  have e4 : s4 2 = fby (s3 2) (L + 12) e := funext t4
  have e5 : s5 0 1 = L + 20 := by rw [r5]; omega
  rw [e5]
  refine hq s5 (fun k h1 h2 => by rw [p5 k h1 h2, p4 k h1 h2, p3 k h1 h2, p2 k h1 h2, p1 k h1 h2]) (fun j hj => by rw [q5 j hj, q4 j hj, q3 j hj, q2 j hj, q1 j hj]) e5 (fun k => ?_)
  rw [t5, e4, e3, e2, e1]; rfl
theorem f5M {a b c e g L : Int} (hL : S 153 15 = L) (L0 : 0 ≤ L) (L1 : L ≤ 680) (hq : ∀ σ', (∀ k, k ≠ 153 → k ≠ 161 → σ' k = S k) → (∀ j, j ≠ 15 → σ' 153 j = S 153 j) → σ' 153 15 = L + 20 → (∀ k, σ' 161 k = fb5 (S 161) L a b c e g k) → Q (.inl (some (.inl (L + 20)))) σ') : B163_1 (d + 1) Q a b c e g S := by
  refine b163_1 (w164 hL L0 (by omega) (fun s1 p1 q1 r1 t1 => w164 (L := L + 4) r1 (by omega) (by omega) (fun s2 p2 q2 r2 t2 => w164 (L := L + 8) (by omega) (by omega) (by omega) (fun s3 p3 q3 r3 t3 => w164 (L := L + 12) (by omega) (by omega) (by omega) (fun s4 p4 q4 r4 t4 => w164 (L := L + 16) (by omega) (by omega) (by omega) (fun s5 p5 q5 r5 t5 => ?_))))))
  have e1 : s1 161 = fby (S 161) L a := funext t1
  have e2 : s2 161 = fby (s1 161) (L + 4) b := funext t2
  have e3 : s3 161 = fby (s2 161) (L + 8) c := funext t3
  have e4 : s4 161 = fby (s3 161) (L + 12) e := funext t4
  have e5 : s5 153 15 = L + 20 := by rw [r5]; omega
  rw [e5]
  refine hq s5 (fun k h1 h2 => by rw [p5 k h1 h2, p4 k h1 h2, p3 k h1 h2, p2 k h1 h2, p1 k h1 h2]) (fun j hj => by rw [q5 j hj, q4 j hj, q3 j hj, q2 j hj, q1 j hj]) e5 (fun k => ?_)
  rw [t5, e4, e3, e2, e1]; rfl
theorem INV_tap (hI : INV σ) {σ' : dS} (FT : FRX (fun k => k = 0 ∨ k = 2 ∨ k = 161) (fun j => j = 15) σ σ') (c0 : ∀ j, j ≠ 1 → σ' 0 j = σ 0 j) (h : tapR σ') : INV σ' := by
  obtain ⟨a1, a2, a3, a4, a5, a6, a7, a8, a9, a10, a11, a12, a13, a14, a15⟩ := id hI
  have hR := a1.1
  have hO := a1.2.1
  obtain ⟨gc, gm, g177, g153⟩ := INV_rest hI FT (fun k hk => by omega) (fun j hj => by omega)
  have gg : ∀ k, ¬ scr k ∧ k ≠ 153 ∧ k ≠ 174 ∧ ¬ (k = 0 ∨ k = 2 ∨ k = 161) → σ' k = σ k := fun k q => FT.1 k q.1 q.2.1 q.2.2.1 q.2.2.2
  have gj : ∀ j, j ≠ 0 → j ≠ 15 → σ' 153 j = σ 153 j := fun j w1 w2 => FT.2.1 j w1 w2
  have g5' := gc 5 (by decide)
  have g26 := gc 26 (by decide)
  refine INV_of hI gc gm g177 g153 (skS_k g5' g26 (gg 70 (by decide)) (gg 72 (by decide)) (gg 74 (by decide)) a5) (skR_k g5' (FT.2.2 (by decide)) (gg 70 (by decide)) (gg 72 (by decide)) (gg 74 (by decide)) hR.2 hO.2 a6) h (fun k k0 k1 => by rw [gg 162 (by decide), gg 4 (by decide)]; exact a8 k k0 k1) (by rw [gj 17 (by decide) (by decide), c0 2 (by decide)]; exact a9) (by rw [gg 75 (by decide), gg 82 (by decide)]; exact a10) ?_ ?_ (lurR_k g5' (c0 17 (by decide)) (gj 65 (by decide) (by decide)) (gg 189 (by decide)) (gg 148 (by decide)) a13) (picR_k g5' g26 (c0 10 (by decide)) (gj 70 (by decide) (by decide)) (gj 71 (by decide) (by decide)) (gj 72 (by decide) (by decide)) (fun k hk => gg k ⟨by omega, by omega, by omega, by omega⟩) hR.2 hO.2 a14)
  · rw [gj 50 (by decide) (by decide)]
    exact actR_k g5' g26 (gg 75 (by decide)) (gg 77 (by decide)) (gg 79 (by decide)) (gg 81 (by decide)) (gg 176 (by decide)) a11
  · rw [gj 67 (by decide) (by decide)]
    exact seenR_k g5' (gg 82 (by decide)) (gg 84 (by decide)) (gg 86 (by decide)) (gg 88 (by decide)) (gg 192 (by decide)) a12
theorem p_feed {K : Int → dS → Prop} {a b c e g : Int} (hI : INV σ) (h0 : ∀ v σ1, PRN (d + 20) 163 [.inr (.inr 153), .inl a, .inl b, .inl c, .inl e, .inl g] v σ1 → K v σ1) : wI (d + 20) 98 [.inr (.inr 0), .inl a, .inl b, .inl c, .inl e, .inl g] σ Q K := by
  have a7 := hI.2.2.2.2.2.2.1
  have tL := a7.2.1
  have tU := a7.2.2.1
  have t15 := a7.1
  have tB := a7.2.2.2
  have ew : wr (σ 0 1 + 20) = σ 0 1 + 20 := wr_id (by omega) (by omega)
  refine c98 (b98_0 ?_)
  rw [ew]
  refine ⟨fun z => f5C (d := d + 17) rfl tL (by omega) (fun s5 p5 q5 r5 t5 => h0 _ s5 (fun S hS Qm Km hk => c163 (b163_0 (fun u0 f0 => ?_)))), fun z => h0 (-1) σ (fun S hS Qm Km hk => c163 (b163_0 (fun s f => ?_)))⟩
  · have u15 : u0 153 15 = σ 0 1 := by rw [f0, up_i (by decide), hS 153 (by decide), p5 153 (by decide) (by decide)]; exact t15
    have u161 : u0 161 = σ 161 := by rw [f0, up_k (by decide), hS 161 (by decide)]; exact p5 161 (by decide) (by decide)
    rw [u15, ew]
    refine ⟨fun _ => f5M (d := d + 17) u15 tL (by omega) (fun v5 P5 Q5 R5 T5 => ?_), fun y => absurd z y⟩
    have uk : ∀ k, k ≠ 153 → k ≠ 197 → u0 k = s5 k := fun k h1 h2 => by rw [f0, up_k h1]; exact hS k h2
    have FT : FRX (fun k => k = 0 ∨ k = 2 ∨ k = 161) (fun j => j = 15) σ v5 := by
      refine ⟨fun k w1 w2 w3 w4 => ?_, fun j w1 w2 => ?_, fun _ j j0 j1 => ?_⟩
      · rw [P5 k w2 (by omega), uk k w2 (fun e => w1 (by rw [e]; decide))]; exact p5 k (by omega) (by omega)
      · rw [Q5 j w2, f0, up_i w1, hS 153 (by decide), p5 153 (by decide) (by decide)]
      · rw [P5 174 (by decide) (by decide), uk 174 (by decide) (by decide), p5 174 (by decide) (by decide)]
    have c0 : ∀ j, v5 0 j = s5 0 j := fun j => by rw [P5 0 (by decide) (by decide), uk 0 (by decide) (by decide)]
    have c2 : ∀ j, v5 2 j = s5 2 j := fun j => by rw [P5 2 (by decide) (by decide), uk 2 (by decide) (by decide)]
    refine hk v5 (by rw [Q5 0 (by decide), f0, up_same]) (INV_tap hI FT (fun j hj => by rw [c0]; exact q5 j hj) ⟨by rw [R5, c0, r5], by rw [c0, r5]; omega, by rw [c0, r5]; omega, fun k k0 k1 => ?_⟩)
    rw [c0, r5] at k1
    rw [c2, T5, t5, u161]
    exact ⟨fb5_e (fun k p q => (tB k p q).1) k k0 k1, fb5_r (fun k p q => (tB k p q).2) k k0 k1⟩
  · have u15 : s 153 15 = σ 0 1 := by rw [f, up_i (by decide), hS 153 (by decide)]; exact t15
    rw [u15, ew]
    exact ⟨fun y => absurd y z, fun _ => hk s (by rw [f, up_same]) (INV_F (FRM_tr (OUT_FRM hS) (by rw [f]; exact FRM_153)) hI)⟩
/-! more -/
theorem x_more {K : Int → dS → Prop} {r : Int} (hI : INV σ) (h1 : ((0 ≤ r ∧ r < σ 5 0) ∧ σ 0 17 = 1) → K (σ 148 r) σ) (h2 : ¬ ((0 ≤ r ∧ r < σ 5 0) ∧ σ 0 17 = 1) → Q (.inr 0) σ) : wI (d + 4) 128 [.inr (.inr 0), .inl r] σ Q K := by
  have hR := hI.1.1
  have h17 := hI.2.2.2.2.2.2.2.2.2.2.2.2.1.2.1
  refine c128 (b128_0 (w109 (fun r0 r1 => ⟨fun z => b128_1 ?_, fun z => h2 (fun q => ?_)⟩) (fun z => h2 (fun q => z q.1))))
  · rw [rat_in r0 (by omega)]
    exact h1 ⟨⟨r0, r1⟩, h17.resolve_left z⟩
  · have := q.2
    exact z (by rw [this]; decide)
theorem m_more {K : Int → dS → Prop} {r : Int} (hI : INV σ) (h1 : ((0 ≤ r ∧ r < σ 5 0) ∧ σ 0 17 = 1) → ∀ σ', FRM σ σ' → σ' 153 0 = 0 → K (σ 148 r) σ') (h2 : ¬ ((0 ≤ r ∧ r < σ 5 0) ∧ σ 0 17 = 1) → ∀ σ', FRM σ σ' → σ' 153 0 = 1 → K 0 σ') : wI (d + 6) 241 [.inr (.inr 153), .inl r] σ Q K := by
  have hR := hI.1.1
  have hl := hI.2.2.2.2.2.2.2.2.2.2.2.2.1
  refine c241 (b241_0 ?_)
  intro σ1 f1
  obtain ⟨hT, hF1, hI1, en, e5, e1, e3, e4⟩ := m_begin hI f1
  have e65 : σ1 153 65 = σ 0 17 := by rw [hF1.2.1 65 (by decide)]; exact hl.1
  refine w215 hT (fun r0 r1 => ⟨fun q => absurd q (by decide), fun _ => ?_⟩) (fun z => ⟨fun _ => b241_1 (b241_2 (h2 (fun q => z (by rw [e1]; exact q.1)) _ (FRM_tr hF1 FRM_153) (up_same _ _ _ _))), fun q => absurd rfl q⟩)
  rw [e1] at r1
  refine w158 hT (by decide) (fun y => ⟨fun q => absurd q (by decide), fun _ => ⟨r0, by omega, b241_2 ?_⟩⟩) (fun y => ⟨fun _ => b241_1 (b241_2 (h2 (fun q => by rw [e65, q.2] at y; exact absurd y (by decide)) _ (FRM_tr hF1 FRM_153) (up_same _ _ _ _))), fun q => absurd rfl q⟩)
  have h17 : σ 0 17 = 1 := hl.2.1.resolve_left (by rw [← e65]; exact y)
  rw [hF1.1 189 (by decide) (by decide) (by decide), hl.2.2 h17 r r0 r1]
  exact h1 ⟨⟨r0, r1⟩, h17⟩ σ1 hF1 hT
/-! lure -/
theorem p_lure {K : Int → dS → Prop} {set m : Int} (hI : INV σ) (hs : set < 2147483648) (h0 : ∀ v σ1, PRN (d + 20) 240 [.inr (.inr 153), .inl set, .inl m] v σ1 → K v σ1) (h1 : ∀ σ1, PRE (d + 20) 240 [.inr (.inr 153), .inl set, .inl m] 1 σ1 → Q (.inr 1) σ1) : wI (d + 20) 127 [.inr (.inr 0), .inl set, .inl m] σ Q K := by
  have FLw : ∀ {a b : dS}, FRM a b → hLw a b := fun F => ⟨fun k q1 q2 q3 _ _ => F.1 k q1 q2 q3, F.2.1, F.2.2⟩
  refine x_lure (d := d + 5) hI hs (fun ok e σ1 g => h0 (-1) σ1 (fun S hS Qm Km hk => ?_)) (fun ok e σ1 g => h0 _ σ1 (fun S hS Qm Km hk => ?_)) (fun ok => h1 σ (fun S hS Qm Km hk => ?_))
  · have F := FRM_tr g (OUT_FRM hS)
    exact m_lure (d := d + 5) hI (FLw F) (fun _ _ σ' g2 e0 => hk σ' e0 (INV_F (FRM_tr F g2) hI)) (fun _ q => by rw [e] at q; exact absurd q.1 (by decide)) (fun z => absurd ok z)
  · obtain ⟨b1, b2, b3, b4, b5, b6⟩ := g
    have Sk : ∀ k, ¬ scr k → S k = σ1 k := fun k hk => OUT_k hS hk
    have hW : hLw σ S := ⟨fun k q1 q2 q3 q4 q5 => by rw [Sk k q1]; exact b1 k q1 q2 q3 q4 q5, fun j hj => by rw [hS 153 (by decide)]; exact b2 j hj, fun j j0 j1 => by rw [hS 174 (by decide)]; exact b3 j j0 j1⟩
    refine m_lure (d := d + 5) hI hW (fun _ q => by rw [q] at e; exact absurd e.1 (by decide)) (fun _ _ σ' p1 p2 p3 p4 p5 p6 => hk σ' p6 ?_) (fun z => absurd ok z)
    obtain ⟨a1, a2, a3, a4, a5, a6, a7, a8, a9, a10, a11, a12, a13, a14, a15⟩ := id hI
    have hR := a1.1
    have hO := a1.2.1
    have FT : FRX (fun k => k = 0 ∨ k = 148 ∨ k = 189) (fun j => j = 65) σ σ' := by
      refine ⟨fun k w1 w2 w3 w4 => ?_, fun j w1 w2 => ?_, fun _ j j0 j1 => ?_⟩
      · rw [p1 k w1 w2 w3 (by omega)]; exact hW.1 k w1 w2 w3 (by omega) (by omega)
      · rw [p2 j w1 w2]; exact hW.2.1 j w1
      · rw [p3 j j0 j1]; exact hW.2.2 j j0 j1
    obtain ⟨gc, gm, g177, g153⟩ := INV_rest hI FT (fun k hk => by omega) (fun j hj => by omega)
    have gg : ∀ k, ¬ scr k ∧ k ≠ 153 ∧ k ≠ 174 ∧ ¬ (k = 0 ∨ k = 148 ∨ k = 189) → σ' k = σ k := fun k q => FT.1 k q.1 q.2.1 q.2.2.1 q.2.2.2
    have gj : ∀ j, j ≠ 0 → j ≠ 65 → σ' 153 j = σ 153 j := fun j w1 w2 => FT.2.1 j w1 w2
    have g5' := gc 5 (by decide)
    have g26 := gc 26 (by decide)
    have c0 : ∀ j, σ' 0 j = σ1 0 j := fun j => by rw [p1 0 (by decide) (by decide) (by decide) (by decide), Sk 0 (by decide)]
    have c148 : ∀ j, σ' 148 j = σ1 148 j := fun j => by rw [p1 148 (by decide) (by decide) (by decide) (by decide), Sk 148 (by decide)]
    refine INV_of hI gc gm g177 g153 (skS_k g5' g26 (gg 70 (by decide)) (gg 72 (by decide)) (gg 74 (by decide)) a5) (skR_k g5' (FT.2.2 (by decide)) (gg 70 (by decide)) (gg 72 (by decide)) (gg 74 (by decide)) hR.2 hO.2 a6) (tapR_k (by rw [c0]; exact b4 1 (by decide)) (gj 15 (by decide) (by decide)) (gg 161 (by decide)) (gg 2 (by decide)) a7) (fun k k0 k1 => by rw [gg 162 (by decide), gg 4 (by decide)]; exact a8 k k0 k1) (by rw [gj 17 (by decide) (by decide), c0, b4 2 (by decide)]; exact a9) (by rw [gg 75 (by decide), gg 82 (by decide)]; exact a10) ?_ ?_ ?_ (picR_k g5' g26 (by rw [c0]; exact b4 10 (by decide)) (gj 70 (by decide) (by decide)) (gj 71 (by decide) (by decide)) (gj 72 (by decide) (by decide)) (fun k hk => gg k ⟨by omega, by omega, by omega, by omega⟩) hR.2 hO.2 a14)
    · rw [gj 50 (by decide) (by decide)]
      exact actR_k g5' g26 (gg 75 (by decide)) (gg 77 (by decide)) (gg 79 (by decide)) (gg 81 (by decide)) (gg 176 (by decide)) a11
    · rw [gj 67 (by decide) (by decide)]
      exact seenR_k g5' (gg 82 (by decide)) (gg 84 (by decide)) (gg 86 (by decide)) (gg 88 (by decide)) (gg 192 (by decide)) a12
    · unfold lurR
      rw [c0, b5, p4, g5']
      exact ⟨rfl, Or.inr rfl, fun _ r r0 r1 => by rw [p5 r r0 r1, c148, b6 r r0 r1]⟩
  · have F := OUT_FRM hS
    exact m_lure (d := d + 5) hI (FLw F) (fun q => absurd q ok) (fun q => absurd q ok) (fun _ σ' g2 e0 => hk 0 σ' e0 (INV_F (FRM_tr F g2) hI))
end FEED
