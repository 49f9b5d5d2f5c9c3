/-! THE REFERENCE MEASURES all ways -/
section ME
variable {d : Nat} {Q : dR → dS → Prop}
theorem l199_8 {S0 : dS} {R k a : Int} (hR : 0 ≤ R ∧ R ≤ 10) (e5 : S0 153 1 = R) (k0 : 0 ≤ k) (k1 : k < R) (a0 : 0 ≤ a) (a1 : a < R) {E : Int → Int} (hE : rE R E) (hq : ∀ σ', (∀ j, j ≠ 177 → σ' j = S0 j) → (∀ i, 0 ≤ i → i < 100 → σ' 177 i = fl1 E k a R.toNat i) → B199_10 d Q k a σ') : ∀ (c b : Nat) (S : dS), (b : Int) + c = R → (∀ j, j ≠ 177 → S j = S0 j) → (∀ i, 0 ≤ i → i < 100 → S 177 i = fl1 E k a b i) → B199_8 d Q k a (b : Int) S
  | 0, b, S, hb, hF, hC => by
    have e : S 153 1 = R := by rw [hF 153 (by decide)]; exact e5
    have eb : b = R.toNat := by omega
    refine b199_8 ⟨fun _ => hq S hF ?_, fun z => absurd (by omega) z⟩
    rw [← eb]; exact hC
  | c + 1, b, S, hb, hF, hC => by
    have e : S 153 1 = R := by rw [hF 153 (by decide)]; exact e5
    have b1 : (b : Int) < R := by omega
    have hE1 := fl1_r hR.2 hE k0 k1 a0 a1 b (by omega)
    have ew : ∀ x y : Int, 0 ≤ x → x < R → 0 ≤ y → y < R → wr (wr (10 * x) + y) = 10 * x + y := fun x y x0 x1 y0 y1 => by rw [wr_id (x := 10 * x) (by omega) (by omega), wr_id (by omega) (by omega)]
    have b0 : 0 ≤ (b : Int) := by omega
    have hz : ¬ S 153 1 ≤ (b : Int) := by omega
    have i0 : 0 ≤ 10 * a + (b : Int) := by omega
    have i1 : 10 * a + (b : Int) < 100 := by omega
    have j0 : 0 ≤ 10 * a + k := by omega
    have j1 : 10 * a + k < 100 := by omega
    have m0 : 0 ≤ 10 * k + (b : Int) := by omega
    have m1 : 10 * k + (b : Int) < 100 := by omega
    have c1 := hC (10 * a + k) j0 j1
    have c2 := hC (10 * k + (b : Int)) m0 m1
    have c3 := hC (10 * a + (b : Int)) i0 i1
    have r1 := hE1 a k a0 a1 k0 k1
    have r2 := hE1 k (b : Int) k0 k1 b0 b1
    have es : wr (S 177 (10 * a + k) + S 177 (10 * k + (b : Int))) = S 177 (10 * a + k) + S 177 (10 * k + (b : Int)) := wr_id (by omega) (by omega)
    have ih : ∀ S', (∀ j, j ≠ 177 → S' j = S0 j) → (∀ i, 0 ≤ i → i < 100 → S' 177 i = fl1 E k a (b + 1) i) → B199_8 d Q k a ((b + 1 : Nat) : Int) S' := fun S' g1 g2 => l199_8 hR e5 k0 k1 a0 a1 hE hq c (b + 1) S' (by omega) g1 g2
    have eb1 : wr ((b : Int) + 1) = ((b + 1 : Nat) : Int) := by rw [wr_id (by omega) (by omega)]; omega
    refine b199_8 ⟨fun z => absurd z hz, fun _ => ?_⟩
    rw [ew a _ a0 a1 b0 b1, ew a k a0 a1 k0 k1, ew k _ k0 k1 b0 b1, es]
    refine ⟨j0, j1, m0, m1, i0, i1, fun z => b199_9 ?_, fun z => ⟨j0, j1, m0, m1, i0, i1, fun σ1 f1 => b199_9 ?_⟩⟩
    · rw [eb1]
      refine ih S hF (fun i q0 q1 => ?_)
      rw [hC i q0 q1]
      show _ = fstep (fl1 E k a b) k a (b : Int) i
      unfold fstep
      rw [if_neg (fun q => by have := q.2; omega)]
    · rw [eb1]
      refine ih σ1 (fun j hj => by rw [f1, up_k hj]; exact hF j hj) (fun i q0 q1 => ?_)
      show _ = fstep (fl1 E k a b) k a (b : Int) i
      unfold fstep
      rw [f1]
      by_cases w : i = 10 * a + (b : Int)
      · rw [w, up_same, if_pos ⟨rfl, by omega⟩]; omega
      · rw [up_i w, if_neg (fun q => w q.1)]
        exact hC i q0 q1
theorem l199_7 {S0 : dS} {R k : Int} (hR : 0 ≤ R ∧ R ≤ 10) (e5 : S0 153 1 = R) (k0 : 0 ≤ k) (k1 : k < R) {E : Int → Int} (hE : rE R E) (hq : ∀ σ', (∀ j, j ≠ 177 → σ' j = S0 j) → (∀ i, 0 ≤ i → i < 100 → σ' 177 i = fl2 E R.toNat k R.toNat i) → B199_11 d Q k σ') : ∀ (c a : Nat) (S : dS), (a : Int) + c = R → (∀ j, j ≠ 177 → S j = S0 j) → (∀ i, 0 ≤ i → i < 100 → S 177 i = fl2 E R.toNat k a i) → B199_7 d Q k (a : Int) S
  | 0, a, S, ha, hF, hC => by
    have e : S 153 1 = R := by rw [hF 153 (by decide)]; exact e5
    have ea : a = R.toNat := by omega
    refine b199_7 ⟨fun _ => hq S hF ?_, fun z => absurd (by omega) z⟩
    rw [ea] at hC
    exact hC
  | c + 1, a, S, ha, hF, hC => by
    have e : S 153 1 = R := by rw [hF 153 (by decide)]; exact e5
    have hE1 := fl2_r hR.2 (N := R.toNat) (by omega) hE k0 k1 a (by omega)
    have ea1 : wr ((a : Int) + 1) = ((a + 1 : Nat) : Int) := by rw [wr_id (by omega) (by omega)]; omega
    refine b199_7 ⟨fun z => absurd z (by omega), fun _ => l199_8 (S0 := S0) (E := fl2 E R.toNat k a) hR e5 k0 k1 (by omega) (by omega) hE1 (fun σ1 g1 g2 => b199_10 ?_) R.toNat 0 S (by omega) hF hC⟩
    rw [ea1]
    exact l199_7 hR e5 k0 k1 hE hq c (a + 1) σ1 (by omega) g1 g2
theorem l199_6 {S0 : dS} {R : Int} (hR : 0 ≤ R ∧ R ≤ 10) (e5 : S0 153 1 = R) {E : Int → Int} (hE : rE R E) (hq : ∀ σ', (∀ j, j ≠ 177 → σ' j = S0 j) → (∀ i, 0 ≤ i → i < 100 → σ' 177 i = fl3 E R.toNat R.toNat i) → Q (.inl none) σ') : ∀ (c k : Nat) (S : dS), (k : Int) + c = R → (∀ j, j ≠ 177 → S j = S0 j) → (∀ i, 0 ≤ i → i < 100 → S 177 i = fl3 E R.toNat k i) → B199_6 d Q (k : Int) S
  | 0, k, S, hk, hF, hC => by
    have e : S 153 1 = R := by rw [hF 153 (by decide)]; exact e5
    have ek : k = R.toNat := by omega
    refine b199_6 ⟨fun _ => b199_12 (hq S hF ?_), fun z => absurd (by omega) z⟩
    rw [ek] at hC
    exact hC
  | c + 1, k, S, hk, hF, hC => by
    have e : S 153 1 = R := by rw [hF 153 (by decide)]; exact e5
    have hE1 := fl3_r hR.2 (N := R.toNat) (by omega) hE k (by omega)
    have ek1 : wr ((k : Int) + 1) = ((k + 1 : Nat) : Int) := by rw [wr_id (by omega) (by omega)]; omega
    refine b199_6 ⟨fun z => absurd z (by omega), fun _ => l199_7 (S0 := S0) (E := fl3 E R.toNat k) hR e5 (by omega) (by omega) hE1 (fun σ1 g1 g2 => b199_11 ?_) R.toNat 0 S (by omega) hF hC⟩
    rw [ek1]
    exact l199_6 hR e5 hE hq c (k + 1) σ1 (by omega) g1 g2
def FZ0 (T : Int → Int) (i : Int) : Int := if i % 11 = 0 then 0 else if 0 < T i then T i else 1000000
theorem l199_1 {S0 : dS} (hq : ∀ σ', (∀ j, j ≠ 177 → σ' j = S0 j) → (∀ i, 0 ≤ i → i < 100 → σ' 177 i = FZ0 (S0 154) i) → B199_5 d Q σ') : ∀ (c : Nat) (i : Int) (S : dS), 0 ≤ i → i + c = 100 → (∀ j, j ≠ 177 → S j = S0 j) → (∀ j, 0 ≤ j → j < i → S 177 j = FZ0 (S0 154) j) → B199_1 d Q i S
  | 0, i, S, i0, hi, hF, hC => b199_1 ⟨fun _ => hq S hF (fun j j0 j1 => hC j j0 (by omega)), fun z => absurd (by omega) z⟩
  | c + 1, i, S, i0, hi, hF, hC => by
    have nx : ∀ w, w = FZ0 (S0 154) i → B199_4 d Q i w i S := by
      intro w hw
      refine b199_4 ⟨by omega, by omega, fun σ1 f1 => ?_⟩
      rw [wr_id (by omega) (by omega)]
      refine l199_1 hq c (i + 1) σ1 (by omega) (by omega) (fun j hj => by rw [f1, up_k hj]; exact hF j hj) (fun j j0 j1 => ?_)
      by_cases e : j = i
      · rw [f1, e, up_same]; exact hw
      · rw [f1, up_i e]; exact hC j j0 (by omega)
    have e154 : S 154 = S0 154 := hF 154 (by decide)
    refine b199_1 ⟨fun z => absurd z (by omega), fun _ => ⟨by decide, ?_⟩⟩
    rw [irm_pos (by omega) (by omega) (by decide) (by decide)]
    refine ⟨fun z => b199_2 ⟨by omega, by omega, ?_⟩, fun z => nx 0 (by unfold FZ0; rw [if_pos (by omega)])⟩
    rw [e154]
    refine ⟨fun y => b199_3 (nx _ ?_), fun y => ⟨by omega, by omega, nx _ ?_⟩⟩
    · unfold FZ0; rw [if_neg z, if_neg (by omega)]
    · unfold FZ0; rw [if_neg z, if_pos (by omega)]
theorem w199 {K : dS → Prop} {S : dS} {R : Int} (hR : 0 ≤ R ∧ R ≤ 10) (e5 : S 153 1 = R) (hE : rE R (FZ0 (S 154))) (hq : ∀ σ', (∀ j, j ≠ 177 → σ' j = S j) → (∀ i, 0 ≤ i → i < 100 → σ' 177 i = fl3 (FZ0 (S 154)) R.toNat R.toNat i) → K σ') : wV (d + 2) 199 [.inr (.inr 153)] S Q K := by
  refine c199 (b199_0 (l199_1 (S0 := S) (fun σ1 g1 g2 => b199_5 ?_) 100 0 S (by decide) (by decide) (fun _ _ => rfl) (fun j j0 j1 => by omega)))
  exact l199_6 (S0 := S) hR e5 hE hq R.toNat 0 σ1 (by omega) g1 g2
end ME
