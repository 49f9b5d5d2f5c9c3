/-! THE REFERENCE READS a text -/
section MT
variable {c q v : Nat → Int} {N : Nat} {Mk : Nat → dS → Prop} {S : dS} {d : Nat} {Q : dR → dS → Prop}
theorem l194 (hT : TM c q v N Mk) (h17 : ∀ k σ, Mk k σ → σ 153 17 = -1) (c0 : c N = 0) (hN : N ≤ 700) (v0 : ∀ k, 0 ≤ v k) : ∀ (n k : Nat) (D : dS) (dt : Bool) (rs : List (List Int)) (σ : dS), k ≤ N → N ≤ k + n → PV D dt rs → rs.flatten.length ≤ k → MR Mk S k D dt rs σ →
    ((lnAll c v n k D dt rs).1 = 0 → ∀ σ', MR Mk S (lnAll c v n k D dt rs).2.1 (lnAll c v n k D dt rs).2.2.1 (lnAll c v n k D dt rs).2.2.2.1 (lnAll c v n k D dt rs).2.2.2.2 σ' → B194_8 (d + 8) Q σ') →
    ((lnAll c v n k D dt rs).1 ≠ 0 → ∀ σ', MF S (lnAll c v n k D dt rs).1 (q (lnAll c v n k D dt rs).2.1) σ' → Q (.inl (some (.inl (lnAll c v n k D dt rs).1))) (up σ' 162 0 (wr ((σ' 162 0) + 1)))) → B194_6 (d + 8) Q σ := by
  have bad : ∀ (f p : Int) (σ' : dS), f ≠ 0 → MF S f p σ' → Q (.inl (some (.inl f))) (up σ' 162 0 (wr ((σ' 162 0) + 1))) → B194_6 (d + 8) Q σ' := by
    intro f p σ' hf g hq
    have nb : σ' 153 16 ≠ 0 := by rw [g.2.1]; exact hf
    refine b194_6 (w173b nb ⟨fun _ => b194_7 (w173b nb ⟨fun u => absurd rfl u, fun _ => ⟨by decide, by decide, by decide, by decide, fun s2 f2 => ?_⟩⟩), fun u => absurd rfl u⟩)
    have e16 : s2 153 16 = f := by rw [f2, up_k (by decide)]; exact g.2.1
    rw [e16, f2]
    exact hq
  have good : ∀ (k : Nat) (D : dS) (dt : Bool) (rs : List (List Int)) (σ' : dS), MR Mk S k D dt rs σ' → B194_8 (d + 8) Q σ' → B194_7 (d + 8) Q σ' := by
    intro k D dt rs σ' g hq
    exact b194_7 (w173g g.2.2.1.1 ⟨fun _ => hq, fun u => absurd (by decide) u⟩)
  intro n
  induction n with
  | zero =>
    intro k D dt rs σ hk hn hV hl h h0 h1
    have e : k = N := by omega
    have hM := hT.1 k σ hk h.2.1
    have e21 : σ 153 21 = 0 := hM.2.1.mpr (by rw [e]; exact c0)
    exact b194_6 (w173g h.2.2.1.1 ⟨fun u => absurd u (by decide), fun _ => ⟨fun _ => good k D dt rs σ h (h0 rfl σ h), fun u => absurd e21 u⟩⟩)
  | succ n ih =>
    intro k D dt rs σ hk hn hV hl h h0 h1
    have hM := hT.1 k σ hk h.2.1
    unfold lnAll at h0 h1
    refine b194_6 (w173g h.2.2.1.1 ⟨fun u => absurd u (by decide), fun _ => ⟨fun z => ?_, fun z => ?_⟩⟩)
    · have ec : c k = 0 := hM.2.1.mp z
      rw [if_pos ec] at h0
      exact good k D dt rs σ h (h0 rfl σ h)
    · have ec : c k ≠ 0 := fun u => z (hM.2.1.mpr u)
      rw [if_neg ec] at h0 h1
      have hlt := one_lt c0 hk ec
      refine w193 (d := d) hT h17 c0 hN v0 hlt hV hl h (fun y y2 σ' g => ?_) (fun y y2 σ' g => ?_) (fun y σ' g => ?_)
      · rw [if_neg (fun u => u y), if_neg (fun u => u y2)] at h0 h1
        obtain ⟨p1, p2, p3, p4⟩ := PV_one c0 hN v0 hlt hV y
        have hlt2 := one_lt c0 p1 (by omega)
        exact ih _ _ _ _ σ' hlt2 (by omega) p3 (by omega) g h0 h1
      · rw [if_neg (fun u => u y), if_pos y2] at h1
        exact bad 1 _ σ' ne_1 g (h1 ne_1 σ' g)
      · rw [if_pos y] at h1
        exact bad _ _ σ' y g (h1 y σ' g)
end MT
