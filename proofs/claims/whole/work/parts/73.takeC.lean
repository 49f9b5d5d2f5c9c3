/-! THE CLASS TAKES a city over -/
abbrev cnw (x : Nat) : Prop := x = 5 ∨ x = 7 ∨ x = 9 ∨ x = 11 ∨ x = 13 ∨ x = 15 ∨ x = 17 ∨ x = 19 ∨ x = 21 ∨ x = 23 ∨ x = 25 ∨ x = 26 ∨ x = 28 ∨ x = 30
def CC (D : dS) (rs : List (List Int)) (σ : dS) : Prop := (∀ j, 0 ≤ j → j < 5 → σ 5 j = D 33 j) ∧ (∀ j, 0 ≤ j → j < 10 → σ 7 j = D 35 j) ∧ (∀ j, 0 ≤ j → j < 100 → σ 9 j = D 37 j) ∧ (∀ j, 0 ≤ j → j < 5 → σ 11 j = D 39 j) ∧ (∀ j, 0 ≤ j → j < 5 → σ 13 j = D 41 j) ∧ (∀ j, 0 ≤ j → j < 5 → σ 15 j = D 43 j) ∧ (∀ j, 0 ≤ j → j < 40 → σ 17 j = D 45 j) ∧ (∀ j, 0 ≤ j → j < 8 → σ 19 j = D 47 j) ∧ (∀ j, 0 ≤ j → j < 8 → σ 21 j = D 49 j) ∧ (∀ j, 0 ≤ j → j < 8 → σ 23 j = D 51 j) ∧ (∀ j, 0 ≤ j → j < 8 → σ 25 j = D 53 j) ∧ σ 26 0 = (rs.length : Int) ∧ seg σ 28 0 rs.flatten ∧ (∀ i : Nat, i < rs.length → σ 30 i = (((rs.take (i + 1)).flatten.length : Nat) : Int))
theorem seg_of {σ σ' : dS} {x y : Nat} : ∀ {l : List Int} {a : Int}, 0 ≤ a → (∀ j, a ≤ j → j < a + l.length → σ' y j = σ x j) → seg σ x a l → seg σ' y a l
  | [], _, _, _, _ => trivial
  | w :: l, a, a0, h, hs => by
    simp only [List.length_cons] at h
    exact ⟨by rw [h a (by omega) (by omega)]; exact hs.1, seg_of (by omega) (fun j j0 j1 => h j (by omega) (by omega)) hs.2⟩
section CT
variable {d : Nat} {Q : dR → dS → Prop} {S : dS} {σ : dS} {k : Nat} {D : dS} {dt : Bool} {rs : List (List Int)}
theorem w26 {K : dS → Prop} (hr : rs.length ≤ 4) (hl : rs.flatten.length ≤ 700) (h : CR S k D dt rs σ) (hq : ∀ σ', (∀ x, ¬ cnw x → σ' x = σ x) → CC D rs σ' → K σ') : wV (d + 3) 26 [.inr (.inr 5), .inr (.inr 33)] σ Q K := by
  obtain ⟨a1, a2, a3, a4, a5, a6, a7, a8, a9, a10, a11⟩ := h
  refine c26 (b26_0 (fun s1 f1 s2 f2 s3 f3 s4 f4 s5 f5 s6 f6 s7 f7 s8 f8 s9 f9 s10 f10 s11 f11 s12 f12 s13 f13 s14 f14 s15 f15 => c15 (b15_0 (fun s16 f16 s17 f17 s18 f18 s19 f19 => ?_))))
  have n1 : ∀ x, ¬ cnw x → s1 x = σ x := fun x hx => by rw [f1, up_k (fun e => hx (by rw [e]; decide))]
  have n2 : ∀ x, ¬ cnw x → s2 x = σ x := fun x hx => by rw [f2, up_k (fun e => hx (by rw [e]; decide))]; exact n1 x hx
  have n3 : ∀ x, ¬ cnw x → s3 x = σ x := fun x hx => by rw [f3, up_k (fun e => hx (by rw [e]; decide))]; exact n2 x hx
  have n4 : ∀ x, ¬ cnw x → s4 x = σ x := fun x hx => by rw [f4, up_k (fun e => hx (by rw [e]; decide))]; exact n3 x hx
  have n5 : ∀ x, ¬ cnw x → s5 x = σ x := fun x hx => by rw [f5, up_k (fun e => hx (by rw [e]; decide))]; exact n4 x hx
  have n6 : ∀ x, ¬ cnw x → s6 x = σ x := fun x hx => by rw [f6, rcopy_k (fun e => hx (by rw [e]; decide))]; exact n5 x hx
  have n7 : ∀ x, ¬ cnw x → s7 x = σ x := fun x hx => by rw [f7, rcopy_k (fun e => hx (by rw [e]; decide))]; exact n6 x hx
  have n8 : ∀ x, ¬ cnw x → s8 x = σ x := fun x hx => by rw [f8, rcopy_k (fun e => hx (by rw [e]; decide))]; exact n7 x hx
  have n9 : ∀ x, ¬ cnw x → s9 x = σ x := fun x hx => by rw [f9, rcopy_k (fun e => hx (by rw [e]; decide))]; exact n8 x hx
  have n10 : ∀ x, ¬ cnw x → s10 x = σ x := fun x hx => by rw [f10, rcopy_k (fun e => hx (by rw [e]; decide))]; exact n9 x hx
  have n11 : ∀ x, ¬ cnw x → s11 x = σ x := fun x hx => by rw [f11, rcopy_k (fun e => hx (by rw [e]; decide))]; exact n10 x hx
  have n12 : ∀ x, ¬ cnw x → s12 x = σ x := fun x hx => by rw [f12, rcopy_k (fun e => hx (by rw [e]; decide))]; exact n11 x hx
  have n13 : ∀ x, ¬ cnw x → s13 x = σ x := fun x hx => by rw [f13, rcopy_k (fun e => hx (by rw [e]; decide))]; exact n12 x hx
  have n14 : ∀ x, ¬ cnw x → s14 x = σ x := fun x hx => by rw [f14, rcopy_k (fun e => hx (by rw [e]; decide))]; exact n13 x hx
  have n15 : ∀ x, ¬ cnw x → s15 x = σ x := fun x hx => by rw [f15, rcopy_k (fun e => hx (by rw [e]; decide))]; exact n14 x hx
  have n16 : ∀ x, ¬ cnw x → s16 x = σ x := fun x hx => by rw [f16, up_k (fun e => hx (by rw [e]; decide))]; exact n15 x hx
  have n17 : ∀ x, ¬ cnw x → s17 x = σ x := fun x hx => by rw [f17, up_k (fun e => hx (by rw [e]; decide))]; exact n16 x hx
  have n18 : ∀ x, ¬ cnw x → s18 x = σ x := fun x hx => by rw [f18, rcopy_k (fun e => hx (by rw [e]; decide))]; exact n17 x hx
  have n19 : ∀ x, ¬ cnw x → s19 x = σ x := fun x hx => by rw [f19, rcopy_k (fun e => hx (by rw [e]; decide))]; exact n18 x hx
  have L19 : ∀ x, x ≤ 30 → s19 x = s19 x := fun _ _ => rfl
  have L18 : ∀ x, x ≤ 28 → s19 x = s18 x := fun x hx => by rw [L19 x (by omega), f19, rcopy_k (by omega)]
  have L17 : ∀ x, x ≤ 26 → s19 x = s17 x := fun x hx => by rw [L18 x (by omega), f18, rcopy_k (by omega)]
  have L15 : ∀ x, x ≤ 25 → s19 x = s15 x := fun x hx => by rw [L17 x (by omega), f17, up_k (by omega), f16, up_k (by omega)]
  have L14 : ∀ x, x ≤ 23 → s19 x = s14 x := fun x hx => by rw [L15 x (by omega), f15, rcopy_k (by omega)]
  have L13 : ∀ x, x ≤ 21 → s19 x = s13 x := fun x hx => by rw [L14 x (by omega), f14, rcopy_k (by omega)]
  have L12 : ∀ x, x ≤ 19 → s19 x = s12 x := fun x hx => by rw [L13 x (by omega), f13, rcopy_k (by omega)]
  have L11 : ∀ x, x ≤ 17 → s19 x = s11 x := fun x hx => by rw [L12 x (by omega), f12, rcopy_k (by omega)]
  have L10 : ∀ x, x ≤ 15 → s19 x = s10 x := fun x hx => by rw [L11 x (by omega), f11, rcopy_k (by omega)]
  have L9 : ∀ x, x ≤ 13 → s19 x = s9 x := fun x hx => by rw [L10 x (by omega), f10, rcopy_k (by omega)]
  have L8 : ∀ x, x ≤ 11 → s19 x = s8 x := fun x hx => by rw [L9 x (by omega), f9, rcopy_k (by omega)]
  have L7 : ∀ x, x ≤ 9 → s19 x = s7 x := fun x hx => by rw [L8 x (by omega), f8, rcopy_k (by omega)]
  have L6 : ∀ x, x ≤ 7 → s19 x = s6 x := fun x hx => by rw [L7 x (by omega), f7, rcopy_k (by omega)]
  have L5 : ∀ x, x ≤ 5 → s19 x = s5 x := fun x hx => by rw [L6 x (by omega), f6, rcopy_k (by omega)]
  have e33 : ∀ i, σ 33 i = D 33 i := fun i => by rw [a7 33 (Or.inl rfl)]
  refine hq s19 n19 ⟨fun j j0 j1 => ?_, fun j j0 j1 => ?_, fun j j0 j1 => ?_, fun j j0 j1 => ?_, fun j j0 j1 => ?_, fun j j0 j1 => ?_, fun j j0 j1 => ?_, fun j j0 j1 => ?_, fun j j0 j1 => ?_, fun j j0 j1 => ?_, fun j j0 j1 => ?_, ?_, ?_, fun i hi => ?_⟩
  · rw [L5 5 (by decide)]
    have x0 : s5 5 0 = D 33 0 := by rw [f5, up_i (by decide), f4, up_i (by decide), f3, up_i (by decide), f2, up_i (by decide), f1, up_same, e33]
    have x1 : s5 5 1 = D 33 1 := by rw [f5, up_i (by decide), f4, up_i (by decide), f3, up_i (by decide), f2, up_same, n1 33 (by decide), e33]
    have x2 : s5 5 2 = D 33 2 := by rw [f5, up_i (by decide), f4, up_i (by decide), f3, up_same, n2 33 (by decide), e33]
    have x3 : s5 5 3 = D 33 3 := by rw [f5, up_i (by decide), f4, up_same, n3 33 (by decide), e33]
    have x4 : s5 5 4 = D 33 4 := by rw [f5, up_same, n4 33 (by decide), e33]
    have : j = 0 ∨ j = 1 ∨ j = 2 ∨ j = 3 ∨ j = 4 := by omega
    rcases this with e | e | e | e | e <;> subst e <;> assumption
  · rw [L6 7 (by decide), f6, rcopy_in j0 (by omega) (by omega), n5 35 (by decide), a7 35 (by decide)]
  · rw [L7 9 (by decide), f7, rcopy_in j0 (by omega) (by omega), n6 37 (by decide), a7 37 (by decide)]
  · rw [L8 11 (by decide), f8, rcopy_in j0 (by omega) (by omega), n7 39 (by decide), a7 39 (by decide)]
  · rw [L9 13 (by decide), f9, rcopy_in j0 (by omega) (by omega), n8 41 (by decide), a7 41 (by decide)]
  · rw [L10 15 (by decide), f10, rcopy_in j0 (by omega) (by omega), n9 43 (by decide), a7 43 (by decide)]
  · rw [L11 17 (by decide), f11, rcopy_in j0 (by omega) (by omega), n10 45 (by decide), a7 45 (by decide)]
  · rw [L12 19 (by decide), f12, rcopy_in j0 (by omega) (by omega), n11 47 (by decide), a7 47 (by decide)]
  · rw [L13 21 (by decide), f13, rcopy_in j0 (by omega) (by omega), n12 49 (by decide), a7 49 (by decide)]
  · rw [L14 23 (by decide), f14, rcopy_in j0 (by omega) (by omega), n13 51 (by decide), a7 51 (by decide)]
  · rw [L15 25 (by decide), f15, rcopy_in j0 (by omega) (by omega), n14 53 (by decide), a7 53 (by decide)]
  · rw [L17 26 (by decide), f17, up_i (by decide), f16, up_same, n15 54 (by decide)]; exact a8
  · refine seg_of (σ := σ) (x := 56) (Int.le_refl 0) (fun j j0 j1 => ?_) a10
    rw [L18 28 (by decide), f18, rcopy_in j0 (by omega) (by omega), n17 56 (by decide)]
  · rw [f19, rcopy_in (j := (i : Int)) (by omega) (by omega) (by omega), n18 58 (by decide)]; exact a11 i hi
end CT
