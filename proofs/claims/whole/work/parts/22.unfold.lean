/-! PURE: unfolding, by program (wip/whole/gen/g22.py) -/
section UNF
variable {fr : Bool} {B : Nat × Nat} {C : dC} {P : Nat → dK} {Q : dR → dS → Prop} {a : Int} {b : Nat} {tl : List Nat} {k : dK}
theorem st_0 : stp fr B C P Q 0 a b tl k = s_push (.inl a) k := rfl
theorem st_1 : stp fr B C P Q 1 a b tl k = s_push (.inl a) k := rfl
theorem st_2 : stp fr B C P Q 2 a b tl k = s_push (.inl a) k := rfl
theorem st_3 : stp fr B C P Q 3 a b tl k = s_push (.inl a) k := rfl
theorem st_4 : stp fr B C P Q 4 a b tl k = s_push (.inl a) k := rfl
theorem st_5 : stp fr B C P Q 5 a b tl k = s_iload b k := rfl
theorem st_6 : stp fr B C P Q 6 a b tl k = s_iload b k := rfl
theorem st_7 : stp fr B C P Q 7 a b tl k = s_aload b k := rfl
theorem st_8 : stp fr B C P Q 8 a b tl k = s_aload b k := rfl
theorem st_9 : stp fr B C P Q 9 a b tl k = s_lload b k := rfl
theorem st_10 : stp fr B C P Q 10 a b tl k = s_lload b k := rfl
theorem st_11 : stp fr B C P Q 11 a b tl k = s_istore b k := rfl
theorem st_12 : stp fr B C P Q 12 a b tl k = s_istore b k := rfl
theorem st_13 : stp fr B C P Q 13 a b tl k = s_astore b k := rfl
theorem st_14 : stp fr B C P Q 14 a b tl k = s_astore b k := rfl
theorem st_15 : stp fr B C P Q 15 a b tl k = s_lstore b k := rfl
theorem st_16 : stp fr B C P Q 16 a b tl k = s_lstore b k := rfl
theorem st_17 : stp fr B C P Q 17 a b tl k = s_iinc b a k := rfl
theorem st_18 : stp fr B C P Q 18 a b tl k = s_bin (fun x y => wr (x + y)) k := rfl
theorem st_19 : stp fr B C P Q 19 a b tl k = s_bin (fun x y => wr (x - y)) k := rfl
theorem st_20 : stp fr B C P Q 20 a b tl k = s_bin (fun x y => wr (x * y)) k := rfl
theorem st_21 : stp fr B C P Q 21 a b tl k = s_div idv k := rfl
theorem st_22 : stp fr B C P Q 22 a b tl k = s_div irm k := rfl
theorem st_23 : stp fr B C P Q 23 a b tl k = s_un (fun x => wr (-x)) k := rfl
theorem st_24 : stp fr B C P Q 24 a b tl k = s_bin shl k := rfl
theorem st_25 : stp fr B C P Q 25 a b tl k = s_bin shr k := rfl
theorem st_26 : stp fr B C P Q 26 a b tl k = s_bin ush k := rfl
theorem st_27 : stp fr B C P Q 27 a b tl k = s_bin ian k := rfl
theorem st_28 : stp fr B C P Q 28 a b tl k = s_bin ior k := rfl
theorem st_29 : stp fr B C P Q 29 a b tl k = s_bin ixr k := rfl
theorem st_30 : stp fr B C P Q 30 a b tl k = s_i2l k := rfl
theorem st_32 : stp fr B C P Q 32 a b tl k = s_un i2c k := rfl
theorem st_33 : stp fr B C P Q 33 a b tl k = s_lcmp k := rfl
theorem st_34 : stp fr B C P Q 34 a b tl k = s_push (.inr (.inl a)) k := rfl
theorem st_35 : stp fr B C P Q 35 a b tl k = s_lbin (fun x y => wrL (x + y)) k := rfl
theorem st_36 : stp fr B C P Q 36 a b tl k = s_lbin (fun x y => wrL (x - y)) k := rfl
theorem st_37 : stp fr B C P Q 37 a b tl k = s_lshl k := rfl
theorem st_38 : stp fr B C P Q 38 a b tl k = s_lbin lio k := rfl
theorem st_39 : stp fr B C P Q 39 a b tl k = s_push (.inr (.inl a)) k := rfl
theorem st_40 : stp fr B C P Q 40 a b tl k = s_dup k := rfl
theorem st_41 : stp fr B C P Q 41 a b tl k = s_pop k := rfl
theorem st_42 : stp fr B C P Q 42 a b tl k = s_dup2 k := rfl
theorem st_43 : stp fr B C P Q 43 a b tl k = P b := rfl
theorem st_44 : stp fr B C P Q 44 a b tl k = s_if (fun x => x = 0) (P b) k := rfl
theorem st_45 : stp fr B C P Q 45 a b tl k = s_if (fun x => x ≠ 0) (P b) k := rfl
theorem st_46 : stp fr B C P Q 46 a b tl k = s_if (fun x => x < 0) (P b) k := rfl
theorem st_47 : stp fr B C P Q 47 a b tl k = s_if (fun x => 0 ≤ x) (P b) k := rfl
theorem st_48 : stp fr B C P Q 48 a b tl k = s_if (fun x => 0 < x) (P b) k := rfl
theorem st_49 : stp fr B C P Q 49 a b tl k = s_if (fun x => x ≤ 0) (P b) k := rfl
theorem st_50 : stp fr B C P Q 50 a b tl k = s_icmp (fun x y => x = y) (P b) k := rfl
theorem st_51 : stp fr B C P Q 51 a b tl k = s_icmp (fun x y => x ≠ y) (P b) k := rfl
theorem st_52 : stp fr B C P Q 52 a b tl k = s_icmp (fun x y => x < y) (P b) k := rfl
theorem st_53 : stp fr B C P Q 53 a b tl k = s_icmp (fun x y => y ≤ x) (P b) k := rfl
theorem st_54 : stp fr B C P Q 54 a b tl k = s_icmp (fun x y => y < x) (P b) k := rfl
theorem st_55 : stp fr B C P Q 55 a b tl k = s_icmp (fun x y => x ≤ y) (P b) k := rfl
theorem st_56 : stp fr B C P Q 56 a b tl k = s_getf fr (n0 tl 0) (n0 tl 1) k := rfl
theorem st_57 : stp fr B C P Q 57 a b tl k = s_putf fr (n0 tl 0) (n0 tl 1) (n0 tl 2) k := rfl
theorem st_58 : stp fr B C P Q 58 a b tl k = s_ald fr 0 k := rfl
theorem st_59 : stp fr B C P Q 59 a b tl k = s_ast fr 0 k := rfl
theorem st_60 : stp fr B C P Q 60 a b tl k = s_ald fr 1 k := rfl
theorem st_61 : stp fr B C P Q 61 a b tl k = s_ast fr 1 k := rfl
theorem st_62 : stp fr B C P Q 62 a b tl k = s_lald k := rfl
theorem st_63 : stp fr B C P Q 63 a b tl k = s_last k := rfl
theorem st_64 : stp fr B C P Q 64 a b tl k = s_alen fr k := rfl
theorem st_65 : stp fr B C P Q 65 a b tl k = s_call fr C B Q (n0 tl 0) (n0 tl 1) (n0 tl 2) (n0 tl 3) (n0 tl 4) k := rfl
theorem st_66 : stp fr B C P Q 66 a b tl k = s_call fr C B Q (n0 tl 0) (n0 tl 1) 0 (n0 tl 3) (n0 tl 4) k := rfl
theorem st_67 : stp fr B C P Q 67 a b tl k = s_call fr C B Q (n0 tl 0) (n0 tl 1) 999 (n0 tl 3) (n0 tl 4) k := rfl
theorem st_68 : stp fr B C P Q 68 a b tl k = s_objI k := rfl
theorem st_69 : stp fr B C P Q 69 a b tl k = s_new fr B (n0 tl 0) (n0 tl 1) k := rfl
theorem st_70 : stp fr B C P Q 70 a b tl k = s_newa fr B (n0 tl 0) k := rfl
theorem st_71 : stp fr B C P Q 71 a b tl k = s_iret B Q (n0 tl 0) := rfl
theorem st_72 : stp fr B C P Q 72 a b tl k = s_lret B Q := rfl
theorem st_73 : stp fr B C P Q 73 a b tl k = s_vret B Q := rfl
theorem st_74 : stp fr B C P Q 74 a b tl k = s_tsw P b a tl := rfl
theorem st_75 : stp fr B C P Q 75 a b tl k = s_lsw P b tl := rfl
theorem st_76 : stp fr B C P Q 76 a b tl k = s_throw B Q (n0 tl 0) := rfl
theorem st_78 : stp fr B C P Q 78 a b tl k = P b := rfl
theorem st_79 : stp fr B C P Q 79 a b tl k = s_putf fr (n0 tl 0) (n0 tl 1) (n0 tl 2) k := rfl
theorem st_84 : stp fr B C P Q 84 a b tl k = s_tln B (n0 tl 0) k := rfl
theorem st_85 : stp fr B C P Q 85 a b tl k = s_tch B (n0 tl 0) b k := rfl
theorem st_86 : stp fr B C P Q 86 a b tl k = s_tix B (n0 tl 0) b k := rfl
end UNF
theorem ex_nil {fr : Bool} {B : Nat × Nat} {C : dC} {P : Nat → dK} {Q : dR → dS → Prop} : ex fr B C P Q [] = fun _ _ _ _ => False := rfl
theorem ex_cons {fr : Bool} {B : Nat × Nat} {C : dC} {P : Nat → dK} {Q : dR → dS → Prop} {op : Nat} {a : Int} {b : Nat} {tl : List Nat} {is : List dI} : ex fr B C P Q ((op, a, b, tl) :: is) = stp fr B C P Q op a b tl (ex fr B C P Q is) := rfl
/-- method y from block lb on -/
def TT (d y : Nat) (Q : dR → dS → Prop) : Nat → dK := lfp (bdy blk (inf y).2.1 (inf y).2.2 (wpm blk inf d) Q y)
theorem bdy_m (d y : Nat) (Q : dR → dS → Prop) : ∀ P P' : Nat → dK, (∀ lb u ls st σ, P lb u ls st σ → P' lb u ls st σ) → ∀ lb u ls st σ, bdy blk (inf y).2.1 (inf y).2.2 (wpm blk inf d) Q y P lb u ls st σ → bdy blk (inf y).2.1 (inf y).2.2 (wpm blk inf d) Q y P' lb u ls st σ :=
  fun _ _ hP _ _ _ _ _ h => ex_m (wpm_m blk inf d) hP (fun _ _ z => z) _ _ _ _ _ h
theorem TT_eq (d y : Nat) (Q : dR → dS → Prop) (lb : Nat) (u : Nat × Nat) (ls : dL) (st : List dX) (σ : dS) : TT d y Q lb u ls st σ = ex (inf y).2.1 (inf y).2.2 (wpm blk inf d) (TT d y Q) Q (blk y lb) u ls st σ :=
  propext ⟨fun h => lfp_out (bdy_m d y Q) h, fun h => lfp_in (bdy_m d y Q) h⟩
theorem wpm_eq (d y : Nat) (as : List dX) (σ : dS) (Q : dR → dS → Prop) : wpm blk inf (d + 1) y as σ Q = ((as.all c1 = true ∧ as.length ≤ (inf y).1) ∧ TT d y Q 0 (0, 0) (as.map some ++ List.replicate ((inf y).1 - as.length) none) [] σ) := rfl
theorem wpm_mono {d y : Nat} {as : List dX} {σ : dS} {Q Q' : dR → dS → Prop} (h : wpm blk inf d y as σ Q) (hQ : ∀ r σ, Q r σ → Q' r σ) : wpm blk inf d y as σ Q' := wpm_m blk inf d y as σ Q Q' hQ h
theorem iq_0 : inf 0 = (1, false, (0, 0)) := rfl
theorem bq_0 (lb : Nat) : blk 0 lb = bk_0.getD lb [] := rfl
theorem iq_1 : inf 1 = (1, false, (0, 0)) := rfl
theorem bq_1 (lb : Nat) : blk 1 lb = bk_1.getD lb [] := rfl
theorem iq_2 : inf 2 = (2, false, (0, 0)) := rfl
theorem bq_2 (lb : Nat) : blk 2 lb = bk_2.getD lb [] := rfl
theorem iq_3 : inf 3 = (2, false, (0, 0)) := rfl
theorem bq_3 (lb : Nat) : blk 3 lb = bk_3.getD lb [] := rfl
theorem iq_4 : inf 4 = (2, true, (1, 1000)) := rfl
theorem bq_4 (lb : Nat) : blk 4 lb = bk_4.getD lb [] := rfl
theorem iq_5 : inf 5 = (2, false, (0, 0)) := rfl
theorem bq_5 (lb : Nat) : blk 5 lb = bk_5.getD lb [] := rfl
theorem iq_6 : inf 6 = (3, false, (0, 0)) := rfl
theorem bq_6 (lb : Nat) : blk 6 lb = bk_6.getD lb [] := rfl
theorem iq_7 : inf 7 = (3, false, (0, 0)) := rfl
theorem bq_7 (lb : Nat) : blk 7 lb = bk_7.getD lb [] := rfl
theorem iq_8 : inf 8 = (3, false, (0, 0)) := rfl
theorem bq_8 (lb : Nat) : blk 8 lb = bk_8.getD lb [] := rfl
theorem iq_9 : inf 9 = (2, true, (6, 3010)) := rfl
theorem bq_9 (lb : Nat) : blk 9 lb = bk_9.getD lb [] := rfl
theorem iq_10 : inf 10 = (4, false, (0, 0)) := rfl
theorem bq_10 (lb : Nat) : blk 10 lb = bk_10.getD lb [] := rfl
theorem iq_11 : inf 11 = (2, false, (0, 0)) := rfl
theorem bq_11 (lb : Nat) : blk 11 lb = bk_11.getD lb [] := rfl
theorem iq_12 : inf 12 = (2, false, (0, 0)) := rfl
theorem bq_12 (lb : Nat) : blk 12 lb = bk_12.getD lb [] := rfl
theorem iq_13 : inf 13 = (1, true, (6, 6000)) := rfl
theorem bq_13 (lb : Nat) : blk 13 lb = bk_13.getD lb [] := rfl
theorem iq_14 : inf 14 = (1, false, (0, 0)) := rfl
theorem bq_14 (lb : Nat) : blk 14 lb = bk_14.getD lb [] := rfl
theorem iq_15 : inf 15 = (2, false, (0, 0)) := rfl
theorem bq_15 (lb : Nat) : blk 15 lb = bk_15.getD lb [] := rfl
theorem iq_16 : inf 16 = (2, false, (0, 0)) := rfl
theorem bq_16 (lb : Nat) : blk 16 lb = bk_16.getD lb [] := rfl
theorem iq_17 : inf 17 = (1, false, (0, 0)) := rfl
theorem bq_17 (lb : Nat) : blk 17 lb = bk_17.getD lb [] := rfl
theorem iq_18 : inf 18 = (7, false, (0, 0)) := rfl
theorem bq_18 (lb : Nat) : blk 18 lb = bk_18.getD lb [] := rfl
theorem iq_19 : inf 19 = (3, false, (0, 0)) := rfl
theorem bq_19 (lb : Nat) : blk 19 lb = bk_19.getD lb [] := rfl
theorem iq_20 : inf 20 = (1, true, (4, 4000)) := rfl
theorem bq_20 (lb : Nat) : blk 20 lb = bk_20.getD lb [] := rfl
theorem iq_21 : inf 21 = (2, false, (0, 0)) := rfl
theorem bq_21 (lb : Nat) : blk 21 lb = bk_21.getD lb [] := rfl
theorem iq_22 : inf 22 = (2, false, (0, 0)) := rfl
theorem bq_22 (lb : Nat) : blk 22 lb = bk_22.getD lb [] := rfl
theorem iq_23 : inf 23 = (2, false, (0, 0)) := rfl
theorem bq_23 (lb : Nat) : blk 23 lb = bk_23.getD lb [] := rfl
theorem iq_24 : inf 24 = (1, true, (27, 27000)) := rfl
theorem bq_24 (lb : Nat) : blk 24 lb = bk_24.getD lb [] := rfl
theorem iq_25 : inf 25 = (1, false, (0, 0)) := rfl
theorem bq_25 (lb : Nat) : blk 25 lb = bk_25.getD lb [] := rfl
theorem iq_26 : inf 26 = (2, false, (0, 0)) := rfl
theorem bq_26 (lb : Nat) : blk 26 lb = bk_26.getD lb [] := rfl
theorem iq_27 : inf 27 = (4, false, (0, 0)) := rfl
theorem bq_27 (lb : Nat) : blk 27 lb = bk_27.getD lb [] := rfl
theorem iq_28 : inf 28 = (4, false, (0, 0)) := rfl
theorem bq_28 (lb : Nat) : blk 28 lb = bk_28.getD lb [] := rfl
theorem iq_29 : inf 29 = (4, false, (0, 0)) := rfl
theorem bq_29 (lb : Nat) : blk 29 lb = bk_29.getD lb [] := rfl
theorem iq_30 : inf 30 = (4, false, (0, 0)) := rfl
theorem bq_30 (lb : Nat) : blk 30 lb = bk_30.getD lb [] := rfl
theorem iq_31 : inf 31 = (4, false, (0, 0)) := rfl
theorem bq_31 (lb : Nat) : blk 31 lb = bk_31.getD lb [] := rfl
theorem iq_32 : inf 32 = (1, true, (19, 19000)) := rfl
theorem bq_32 (lb : Nat) : blk 32 lb = bk_32.getD lb [] := rfl
theorem iq_33 : inf 33 = (2, false, (0, 0)) := rfl
theorem bq_33 (lb : Nat) : blk 33 lb = bk_33.getD lb [] := rfl
theorem iq_34 : inf 34 = (2, false, (0, 0)) := rfl
theorem bq_34 (lb : Nat) : blk 34 lb = bk_34.getD lb [] := rfl
theorem iq_35 : inf 35 = (3, false, (0, 0)) := rfl
theorem bq_35 (lb : Nat) : blk 35 lb = bk_35.getD lb [] := rfl
theorem iq_36 : inf 36 = (1, true, (6, 6000)) := rfl
theorem bq_36 (lb : Nat) : blk 36 lb = bk_36.getD lb [] := rfl
theorem iq_37 : inf 37 = (6, false, (0, 0)) := rfl
theorem bq_37 (lb : Nat) : blk 37 lb = bk_37.getD lb [] := rfl
theorem iq_38 : inf 38 = (4, false, (0, 0)) := rfl
theorem bq_38 (lb : Nat) : blk 38 lb = bk_38.getD lb [] := rfl
theorem iq_39 : inf 39 = (1, false, (0, 0)) := rfl
theorem bq_39 (lb : Nat) : blk 39 lb = bk_39.getD lb [] := rfl
theorem iq_40 : inf 40 = (1, false, (0, 0)) := rfl
theorem bq_40 (lb : Nat) : blk 40 lb = bk_40.getD lb [] := rfl
theorem iq_41 : inf 41 = (4, false, (0, 0)) := rfl
theorem bq_41 (lb : Nat) : blk 41 lb = bk_41.getD lb [] := rfl
theorem iq_42 : inf 42 = (4, false, (0, 0)) := rfl
theorem bq_42 (lb : Nat) : blk 42 lb = bk_42.getD lb [] := rfl
theorem iq_43 : inf 43 = (5, false, (0, 0)) := rfl
theorem bq_43 (lb : Nat) : blk 43 lb = bk_43.getD lb [] := rfl
theorem iq_44 : inf 44 = (8, false, (0, 0)) := rfl
theorem bq_44 (lb : Nat) : blk 44 lb = bk_44.getD lb [] := rfl
theorem iq_45 : inf 45 = (3, true, (0, 0)) := rfl
theorem bq_45 (lb : Nat) : blk 45 lb = bk_45.getD lb [] := rfl
theorem iq_46 : inf 46 = (2, false, (0, 0)) := rfl
theorem bq_46 (lb : Nat) : blk 46 lb = bk_46.getD lb [] := rfl
theorem iq_47 : inf 47 = (1, false, (0, 0)) := rfl
theorem bq_47 (lb : Nat) : blk 47 lb = bk_47.getD lb [] := rfl
theorem iq_48 : inf 48 = (2, false, (0, 0)) := rfl
theorem bq_48 (lb : Nat) : blk 48 lb = bk_48.getD lb [] := rfl
theorem iq_49 : inf 49 = (2, false, (0, 0)) := rfl
theorem bq_49 (lb : Nat) : blk 49 lb = bk_49.getD lb [] := rfl
theorem iq_50 : inf 50 = (2, false, (0, 0)) := rfl
theorem bq_50 (lb : Nat) : blk 50 lb = bk_50.getD lb [] := rfl
theorem iq_51 : inf 51 = (2, false, (0, 0)) := rfl
theorem bq_51 (lb : Nat) : blk 51 lb = bk_51.getD lb [] := rfl
theorem iq_52 : inf 52 = (4, false, (0, 0)) := rfl
theorem bq_52 (lb : Nat) : blk 52 lb = bk_52.getD lb [] := rfl
theorem iq_53 : inf 53 = (3, false, (0, 0)) := rfl
theorem bq_53 (lb : Nat) : blk 53 lb = bk_53.getD lb [] := rfl
theorem iq_54 : inf 54 = (5, false, (0, 0)) := rfl
theorem bq_54 (lb : Nat) : blk 54 lb = bk_54.getD lb [] := rfl
theorem iq_55 : inf 55 = (5, false, (0, 0)) := rfl
theorem bq_55 (lb : Nat) : blk 55 lb = bk_55.getD lb [] := rfl
theorem iq_56 : inf 56 = (1, false, (0, 0)) := rfl
theorem bq_56 (lb : Nat) : blk 56 lb = bk_56.getD lb [] := rfl
theorem iq_57 : inf 57 = (4, false, (0, 0)) := rfl
theorem bq_57 (lb : Nat) : blk 57 lb = bk_57.getD lb [] := rfl
theorem iq_58 : inf 58 = (2, false, (0, 0)) := rfl
theorem bq_58 (lb : Nat) : blk 58 lb = bk_58.getD lb [] := rfl
theorem iq_59 : inf 59 = (1, false, (0, 0)) := rfl
theorem bq_59 (lb : Nat) : blk 59 lb = bk_59.getD lb [] := rfl
theorem iq_60 : inf 60 = (3, false, (0, 0)) := rfl
theorem bq_60 (lb : Nat) : blk 60 lb = bk_60.getD lb [] := rfl
theorem iq_61 : inf 61 = (3, false, (0, 0)) := rfl
theorem bq_61 (lb : Nat) : blk 61 lb = bk_61.getD lb [] := rfl
theorem iq_62 : inf 62 = (4, false, (0, 0)) := rfl
theorem bq_62 (lb : Nat) : blk 62 lb = bk_62.getD lb [] := rfl
theorem iq_63 : inf 63 = (3, false, (0, 0)) := rfl
theorem bq_63 (lb : Nat) : blk 63 lb = bk_63.getD lb [] := rfl
theorem iq_64 : inf 64 = (4, false, (0, 0)) := rfl
theorem bq_64 (lb : Nat) : blk 64 lb = bk_64.getD lb [] := rfl
theorem iq_65 : inf 65 = (4, false, (0, 0)) := rfl
theorem bq_65 (lb : Nat) : blk 65 lb = bk_65.getD lb [] := rfl
theorem iq_66 : inf 66 = (4, false, (0, 0)) := rfl
theorem bq_66 (lb : Nat) : blk 66 lb = bk_66.getD lb [] := rfl
theorem iq_67 : inf 67 = (2, true, (18, 18000)) := rfl
theorem bq_67 (lb : Nat) : blk 67 lb = bk_67.getD lb [] := rfl
theorem iq_68 : inf 68 = (4, false, (0, 0)) := rfl
theorem bq_68 (lb : Nat) : blk 68 lb = bk_68.getD lb [] := rfl
theorem iq_69 : inf 69 = (4, false, (0, 0)) := rfl
theorem bq_69 (lb : Nat) : blk 69 lb = bk_69.getD lb [] := rfl
theorem iq_70 : inf 70 = (9, false, (0, 0)) := rfl
theorem bq_70 (lb : Nat) : blk 70 lb = bk_70.getD lb [] := rfl
theorem iq_71 : inf 71 = (6, false, (0, 0)) := rfl
theorem bq_71 (lb : Nat) : blk 71 lb = bk_71.getD lb [] := rfl
theorem iq_72 : inf 72 = (6, false, (0, 0)) := rfl
theorem bq_72 (lb : Nat) : blk 72 lb = bk_72.getD lb [] := rfl
theorem iq_73 : inf 73 = (3, false, (0, 0)) := rfl
theorem bq_73 (lb : Nat) : blk 73 lb = bk_73.getD lb [] := rfl
theorem iq_74 : inf 74 = (5, false, (0, 0)) := rfl
theorem bq_74 (lb : Nat) : blk 74 lb = bk_74.getD lb [] := rfl
theorem iq_75 : inf 75 = (6, false, (0, 0)) := rfl
theorem bq_75 (lb : Nat) : blk 75 lb = bk_75.getD lb [] := rfl
theorem iq_76 : inf 76 = (6, false, (0, 0)) := rfl
theorem bq_76 (lb : Nat) : blk 76 lb = bk_76.getD lb [] := rfl
theorem iq_77 : inf 77 = (3, true, (8, 8000)) := rfl
theorem bq_77 (lb : Nat) : blk 77 lb = bk_77.getD lb [] := rfl
theorem iq_78 : inf 78 = (6, false, (0, 0)) := rfl
theorem bq_78 (lb : Nat) : blk 78 lb = bk_78.getD lb [] := rfl
theorem iq_79 : inf 79 = (3, false, (0, 0)) := rfl
theorem bq_79 (lb : Nat) : blk 79 lb = bk_79.getD lb [] := rfl
theorem iq_80 : inf 80 = (3, false, (0, 0)) := rfl
theorem bq_80 (lb : Nat) : blk 80 lb = bk_80.getD lb [] := rfl
theorem iq_81 : inf 81 = (5, false, (0, 0)) := rfl
theorem bq_81 (lb : Nat) : blk 81 lb = bk_81.getD lb [] := rfl
theorem iq_82 : inf 82 = (6, false, (0, 0)) := rfl
theorem bq_82 (lb : Nat) : blk 82 lb = bk_82.getD lb [] := rfl
theorem iq_83 : inf 83 = (5, false, (0, 0)) := rfl
theorem bq_83 (lb : Nat) : blk 83 lb = bk_83.getD lb [] := rfl
theorem iq_84 : inf 84 = (8, false, (0, 0)) := rfl
theorem bq_84 (lb : Nat) : blk 84 lb = bk_84.getD lb [] := rfl
theorem iq_85 : inf 85 = (6, false, (0, 0)) := rfl
theorem bq_85 (lb : Nat) : blk 85 lb = bk_85.getD lb [] := rfl
theorem iq_86 : inf 86 = (8, false, (0, 0)) := rfl
theorem bq_86 (lb : Nat) : blk 86 lb = bk_86.getD lb [] := rfl
theorem iq_87 : inf 87 = (4, false, (0, 0)) := rfl
theorem bq_87 (lb : Nat) : blk 87 lb = bk_87.getD lb [] := rfl
theorem iq_88 : inf 88 = (8, false, (0, 0)) := rfl
theorem bq_88 (lb : Nat) : blk 88 lb = bk_88.getD lb [] := rfl
theorem iq_89 : inf 89 = (4, false, (0, 0)) := rfl
theorem bq_89 (lb : Nat) : blk 89 lb = bk_89.getD lb [] := rfl
theorem iq_90 : inf 90 = (5, false, (0, 0)) := rfl
theorem bq_90 (lb : Nat) : blk 90 lb = bk_90.getD lb [] := rfl
theorem iq_91 : inf 91 = (2, true, (4, 4000)) := rfl
theorem bq_91 (lb : Nat) : blk 91 lb = bk_91.getD lb [] := rfl
theorem iq_92 : inf 92 = (5, false, (0, 0)) := rfl
theorem bq_92 (lb : Nat) : blk 92 lb = bk_92.getD lb [] := rfl
theorem iq_93 : inf 93 = (5, false, (0, 0)) := rfl
theorem bq_93 (lb : Nat) : blk 93 lb = bk_93.getD lb [] := rfl
theorem iq_94 : inf 94 = (5, false, (0, 0)) := rfl
theorem bq_94 (lb : Nat) : blk 94 lb = bk_94.getD lb [] := rfl
theorem iq_95 : inf 95 = (5, false, (0, 0)) := rfl
theorem bq_95 (lb : Nat) : blk 95 lb = bk_95.getD lb [] := rfl
theorem iq_96 : inf 96 = (4, false, (0, 0)) := rfl
theorem bq_96 (lb : Nat) : blk 96 lb = bk_96.getD lb [] := rfl
theorem iq_97 : inf 97 = (1, true, (152, 152000)) := rfl
theorem bq_97 (lb : Nat) : blk 97 lb = bk_97.getD lb [] := rfl
theorem iq_98 : inf 98 = (6, false, (0, 0)) := rfl
theorem bq_98 (lb : Nat) : blk 98 lb = bk_98.getD lb [] := rfl
theorem iq_99 : inf 99 = (3, false, (0, 0)) := rfl
theorem bq_99 (lb : Nat) : blk 99 lb = bk_99.getD lb [] := rfl
theorem iq_100 : inf 100 = (3, false, (1, 6)) := rfl
theorem bq_100 (lb : Nat) : blk 100 lb = bk_100.getD lb [] := rfl
theorem iq_101 : inf 101 = (1, false, (0, 0)) := rfl
theorem bq_101 (lb : Nat) : blk 101 lb = bk_101.getD lb [] := rfl
theorem iq_102 : inf 102 = (2, false, (1, 6)) := rfl
theorem bq_102 (lb : Nat) : blk 102 lb = bk_102.getD lb [] := rfl
theorem iq_103 : inf 103 = (3, false, (2, 12)) := rfl
theorem bq_103 (lb : Nat) : blk 103 lb = bk_103.getD lb [] := rfl
theorem iq_104 : inf 104 = (3, false, (2, 12)) := rfl
theorem bq_104 (lb : Nat) : blk 104 lb = bk_104.getD lb [] := rfl
theorem iq_105 : inf 105 = (3, false, (2, 12)) := rfl
theorem bq_105 (lb : Nat) : blk 105 lb = bk_105.getD lb [] := rfl
theorem iq_106 : inf 106 = (4, false, (2, 12)) := rfl
theorem bq_106 (lb : Nat) : blk 106 lb = bk_106.getD lb [] := rfl
theorem iq_107 : inf 107 = (3, false, (2, 12)) := rfl
theorem bq_107 (lb : Nat) : blk 107 lb = bk_107.getD lb [] := rfl
theorem iq_108 : inf 108 = (3, false, (1, 6)) := rfl
theorem bq_108 (lb : Nat) : blk 108 lb = bk_108.getD lb [] := rfl
theorem iq_109 : inf 109 = (2, false, (1, 6)) := rfl
theorem bq_109 (lb : Nat) : blk 109 lb = bk_109.getD lb [] := rfl
theorem iq_110 : inf 110 = (2, false, (1, 6)) := rfl
theorem bq_110 (lb : Nat) : blk 110 lb = bk_110.getD lb [] := rfl
theorem iq_111 : inf 111 = (2, false, (1, 6)) := rfl
theorem bq_111 (lb : Nat) : blk 111 lb = bk_111.getD lb [] := rfl
theorem iq_112 : inf 112 = (2, false, (0, 0)) := rfl
theorem bq_112 (lb : Nat) : blk 112 lb = bk_112.getD lb [] := rfl
theorem iq_113 : inf 113 = (2, false, (0, 0)) := rfl
theorem bq_113 (lb : Nat) : blk 113 lb = bk_113.getD lb [] := rfl
theorem iq_114 : inf 114 = (3, false, (0, 0)) := rfl
theorem bq_114 (lb : Nat) : blk 114 lb = bk_114.getD lb [] := rfl
theorem iq_115 : inf 115 = (3, false, (0, 0)) := rfl
theorem bq_115 (lb : Nat) : blk 115 lb = bk_115.getD lb [] := rfl
theorem iq_116 : inf 116 = (3, false, (1, 6)) := rfl
theorem bq_116 (lb : Nat) : blk 116 lb = bk_116.getD lb [] := rfl
theorem iq_117 : inf 117 = (4, false, (1, 6)) := rfl
theorem bq_117 (lb : Nat) : blk 117 lb = bk_117.getD lb [] := rfl
theorem iq_118 : inf 118 = (4, false, (1, 6)) := rfl
theorem bq_118 (lb : Nat) : blk 118 lb = bk_118.getD lb [] := rfl
theorem iq_119 : inf 119 = (1, false, (0, 0)) := rfl
theorem bq_119 (lb : Nat) : blk 119 lb = bk_119.getD lb [] := rfl
theorem iq_120 : inf 120 = (2, false, (1, 6)) := rfl
theorem bq_120 (lb : Nat) : blk 120 lb = bk_120.getD lb [] := rfl
theorem iq_121 : inf 121 = (3, false, (1, 6)) := rfl
theorem bq_121 (lb : Nat) : blk 121 lb = bk_121.getD lb [] := rfl
theorem iq_122 : inf 122 = (2, false, (1, 6)) := rfl
theorem bq_122 (lb : Nat) : blk 122 lb = bk_122.getD lb [] := rfl
theorem iq_123 : inf 123 = (2, false, (1, 6)) := rfl
theorem bq_123 (lb : Nat) : blk 123 lb = bk_123.getD lb [] := rfl
theorem iq_124 : inf 124 = (3, false, (0, 0)) := rfl
theorem bq_124 (lb : Nat) : blk 124 lb = bk_124.getD lb [] := rfl
theorem iq_125 : inf 125 = (3, false, (1, 6)) := rfl
theorem bq_125 (lb : Nat) : blk 125 lb = bk_125.getD lb [] := rfl
theorem iq_126 : inf 126 = (2, false, (0, 0)) := rfl
theorem bq_126 (lb : Nat) : blk 126 lb = bk_126.getD lb [] := rfl
theorem iq_127 : inf 127 = (4, false, (1, 6)) := rfl
theorem bq_127 (lb : Nat) : blk 127 lb = bk_127.getD lb [] := rfl
theorem iq_128 : inf 128 = (2, false, (2, 12)) := rfl
theorem bq_128 (lb : Nat) : blk 128 lb = bk_128.getD lb [] := rfl
theorem iq_129 : inf 129 = (5, false, (0, 0)) := rfl
theorem bq_129 (lb : Nat) : blk 129 lb = bk_129.getD lb [] := rfl
theorem iq_130 : inf 130 = (3, false, (0, 0)) := rfl
theorem bq_130 (lb : Nat) : blk 130 lb = bk_130.getD lb [] := rfl
theorem iq_131 : inf 131 = (5, false, (0, 0)) := rfl
theorem bq_131 (lb : Nat) : blk 131 lb = bk_131.getD lb [] := rfl
theorem iq_132 : inf 132 = (4, false, (1, 6)) := rfl
theorem bq_132 (lb : Nat) : blk 132 lb = bk_132.getD lb [] := rfl
theorem iq_133 : inf 133 = (2, false, (1, 6)) := rfl
theorem bq_133 (lb : Nat) : blk 133 lb = bk_133.getD lb [] := rfl
theorem iq_134 : inf 134 = (2, false, (1, 6)) := rfl
theorem bq_134 (lb : Nat) : blk 134 lb = bk_134.getD lb [] := rfl
theorem iq_135 : inf 135 = (3, false, (0, 0)) := rfl
theorem bq_135 (lb : Nat) : blk 135 lb = bk_135.getD lb [] := rfl
theorem iq_136 : inf 136 = (2, false, (0, 0)) := rfl
theorem bq_136 (lb : Nat) : blk 136 lb = bk_136.getD lb [] := rfl
theorem iq_137 : inf 137 = (4, false, (1, 6)) := rfl
theorem bq_137 (lb : Nat) : blk 137 lb = bk_137.getD lb [] := rfl
theorem iq_138 : inf 138 = (1, false, (0, 0)) := rfl
theorem bq_138 (lb : Nat) : blk 138 lb = bk_138.getD lb [] := rfl
theorem iq_139 : inf 139 = (1, false, (0, 0)) := rfl
theorem bq_139 (lb : Nat) : blk 139 lb = bk_139.getD lb [] := rfl
theorem iq_140 : inf 140 = (7, false, (0, 0)) := rfl
theorem bq_140 (lb : Nat) : blk 140 lb = bk_140.getD lb [] := rfl
theorem iq_141 : inf 141 = (3, false, (0, 0)) := rfl
theorem bq_141 (lb : Nat) : blk 141 lb = bk_141.getD lb [] := rfl
theorem iq_142 : inf 142 = (2, false, (0, 0)) := rfl
theorem bq_142 (lb : Nat) : blk 142 lb = bk_142.getD lb [] := rfl
theorem iq_143 : inf 143 = (2, false, (0, 0)) := rfl
theorem bq_143 (lb : Nat) : blk 143 lb = bk_143.getD lb [] := rfl
theorem iq_144 : inf 144 = (5, false, (0, 0)) := rfl
theorem bq_144 (lb : Nat) : blk 144 lb = bk_144.getD lb [] := rfl
theorem iq_145 : inf 145 = (6, false, (1, 6)) := rfl
theorem bq_145 (lb : Nat) : blk 145 lb = bk_145.getD lb [] := rfl
theorem iq_146 : inf 146 = (4, false, (0, 0)) := rfl
theorem bq_146 (lb : Nat) : blk 146 lb = bk_146.getD lb [] := rfl
theorem iq_147 : inf 147 = (3, false, (0, 0)) := rfl
theorem bq_147 (lb : Nat) : blk 147 lb = bk_147.getD lb [] := rfl
theorem iq_148 : inf 148 = (3, false, (0, 0)) := rfl
theorem bq_148 (lb : Nat) : blk 148 lb = bk_148.getD lb [] := rfl
theorem iq_149 : inf 149 = (10, false, (1, 6)) := rfl
theorem bq_149 (lb : Nat) : blk 149 lb = bk_149.getD lb [] := rfl
theorem iq_150 : inf 150 = (4, false, (1, 6)) := rfl
theorem bq_150 (lb : Nat) : blk 150 lb = bk_150.getD lb [] := rfl
theorem iq_151 : inf 151 = (5, false, (0, 0)) := rfl
theorem bq_151 (lb : Nat) : blk 151 lb = bk_151.getD lb [] := rfl
theorem iq_152 : inf 152 = (5, false, (0, 0)) := rfl
theorem bq_152 (lb : Nat) : blk 152 lb = bk_152.getD lb [] := rfl
theorem iq_153 : inf 153 = (4, false, (0, 0)) := rfl
theorem bq_153 (lb : Nat) : blk 153 lb = bk_153.getD lb [] := rfl
theorem iq_154 : inf 154 = (1, false, (0, 0)) := rfl
theorem bq_154 (lb : Nat) : blk 154 lb = bk_154.getD lb [] := rfl
theorem iq_155 : inf 155 = (1, false, (0, 0)) := rfl
theorem bq_155 (lb : Nat) : blk 155 lb = bk_155.getD lb [] := rfl
theorem iq_156 : inf 156 = (1, true, (43, 9566)) := rfl
theorem bq_156 (lb : Nat) : blk 156 lb = bk_156.getD lb [] := rfl
theorem iq_157 : inf 157 = (1, false, (0, 0)) := rfl
theorem bq_157 (lb : Nat) : blk 157 lb = bk_157.getD lb [] := rfl
theorem iq_158 : inf 158 = (3, false, (0, 0)) := rfl
theorem bq_158 (lb : Nat) : blk 158 lb = bk_158.getD lb [] := rfl
theorem iq_159 : inf 159 = (3, false, (0, 0)) := rfl
theorem bq_159 (lb : Nat) : blk 159 lb = bk_159.getD lb [] := rfl
theorem iq_160 : inf 160 = (2, false, (0, 0)) := rfl
theorem bq_160 (lb : Nat) : blk 160 lb = bk_160.getD lb [] := rfl
theorem iq_161 : inf 161 = (4, false, (0, 0)) := rfl
theorem bq_161 (lb : Nat) : blk 161 lb = bk_161.getD lb [] := rfl
theorem iq_162 : inf 162 = (3, false, (0, 0)) := rfl
theorem bq_162 (lb : Nat) : blk 162 lb = bk_162.getD lb [] := rfl
theorem iq_163 : inf 163 = (6, false, (0, 0)) := rfl
theorem bq_163 (lb : Nat) : blk 163 lb = bk_163.getD lb [] := rfl
theorem iq_164 : inf 164 = (3, false, (0, 0)) := rfl
theorem bq_164 (lb : Nat) : blk 164 lb = bk_164.getD lb [] := rfl
theorem iq_165 : inf 165 = (2, false, (0, 0)) := rfl
theorem bq_165 (lb : Nat) : blk 165 lb = bk_165.getD lb [] := rfl
theorem iq_166 : inf 166 = (1, false, (0, 0)) := rfl
theorem bq_166 (lb : Nat) : blk 166 lb = bk_166.getD lb [] := rfl
theorem iq_167 : inf 167 = (1, false, (0, 0)) := rfl
theorem bq_167 (lb : Nat) : blk 167 lb = bk_167.getD lb [] := rfl
theorem iq_168 : inf 168 = (2, false, (0, 0)) := rfl
theorem bq_168 (lb : Nat) : blk 168 lb = bk_168.getD lb [] := rfl
theorem iq_169 : inf 169 = (8, false, (0, 0)) := rfl
theorem bq_169 (lb : Nat) : blk 169 lb = bk_169.getD lb [] := rfl
theorem iq_170 : inf 170 = (1, false, (0, 0)) := rfl
theorem bq_170 (lb : Nat) : blk 170 lb = bk_170.getD lb [] := rfl
theorem iq_171 : inf 171 = (2, false, (0, 0)) := rfl
theorem bq_171 (lb : Nat) : blk 171 lb = bk_171.getD lb [] := rfl
theorem iq_172 : inf 172 = (2, false, (0, 0)) := rfl
theorem bq_172 (lb : Nat) : blk 172 lb = bk_172.getD lb [] := rfl
theorem iq_173 : inf 173 = (1, false, (0, 0)) := rfl
theorem bq_173 (lb : Nat) : blk 173 lb = bk_173.getD lb [] := rfl
theorem iq_174 : inf 174 = (2, false, (0, 0)) := rfl
theorem bq_174 (lb : Nat) : blk 174 lb = bk_174.getD lb [] := rfl
theorem iq_175 : inf 175 = (2, false, (0, 0)) := rfl
theorem bq_175 (lb : Nat) : blk 175 lb = bk_175.getD lb [] := rfl
theorem iq_176 : inf 176 = (4, false, (0, 0)) := rfl
theorem bq_176 (lb : Nat) : blk 176 lb = bk_176.getD lb [] := rfl
theorem iq_177 : inf 177 = (1, false, (0, 0)) := rfl
theorem bq_177 (lb : Nat) : blk 177 lb = bk_177.getD lb [] := rfl
theorem iq_178 : inf 178 = (2, false, (0, 0)) := rfl
theorem bq_178 (lb : Nat) : blk 178 lb = bk_178.getD lb [] := rfl
theorem iq_179 : inf 179 = (2, false, (0, 0)) := rfl
theorem bq_179 (lb : Nat) : blk 179 lb = bk_179.getD lb [] := rfl
theorem iq_180 : inf 180 = (1, false, (0, 0)) := rfl
theorem bq_180 (lb : Nat) : blk 180 lb = bk_180.getD lb [] := rfl
theorem iq_181 : inf 181 = (1, false, (0, 0)) := rfl
theorem bq_181 (lb : Nat) : blk 181 lb = bk_181.getD lb [] := rfl
theorem iq_182 : inf 182 = (2, false, (0, 0)) := rfl
theorem bq_182 (lb : Nat) : blk 182 lb = bk_182.getD lb [] := rfl
theorem iq_183 : inf 183 = (2, false, (0, 0)) := rfl
theorem bq_183 (lb : Nat) : blk 183 lb = bk_183.getD lb [] := rfl
theorem iq_184 : inf 184 = (2, false, (0, 0)) := rfl
theorem bq_184 (lb : Nat) : blk 184 lb = bk_184.getD lb [] := rfl
theorem iq_185 : inf 185 = (1, false, (0, 0)) := rfl
theorem bq_185 (lb : Nat) : blk 185 lb = bk_185.getD lb [] := rfl
theorem iq_186 : inf 186 = (5, false, (0, 0)) := rfl
theorem bq_186 (lb : Nat) : blk 186 lb = bk_186.getD lb [] := rfl
theorem iq_187 : inf 187 = (2, false, (0, 0)) := rfl
theorem bq_187 (lb : Nat) : blk 187 lb = bk_187.getD lb [] := rfl
theorem iq_188 : inf 188 = (1, false, (0, 0)) := rfl
theorem bq_188 (lb : Nat) : blk 188 lb = bk_188.getD lb [] := rfl
theorem iq_189 : inf 189 = (3, false, (0, 0)) := rfl
theorem bq_189 (lb : Nat) : blk 189 lb = bk_189.getD lb [] := rfl
theorem iq_190 : inf 190 = (4, false, (0, 0)) := rfl
theorem bq_190 (lb : Nat) : blk 190 lb = bk_190.getD lb [] := rfl
theorem iq_191 : inf 191 = (5, false, (0, 0)) := rfl
theorem bq_191 (lb : Nat) : blk 191 lb = bk_191.getD lb [] := rfl
theorem iq_192 : inf 192 = (2, false, (0, 0)) := rfl
theorem bq_192 (lb : Nat) : blk 192 lb = bk_192.getD lb [] := rfl
theorem iq_193 : inf 193 = (2, false, (0, 0)) := rfl
theorem bq_193 (lb : Nat) : blk 193 lb = bk_193.getD lb [] := rfl
theorem iq_194 : inf 194 = (3, false, (0, 0)) := rfl
theorem bq_194 (lb : Nat) : blk 194 lb = bk_194.getD lb [] := rfl
theorem iq_195 : inf 195 = (1, false, (0, 0)) := rfl
theorem bq_195 (lb : Nat) : blk 195 lb = bk_195.getD lb [] := rfl
theorem iq_196 : inf 196 = (2, false, (0, 0)) := rfl
theorem bq_196 (lb : Nat) : blk 196 lb = bk_196.getD lb [] := rfl
theorem iq_197 : inf 197 = (4, false, (0, 0)) := rfl
theorem bq_197 (lb : Nat) : blk 197 lb = bk_197.getD lb [] := rfl
theorem iq_198 : inf 198 = (1, false, (0, 0)) := rfl
theorem bq_198 (lb : Nat) : blk 198 lb = bk_198.getD lb [] := rfl
theorem iq_199 : inf 199 = (4, false, (0, 0)) := rfl
theorem bq_199 (lb : Nat) : blk 199 lb = bk_199.getD lb [] := rfl
theorem iq_200 : inf 200 = (3, false, (0, 0)) := rfl
theorem bq_200 (lb : Nat) : blk 200 lb = bk_200.getD lb [] := rfl
theorem iq_201 : inf 201 = (5, false, (0, 0)) := rfl
theorem bq_201 (lb : Nat) : blk 201 lb = bk_201.getD lb [] := rfl
theorem iq_202 : inf 202 = (2, false, (0, 0)) := rfl
theorem bq_202 (lb : Nat) : blk 202 lb = bk_202.getD lb [] := rfl
theorem iq_203 : inf 203 = (4, false, (0, 0)) := rfl
theorem bq_203 (lb : Nat) : blk 203 lb = bk_203.getD lb [] := rfl
theorem iq_204 : inf 204 = (5, false, (0, 0)) := rfl
theorem bq_204 (lb : Nat) : blk 204 lb = bk_204.getD lb [] := rfl
theorem iq_205 : inf 205 = (6, false, (0, 0)) := rfl
theorem bq_205 (lb : Nat) : blk 205 lb = bk_205.getD lb [] := rfl
theorem iq_206 : inf 206 = (5, false, (0, 0)) := rfl
theorem bq_206 (lb : Nat) : blk 206 lb = bk_206.getD lb [] := rfl
theorem iq_207 : inf 207 = (4, false, (0, 0)) := rfl
theorem bq_207 (lb : Nat) : blk 207 lb = bk_207.getD lb [] := rfl
theorem iq_208 : inf 208 = (10, false, (0, 0)) := rfl
theorem bq_208 (lb : Nat) : blk 208 lb = bk_208.getD lb [] := rfl
theorem iq_209 : inf 209 = (4, false, (0, 0)) := rfl
theorem bq_209 (lb : Nat) : blk 209 lb = bk_209.getD lb [] := rfl
theorem iq_210 : inf 210 = (2, false, (0, 0)) := rfl
theorem bq_210 (lb : Nat) : blk 210 lb = bk_210.getD lb [] := rfl
theorem iq_211 : inf 211 = (3, false, (0, 0)) := rfl
theorem bq_211 (lb : Nat) : blk 211 lb = bk_211.getD lb [] := rfl
theorem iq_212 : inf 212 = (2, false, (0, 0)) := rfl
theorem bq_212 (lb : Nat) : blk 212 lb = bk_212.getD lb [] := rfl
theorem iq_213 : inf 213 = (3, false, (0, 0)) := rfl
theorem bq_213 (lb : Nat) : blk 213 lb = bk_213.getD lb [] := rfl
theorem iq_214 : inf 214 = (2, false, (0, 0)) := rfl
theorem bq_214 (lb : Nat) : blk 214 lb = bk_214.getD lb [] := rfl
theorem iq_215 : inf 215 = (2, false, (0, 0)) := rfl
theorem bq_215 (lb : Nat) : blk 215 lb = bk_215.getD lb [] := rfl
theorem iq_216 : inf 216 = (2, false, (0, 0)) := rfl
theorem bq_216 (lb : Nat) : blk 216 lb = bk_216.getD lb [] := rfl
theorem iq_217 : inf 217 = (2, false, (0, 0)) := rfl
theorem bq_217 (lb : Nat) : blk 217 lb = bk_217.getD lb [] := rfl
theorem iq_218 : inf 218 = (3, false, (0, 0)) := rfl
theorem bq_218 (lb : Nat) : blk 218 lb = bk_218.getD lb [] := rfl
theorem iq_219 : inf 219 = (5, false, (0, 0)) := rfl
theorem bq_219 (lb : Nat) : blk 219 lb = bk_219.getD lb [] := rfl
theorem iq_220 : inf 220 = (3, false, (0, 0)) := rfl
theorem bq_220 (lb : Nat) : blk 220 lb = bk_220.getD lb [] := rfl
theorem iq_221 : inf 221 = (7, false, (0, 0)) := rfl
theorem bq_221 (lb : Nat) : blk 221 lb = bk_221.getD lb [] := rfl
theorem iq_222 : inf 222 = (3, false, (0, 0)) := rfl
theorem bq_222 (lb : Nat) : blk 222 lb = bk_222.getD lb [] := rfl
theorem iq_223 : inf 223 = (4, false, (0, 0)) := rfl
theorem bq_223 (lb : Nat) : blk 223 lb = bk_223.getD lb [] := rfl
theorem iq_224 : inf 224 = (3, false, (0, 0)) := rfl
theorem bq_224 (lb : Nat) : blk 224 lb = bk_224.getD lb [] := rfl
theorem iq_225 : inf 225 = (3, false, (0, 0)) := rfl
theorem bq_225 (lb : Nat) : blk 225 lb = bk_225.getD lb [] := rfl
theorem iq_226 : inf 226 = (2, false, (0, 0)) := rfl
theorem bq_226 (lb : Nat) : blk 226 lb = bk_226.getD lb [] := rfl
theorem iq_227 : inf 227 = (2, false, (0, 0)) := rfl
theorem bq_227 (lb : Nat) : blk 227 lb = bk_227.getD lb [] := rfl
theorem iq_228 : inf 228 = (2, false, (0, 0)) := rfl
theorem bq_228 (lb : Nat) : blk 228 lb = bk_228.getD lb [] := rfl
theorem iq_229 : inf 229 = (3, false, (0, 0)) := rfl
theorem bq_229 (lb : Nat) : blk 229 lb = bk_229.getD lb [] := rfl
theorem iq_230 : inf 230 = (3, false, (0, 0)) := rfl
theorem bq_230 (lb : Nat) : blk 230 lb = bk_230.getD lb [] := rfl
theorem iq_231 : inf 231 = (3, false, (0, 0)) := rfl
theorem bq_231 (lb : Nat) : blk 231 lb = bk_231.getD lb [] := rfl
theorem iq_232 : inf 232 = (1, false, (0, 0)) := rfl
theorem bq_232 (lb : Nat) : blk 232 lb = bk_232.getD lb [] := rfl
theorem iq_233 : inf 233 = (2, false, (0, 0)) := rfl
theorem bq_233 (lb : Nat) : blk 233 lb = bk_233.getD lb [] := rfl
theorem iq_234 : inf 234 = (4, false, (0, 0)) := rfl
theorem bq_234 (lb : Nat) : blk 234 lb = bk_234.getD lb [] := rfl
theorem iq_235 : inf 235 = (3, false, (0, 0)) := rfl
theorem bq_235 (lb : Nat) : blk 235 lb = bk_235.getD lb [] := rfl
theorem iq_236 : inf 236 = (4, false, (0, 0)) := rfl
theorem bq_236 (lb : Nat) : blk 236 lb = bk_236.getD lb [] := rfl
theorem iq_237 : inf 237 = (7, false, (0, 0)) := rfl
theorem bq_237 (lb : Nat) : blk 237 lb = bk_237.getD lb [] := rfl
theorem iq_238 : inf 238 = (3, false, (0, 0)) := rfl
theorem bq_238 (lb : Nat) : blk 238 lb = bk_238.getD lb [] := rfl
theorem iq_239 : inf 239 = (4, false, (0, 0)) := rfl
theorem bq_239 (lb : Nat) : blk 239 lb = bk_239.getD lb [] := rfl
theorem iq_240 : inf 240 = (11, false, (0, 0)) := rfl
theorem bq_240 (lb : Nat) : blk 240 lb = bk_240.getD lb [] := rfl
theorem iq_241 : inf 241 = (2, false, (0, 0)) := rfl
theorem bq_241 (lb : Nat) : blk 241 lb = bk_241.getD lb [] := rfl
theorem iq_242 : inf 242 = (11, false, (0, 0)) := rfl
theorem bq_242 (lb : Nat) : blk 242 lb = bk_242.getD lb [] := rfl
theorem iq_243 : inf 243 = (5, false, (0, 0)) := rfl
theorem bq_243 (lb : Nat) : blk 243 lb = bk_243.getD lb [] := rfl
theorem iq_244 : inf 244 = (6, false, (0, 0)) := rfl
theorem bq_244 (lb : Nat) : blk 244 lb = bk_244.getD lb [] := rfl
theorem iq_245 : inf 245 = (8, false, (0, 0)) := rfl
theorem bq_245 (lb : Nat) : blk 245 lb = bk_245.getD lb [] := rfl
theorem iq_246 : inf 246 = (5, false, (0, 0)) := rfl
theorem bq_246 (lb : Nat) : blk 246 lb = bk_246.getD lb [] := rfl
theorem iq_247 : inf 247 = (4, false, (0, 0)) := rfl
theorem bq_247 (lb : Nat) : blk 247 lb = bk_247.getD lb [] := rfl
theorem iq_248 : inf 248 = (2, false, (0, 0)) := rfl
theorem bq_248 (lb : Nat) : blk 248 lb = bk_248.getD lb [] := rfl
theorem iq_249 : inf 249 = (3, false, (0, 0)) := rfl
theorem bq_249 (lb : Nat) : blk 249 lb = bk_249.getD lb [] := rfl
theorem iq_250 : inf 250 = (5, false, (0, 0)) := rfl
theorem bq_250 (lb : Nat) : blk 250 lb = bk_250.getD lb [] := rfl
theorem iq_251 : inf 251 = (6, false, (0, 0)) := rfl
theorem bq_251 (lb : Nat) : blk 251 lb = bk_251.getD lb [] := rfl
theorem iq_252 : inf 252 = (9, false, (0, 0)) := rfl
theorem bq_252 (lb : Nat) : blk 252 lb = bk_252.getD lb [] := rfl
theorem iq_253 : inf 253 = (1, false, (0, 0)) := rfl
theorem bq_253 (lb : Nat) : blk 253 lb = bk_253.getD lb [] := rfl
theorem iq_254 : inf 254 = (1, false, (0, 0)) := rfl
theorem bq_254 (lb : Nat) : blk 254 lb = bk_254.getD lb [] := rfl
theorem iq_255 : inf 255 = (3, false, (0, 0)) := rfl
theorem bq_255 (lb : Nat) : blk 255 lb = bk_255.getD lb [] := rfl
theorem iq_256 : inf 256 = (4, false, (0, 0)) := rfl
theorem bq_256 (lb : Nat) : blk 256 lb = bk_256.getD lb [] := rfl
theorem iq_257 : inf 257 = (1, false, (0, 0)) := rfl
theorem bq_257 (lb : Nat) : blk 257 lb = bk_257.getD lb [] := rfl
theorem iq_258 : inf 258 = (3, false, (0, 0)) := rfl
theorem bq_258 (lb : Nat) : blk 258 lb = bk_258.getD lb [] := rfl
theorem iq_259 : inf 259 = (4, false, (0, 0)) := rfl
theorem bq_259 (lb : Nat) : blk 259 lb = bk_259.getD lb [] := rfl
theorem iq_260 : inf 260 = (8, false, (0, 0)) := rfl
theorem bq_260 (lb : Nat) : blk 260 lb = bk_260.getD lb [] := rfl
theorem iq_261 : inf 261 = (4, false, (0, 0)) := rfl
theorem bq_261 (lb : Nat) : blk 261 lb = bk_261.getD lb [] := rfl
theorem iq_262 : inf 262 = (5, false, (0, 0)) := rfl
theorem bq_262 (lb : Nat) : blk 262 lb = bk_262.getD lb [] := rfl
theorem iq_263 : inf 263 = (8, false, (0, 0)) := rfl
theorem bq_263 (lb : Nat) : blk 263 lb = bk_263.getD lb [] := rfl
theorem iq_264 : inf 264 = (10, false, (0, 0)) := rfl
theorem bq_264 (lb : Nat) : blk 264 lb = bk_264.getD lb [] := rfl
theorem iq_265 : inf 265 = (1, false, (0, 0)) := rfl
theorem bq_265 (lb : Nat) : blk 265 lb = bk_265.getD lb [] := rfl
theorem iq_266 : inf 266 = (1, false, (0, 0)) := rfl
theorem bq_266 (lb : Nat) : blk 266 lb = bk_266.getD lb [] := rfl
