/-! bf: pure functions, printed by wip/whole/gen.py out of the bytecode, and their walks -/
def b_X4_isOneThingOnce_101 (v3 : Int32) (v4 : Int32) (s0 : Int32) (s1 : Bool) : Option (Bool) := (if s0 = (bI s1) then (if v4 = 1 then (if v3 = 1 then some true else some false) else (if v3 = 0 then some true else some false)) else some false)
def f_X4_isOneThingOnce (lx : RS) (q0 : RS) (u0 : RS) (q1 : RS) (u1 : RS) (q2 : RS) (u2 : RS) (q3 : RS) (u3 : RS) (p1 : Int32) : Option (Bool) := ((f_X3_count 48 q0 p1).bind fun g2 => ((f_X3_count 120 u0 p1).bind fun g3 => ((f_X3_count 48 q1 p1).bind fun g5 => ((f_X3_count 120 u1 p1).bind fun g6 => ((f_X3_count 48 q2 p1).bind fun g8 => ((f_X3_count 120 u2 p1).bind fun g9 => ((f_X3_count 48 q3 p1).bind fun g11 => ((f_X3_count 120 u3 p1).bind fun g12 => ((f_X3_get 120 lx p1).bind fun g14 => ((f_X4_isIn g14 0 2).bind fun g15 => (if (bI g15) = 0 then some false else (if g14 = 0 then b_X4_isOneThingOnce_101 ((((0 + g3) + g6) + g9) + g12) g14 ((((0 + g2) + g5) + g8) + g11) true else b_X4_isOneThingOnce_101 ((((0 + g3) + g6) + g9) + g12) g14 ((((0 + g2) + g5) + g8) + g11) false))))))))))))
abbrev r_X4_isOneThingOnce : Room := { frames := 4, cells := 0, slots := 0, locals := 85 }
theorem m_X4_isOneThingOnce_0 : Cond.fieldLink RX4 18 "Bookinghouse" "houses" "[LBookinghouse$House;" ∈ wsX4_isOneThingOnce := by decide +kernel
theorem i_X4_isOneThingOnce_X4 : ∀ w ∈ wsX40, w ∈ wsX4_isOneThingOnce := by decide +kernel
theorem i_X4_isOneThingOnce_X1 : ∀ w ∈ wsX10, w ∈ wsX4_isOneThingOnce := by decide +kernel
theorem m_X4_isOneThingOnce_3 : Cond.fieldLink RX4 10 "Bookinghouse" "ledger" "LBookinghouse$Ledger;" ∈ wsX4_isOneThingOnce := by decide +kernel
theorem i_X4_isOneThingOnce_X2 : ∀ w ∈ wsX20, w ∈ wsX4_isOneThingOnce := by decide +kernel
set_option maxHeartbeats 4000000 in
set_option maxRecDepth 100000 in
theorem v_X4_isOneThingOnce_101 {E : gE} {X : gX} {a : Nat → Nat} {lt : RS} {ls : RS} {lw : RS} {lh : RS} {lx : RS} {z0 : Int32} {q0 : RS} {u0 : RS} {t0 : RS} {c0 : RS} {z1 : Int32} {q1 : RS} {u1 : RS} {t1 : RS} {c1 : RS} {z2 : Int32} {q2 : RS} {u2 : RS} {t2 : RS} {c2 : RS} {z3 : Int32} {q3 : RS} {u3 : RS} {t3 : RS} {c3 : RS} {v3 : Int32} {v4 : Int32} {s0 : Int32} {s1 : Bool} {o : (Bool)} (C : Cx E X cX4_isOneThingOnce 8 RX4 wsX4_isOneThingOnce r_X4_isOneThingOnce ((some .boolean)) []) (hQ : gQ E X (wB E a ++ (wX2 E a 2 lt ls lw lh lx ++ (wX1 E a 18 0 z0 q0 u0 t0 c0 ++ (wX1 E a 28 1 z1 q1 u1 t1 c1 ++ (wX1 E a 38 2 z2 q2 u2 t2 c2 ++ (wX1 E a 48 3 z3 q3 u3 t3 c3 ++ wA E a)))))) r_X4_isOneThingOnce (gO (fun u9 => some (.int (bI u9))) (fun u9 => (wB E a ++ (wX2 E a 2 lt ls lw lh lx ++ (wX1 E a 18 0 z0 q0 u0 t0 c0 ++ (wX1 E a 28 1 z1 q1 u1 t1 c1 ++ (wX1 E a 38 2 z2 q2 u2 t2 c2 ++ (wX1 E a 48 3 z3 q3 u3 t3 c3 ++ wA E a))))))) (.inr o))) (h : b_X4_isOneThingOnce_101 v3 v4 s0 s1 = some o) : Gx E X (wB E a ++ (wX2 E a 2 lt ls lw lh lx ++ (wX1 E a 18 0 z0 q0 u0 t0 c0 ++ (wX1 E a 28 1 z1 q1 u1 t1 c1 ++ (wX1 E a 38 2 z2 q2 u2 t2 c2 ++ (wX1 E a 48 3 z3 q3 u3 t3 c3 ++ wA E a)))))) 8 [(3, .int v3), (4, .int v4)] [.int (bI s1), .int s0] 101 0 0 := by
  rw [b_X4_isOneThingOnce_101] at h
  refine g_icmp_ne C (tgt := 123) dX4_isOneThingOnce_101 (by decide) (fun cd1 => ?_) (fun cd1 => ?_)
  · replace h := (if_neg cd1).symm.trans h
    refine g_iconst C (v := 0) (by decide) dX4_isOneThingOnce_123 ?_
    obtain rfl := Option.some.inj h
    exact g_zret C hQ rfl rfl ⟨by decide, by decide⟩ dX4_isOneThingOnce_124
  · replace h := (if_pos cd1).symm.trans h
    refine g_iload_n C 0 rfl rfl dX4_isOneThingOnce_104 ?_
    refine g_iload C 1 rfl dX4_isOneThingOnce_105 ?_
    refine g_iconst C (v := 1) (by decide) dX4_isOneThingOnce_107 ?_
    refine g_icmp_ne C (tgt := 115) dX4_isOneThingOnce_108 (by decide) (fun cd2 => ?_) (fun cd2 => ?_)
    · replace h := (if_neg cd2).symm.trans h
      refine g_iconst C (v := 0) (by decide) dX4_isOneThingOnce_115 ?_
      refine g_icmp_ne C (tgt := 123) dX4_isOneThingOnce_116 (by decide) (fun cd3 => ?_) (fun cd3 => ?_)
      · replace h := (if_neg cd3).symm.trans h
        refine g_iconst C (v := 0) (by decide) dX4_isOneThingOnce_123 ?_
        obtain rfl := Option.some.inj h
        exact g_zret C hQ rfl rfl ⟨by decide, by decide⟩ dX4_isOneThingOnce_124
      · replace h := (if_pos cd3).symm.trans h
        refine g_iconst C (v := 1) (by decide) dX4_isOneThingOnce_119 ?_
        refine g_goto C (tgt := 124) dX4_isOneThingOnce_120 (by decide) ?_
        obtain rfl := Option.some.inj h
        exact g_zret C hQ rfl rfl ⟨by decide, by decide⟩ dX4_isOneThingOnce_124
    · replace h := (if_pos cd2).symm.trans h
      refine g_iconst C (v := 1) (by decide) dX4_isOneThingOnce_111 ?_
      refine g_goto C (tgt := 116) dX4_isOneThingOnce_112 (by decide) ?_
      refine g_icmp_ne C (tgt := 123) dX4_isOneThingOnce_116 (by decide) (fun cd4 => ?_) (fun cd4 => ?_)
      · replace h := (if_neg cd4).symm.trans h
        refine g_iconst C (v := 0) (by decide) dX4_isOneThingOnce_123 ?_
        obtain rfl := Option.some.inj h
        exact g_zret C hQ rfl rfl ⟨by decide, by decide⟩ dX4_isOneThingOnce_124
      · replace h := (if_pos cd4).symm.trans h
        refine g_iconst C (v := 1) (by decide) dX4_isOneThingOnce_119 ?_
        refine g_goto C (tgt := 124) dX4_isOneThingOnce_120 (by decide) ?_
        obtain rfl := Option.some.inj h
        exact g_zret C hQ rfl rfl ⟨by decide, by decide⟩ dX4_isOneThingOnce_124
set_option maxHeartbeats 4000000 in
set_option maxRecDepth 100000 in
theorem c_X4_isOneThingOnce (E : gE) (a : Nat → Nat) (lt : RS) (ls : RS) (lw : RS) (lh : RS) (lx : RS) (z0 : Int32) (q0 : RS) (u0 : RS) (t0 : RS) (c0 : RS) (z1 : Int32) (q1 : RS) (u1 : RS) (t1 : RS) (c1 : RS) (z2 : Int32) (q2 : RS) (u2 : RS) (t2 : RS) (c2 : RS) (z3 : Int32) (q3 : RS) (u3 : RS) (t3 : RS) (c3 : RS) (p1 : Int32) (o : (Bool)) (h : f_X4_isOneThingOnce lx q0 u0 q1 u1 q2 u2 q3 u3 p1 = some o) : Ct E yX4_isOneThingOnce wsX4_isOneThingOnce r_X4_isOneThingOnce [.ref (a 0), .int p1] (wB E a ++ (wX2 E a 2 lt ls lw lh lx ++ (wX1 E a 18 0 z0 q0 u0 t0 c0 ++ (wX1 E a 28 1 z1 q1 u1 t1 c1 ++ (wX1 E a 38 2 z2 q2 u2 t2 c2 ++ (wX1 E a 48 3 z3 q3 u3 t3 c3 ++ wA E a)))))) (gO (fun u9 => some (.int (bI u9))) (fun u9 => (wB E a ++ (wX2 E a 2 lt ls lw lh lx ++ (wX1 E a 18 0 z0 q0 u0 t0 c0 ++ (wX1 E a 28 1 z1 q1 u1 t1 c1 ++ (wX1 E a 38 2 z2 q2 u2 t2 c2 ++ (wX1 E a 48 3 z3 q3 u3 t3 c3 ++ wA E a))))))) (.inr o)) := by
  refine Ct.of (cc := cX4_isOneThingOnce) (nL := 8) (ret := ((some .boolean))) (own := RX4) (by decide) rfl rfl (Nat.le_of_ble_eq_true rfl) rfl ?_ ?_
  · intro v w1 hh
    cases hh; rfl
  · intro X C hQ
    rw [f_X4_isOneThingOnce] at h
    refine g_iconst C (v := 0) (by decide) dX4_isOneThingOnce_0 ?_
    refine g_istore_n C (lv2 := [(2, .int 0), (0, .ref (a 0)), (1, .int p1)]) rfl (by decide) rfl dX4_isOneThingOnce_1 ?_
    refine g_iconst C (v := 0) (by decide) dX4_isOneThingOnce_2 ?_
    refine g_istore_n C (lv2 := [(3, .int 0), (2, .int 0), (0, .ref (a 0)), (1, .int p1)]) rfl (by decide) rfl dX4_isOneThingOnce_3 ?_
    refine g_aload_n C 2 rfl rfl dX4_isOneThingOnce_4 ?_
    refine g_X4_houses C i_X4_isOneThingOnce_X4 m_X4_isOneThingOnce_0 0 rfl dX4_isOneThingOnce_5 ?_
    refine g_astore C (lv2 := [(4, .ref (a 1)), (3, .int 0), (2, .int 0), (0, .ref (a 0)), (1, .int p1)]) rfl (by decide) dX4_isOneThingOnce_8 ?_
    refine g_aload C 0 rfl dX4_isOneThingOnce_10 ?_
    refine g_alen4 C 52 rfl dX4_isOneThingOnce_12 ?_
    refine g_istore C (lv2 := [(5, .int 4), (4, .ref (a 1)), (3, .int 0), (2, .int 0), (0, .ref (a 0)), (1, .int p1)]) rfl (by decide) dX4_isOneThingOnce_13 ?_
    refine g_iconst C (v := 0) (by decide) dX4_isOneThingOnce_15 ?_
    refine g_istore C (lv2 := [(6, .int 0), (5, .int 4), (4, .ref (a 1)), (3, .int 0), (2, .int 0), (0, .ref (a 0)), (1, .int p1)]) rfl (by decide) dX4_isOneThingOnce_16 ?_
    refine g_iload C 0 rfl dX4_isOneThingOnce_18 ?_
    refine g_iload C 1 rfl dX4_isOneThingOnce_20 ?_
    refine g_icmp_ge C (tgt := 67) dX4_isOneThingOnce_22 (by decide) (fun cd1 => absurd cd1 (by decide)) (fun cd1 => ?_)
    refine g_aload C 2 rfl dX4_isOneThingOnce_25 ?_
    refine g_iload C 0 rfl dX4_isOneThingOnce_27 ?_
    refine g_aald4 C (a9 := (a 18)) 52 rfl (inB_in (by decide +kernel)) rfl dX4_isOneThingOnce_29 ?_
    refine g_astore C (lv2 := [(7, .ref (a 18)), (6, .int 0), (5, .int 4), (4, .ref (a 1)), (3, .int 0), (2, .int 0), (0, .ref (a 0)), (1, .int p1)]) rfl (by decide) dX4_isOneThingOnce_30 ?_
    refine g_aload C 0 rfl dX4_isOneThingOnce_32 ?_
    refine g_ifnull C dX4_isOneThingOnce_34 ?_
    refine g_iload_n C 5 rfl rfl dX4_isOneThingOnce_37 ?_
    refine g_aload C 0 rfl dX4_isOneThingOnce_38 ?_
    refine g_X1_queueN C i_X4_isOneThingOnce_X1 (by decide +kernel) 12 rfl dX4_isOneThingOnce_40 ?_
    refine g_iload_n C 7 rfl rfl dX4_isOneThingOnce_43 ?_
    obtain ⟨g2, eg2, h⟩ := Option.bind_eq_some_iff.mp h
    refine g_cVr (As := [.int p1]) (n9 := 1) (st := [.int 0]) (w2 := (wB E a ++ (wX2 E a 2 lt ls lw lh lx ++ (wX1 E a 18 0 z0 q0 u0 t0 c0 ++ (wX1 E a 28 1 z1 q1 u1 t1 c1 ++ (wX1 E a 38 2 z2 q2 u2 t2 c2 ++ (wX1 E a 48 3 z3 q3 u3 t3 c3 ++ wA E a))))))) C (c_X3_count E (a 19) (a 20) 48 q0 p1 g2 eg2) gX4_isOneThingOnce_X3_count rfl (by decide +kernel) rfl ⟨by decide, by decide, by decide, by decide, Nat.le_of_ble_eq_true rfl⟩ 0 rfl rfl (gSub.idx [13, 14] rfl rfl) rfl dX4_isOneThingOnce_44 ?_
    refine g_iadd C dX4_isOneThingOnce_47 ?_
    refine g_istore_n C (lv2 := [(2, .int (0 + g2)), (7, .ref (a 18)), (6, .int 0), (5, .int 4), (4, .ref (a 1)), (3, .int 0), (0, .ref (a 0)), (1, .int p1)]) rfl (by decide) rfl dX4_isOneThingOnce_48 ?_
    refine g_iload_n C 5 rfl rfl dX4_isOneThingOnce_49 ?_
    refine g_aload C 1 rfl dX4_isOneThingOnce_50 ?_
    refine g_X1_pastN C i_X4_isOneThingOnce_X1 (by decide +kernel) 12 rfl dX4_isOneThingOnce_52 ?_
    refine g_iload_n C 7 rfl rfl dX4_isOneThingOnce_55 ?_
    obtain ⟨g3, eg3, h⟩ := Option.bind_eq_some_iff.mp h
    refine g_cVr (As := [.int p1]) (n9 := 1) (st := [.int 0]) (w2 := (wB E a ++ (wX2 E a 2 lt ls lw lh lx ++ (wX1 E a 18 0 z0 q0 u0 t0 c0 ++ (wX1 E a 28 1 z1 q1 u1 t1 c1 ++ (wX1 E a 38 2 z2 q2 u2 t2 c2 ++ (wX1 E a 48 3 z3 q3 u3 t3 c3 ++ wA E a))))))) C (c_X3_count E (a 21) (a 22) 120 u0 p1 g3 eg3) gX4_isOneThingOnce_X3_count rfl (by decide +kernel) rfl ⟨by decide, by decide, by decide, by decide, Nat.le_of_ble_eq_true rfl⟩ 0 rfl rfl (gSub.idx [15, 16] rfl rfl) rfl dX4_isOneThingOnce_56 ?_
    refine g_iadd C dX4_isOneThingOnce_59 ?_
    refine g_istore_n C (lv2 := [(3, .int (0 + g3)), (2, .int (0 + g2)), (7, .ref (a 18)), (6, .int 0), (5, .int 4), (4, .ref (a 1)), (0, .ref (a 0)), (1, .int p1)]) rfl (by decide) rfl dX4_isOneThingOnce_60 ?_
    refine g_iinc C (v := 1) 3 rfl rfl (lv2 := [(6, .int 1), (3, .int (0 + g3)), (2, .int (0 + g2)), (7, .ref (a 18)), (5, .int 4), (4, .ref (a 1)), (0, .ref (a 0)), (1, .int p1)]) rfl (by decide) dX4_isOneThingOnce_61 ?_
    refine g_goto C (tgt := 18) dX4_isOneThingOnce_64 (by decide) ?_
    refine g_iload C 0 rfl dX4_isOneThingOnce_18 ?_
    refine g_iload C 4 rfl dX4_isOneThingOnce_20 ?_
    refine g_icmp_ge C (tgt := 67) dX4_isOneThingOnce_22 (by decide) (fun cd4 => absurd cd4 (by decide)) (fun cd4 => ?_)
    refine g_aload C 5 rfl dX4_isOneThingOnce_25 ?_
    refine g_iload C 0 rfl dX4_isOneThingOnce_27 ?_
    refine g_aald4 C (a9 := (a 28)) 52 rfl (inB_in (by decide +kernel)) rfl dX4_isOneThingOnce_29 ?_
    refine g_astore C (lv2 := [(7, .ref (a 28)), (6, .int 1), (3, .int (0 + g3)), (2, .int (0 + g2)), (5, .int 4), (4, .ref (a 1)), (0, .ref (a 0)), (1, .int p1)]) rfl (by decide) dX4_isOneThingOnce_30 ?_
    refine g_aload C 0 rfl dX4_isOneThingOnce_32 ?_
    refine g_ifnull C dX4_isOneThingOnce_34 ?_
    refine g_iload_n C 3 rfl rfl dX4_isOneThingOnce_37 ?_
    refine g_aload C 0 rfl dX4_isOneThingOnce_38 ?_
    refine g_X1_queueN C i_X4_isOneThingOnce_X1 (by decide +kernel) 22 rfl dX4_isOneThingOnce_40 ?_
    refine g_iload_n C 7 rfl rfl dX4_isOneThingOnce_43 ?_
    obtain ⟨g5, eg5, h⟩ := Option.bind_eq_some_iff.mp h
    refine g_cVr (As := [.int p1]) (n9 := 1) (st := [.int (0 + g2)]) (w2 := (wB E a ++ (wX2 E a 2 lt ls lw lh lx ++ (wX1 E a 18 0 z0 q0 u0 t0 c0 ++ (wX1 E a 28 1 z1 q1 u1 t1 c1 ++ (wX1 E a 38 2 z2 q2 u2 t2 c2 ++ (wX1 E a 48 3 z3 q3 u3 t3 c3 ++ wA E a))))))) C (c_X3_count E (a 29) (a 30) 48 q1 p1 g5 eg5) gX4_isOneThingOnce_X3_count rfl (by decide +kernel) rfl ⟨by decide, by decide, by decide, by decide, Nat.le_of_ble_eq_true rfl⟩ 0 rfl rfl (gSub.idx [23, 24] rfl rfl) rfl dX4_isOneThingOnce_44 ?_
    refine g_iadd C dX4_isOneThingOnce_47 ?_
    refine g_istore_n C (lv2 := [(2, .int ((0 + g2) + g5)), (7, .ref (a 28)), (6, .int 1), (3, .int (0 + g3)), (5, .int 4), (4, .ref (a 1)), (0, .ref (a 0)), (1, .int p1)]) rfl (by decide) rfl dX4_isOneThingOnce_48 ?_
    refine g_iload_n C 3 rfl rfl dX4_isOneThingOnce_49 ?_
    refine g_aload C 1 rfl dX4_isOneThingOnce_50 ?_
    refine g_X1_pastN C i_X4_isOneThingOnce_X1 (by decide +kernel) 22 rfl dX4_isOneThingOnce_52 ?_
    refine g_iload_n C 7 rfl rfl dX4_isOneThingOnce_55 ?_
    obtain ⟨g6, eg6, h⟩ := Option.bind_eq_some_iff.mp h
    refine g_cVr (As := [.int p1]) (n9 := 1) (st := [.int (0 + g3)]) (w2 := (wB E a ++ (wX2 E a 2 lt ls lw lh lx ++ (wX1 E a 18 0 z0 q0 u0 t0 c0 ++ (wX1 E a 28 1 z1 q1 u1 t1 c1 ++ (wX1 E a 38 2 z2 q2 u2 t2 c2 ++ (wX1 E a 48 3 z3 q3 u3 t3 c3 ++ wA E a))))))) C (c_X3_count E (a 31) (a 32) 120 u1 p1 g6 eg6) gX4_isOneThingOnce_X3_count rfl (by decide +kernel) rfl ⟨by decide, by decide, by decide, by decide, Nat.le_of_ble_eq_true rfl⟩ 0 rfl rfl (gSub.idx [25, 26] rfl rfl) rfl dX4_isOneThingOnce_56 ?_
    refine g_iadd C dX4_isOneThingOnce_59 ?_
    refine g_istore_n C (lv2 := [(3, .int ((0 + g3) + g6)), (2, .int ((0 + g2) + g5)), (7, .ref (a 28)), (6, .int 1), (5, .int 4), (4, .ref (a 1)), (0, .ref (a 0)), (1, .int p1)]) rfl (by decide) rfl dX4_isOneThingOnce_60 ?_
    refine g_iinc C (v := 2) 3 rfl rfl (lv2 := [(6, .int 2), (3, .int ((0 + g3) + g6)), (2, .int ((0 + g2) + g5)), (7, .ref (a 28)), (5, .int 4), (4, .ref (a 1)), (0, .ref (a 0)), (1, .int p1)]) rfl (by decide) dX4_isOneThingOnce_61 ?_
    refine g_goto C (tgt := 18) dX4_isOneThingOnce_64 (by decide) ?_
    refine g_iload C 0 rfl dX4_isOneThingOnce_18 ?_
    refine g_iload C 4 rfl dX4_isOneThingOnce_20 ?_
    refine g_icmp_ge C (tgt := 67) dX4_isOneThingOnce_22 (by decide) (fun cd7 => absurd cd7 (by decide)) (fun cd7 => ?_)
    refine g_aload C 5 rfl dX4_isOneThingOnce_25 ?_
    refine g_iload C 0 rfl dX4_isOneThingOnce_27 ?_
    refine g_aald4 C (a9 := (a 38)) 52 rfl (inB_in (by decide +kernel)) rfl dX4_isOneThingOnce_29 ?_
    refine g_astore C (lv2 := [(7, .ref (a 38)), (6, .int 2), (3, .int ((0 + g3) + g6)), (2, .int ((0 + g2) + g5)), (5, .int 4), (4, .ref (a 1)), (0, .ref (a 0)), (1, .int p1)]) rfl (by decide) dX4_isOneThingOnce_30 ?_
    refine g_aload C 0 rfl dX4_isOneThingOnce_32 ?_
    refine g_ifnull C dX4_isOneThingOnce_34 ?_
    refine g_iload_n C 3 rfl rfl dX4_isOneThingOnce_37 ?_
    refine g_aload C 0 rfl dX4_isOneThingOnce_38 ?_
    refine g_X1_queueN C i_X4_isOneThingOnce_X1 (by decide +kernel) 32 rfl dX4_isOneThingOnce_40 ?_
    refine g_iload_n C 7 rfl rfl dX4_isOneThingOnce_43 ?_
    obtain ⟨g8, eg8, h⟩ := Option.bind_eq_some_iff.mp h
    refine g_cVr (As := [.int p1]) (n9 := 1) (st := [.int ((0 + g2) + g5)]) (w2 := (wB E a ++ (wX2 E a 2 lt ls lw lh lx ++ (wX1 E a 18 0 z0 q0 u0 t0 c0 ++ (wX1 E a 28 1 z1 q1 u1 t1 c1 ++ (wX1 E a 38 2 z2 q2 u2 t2 c2 ++ (wX1 E a 48 3 z3 q3 u3 t3 c3 ++ wA E a))))))) C (c_X3_count E (a 39) (a 40) 48 q2 p1 g8 eg8) gX4_isOneThingOnce_X3_count rfl (by decide +kernel) rfl ⟨by decide, by decide, by decide, by decide, Nat.le_of_ble_eq_true rfl⟩ 0 rfl rfl (gSub.idx [33, 34] rfl rfl) rfl dX4_isOneThingOnce_44 ?_
    refine g_iadd C dX4_isOneThingOnce_47 ?_
    refine g_istore_n C (lv2 := [(2, .int (((0 + g2) + g5) + g8)), (7, .ref (a 38)), (6, .int 2), (3, .int ((0 + g3) + g6)), (5, .int 4), (4, .ref (a 1)), (0, .ref (a 0)), (1, .int p1)]) rfl (by decide) rfl dX4_isOneThingOnce_48 ?_
    refine g_iload_n C 3 rfl rfl dX4_isOneThingOnce_49 ?_
    refine g_aload C 1 rfl dX4_isOneThingOnce_50 ?_
    refine g_X1_pastN C i_X4_isOneThingOnce_X1 (by decide +kernel) 32 rfl dX4_isOneThingOnce_52 ?_
    refine g_iload_n C 7 rfl rfl dX4_isOneThingOnce_55 ?_
    obtain ⟨g9, eg9, h⟩ := Option.bind_eq_some_iff.mp h
    refine g_cVr (As := [.int p1]) (n9 := 1) (st := [.int ((0 + g3) + g6)]) (w2 := (wB E a ++ (wX2 E a 2 lt ls lw lh lx ++ (wX1 E a 18 0 z0 q0 u0 t0 c0 ++ (wX1 E a 28 1 z1 q1 u1 t1 c1 ++ (wX1 E a 38 2 z2 q2 u2 t2 c2 ++ (wX1 E a 48 3 z3 q3 u3 t3 c3 ++ wA E a))))))) C (c_X3_count E (a 41) (a 42) 120 u2 p1 g9 eg9) gX4_isOneThingOnce_X3_count rfl (by decide +kernel) rfl ⟨by decide, by decide, by decide, by decide, Nat.le_of_ble_eq_true rfl⟩ 0 rfl rfl (gSub.idx [35, 36] rfl rfl) rfl dX4_isOneThingOnce_56 ?_
    refine g_iadd C dX4_isOneThingOnce_59 ?_
    refine g_istore_n C (lv2 := [(3, .int (((0 + g3) + g6) + g9)), (2, .int (((0 + g2) + g5) + g8)), (7, .ref (a 38)), (6, .int 2), (5, .int 4), (4, .ref (a 1)), (0, .ref (a 0)), (1, .int p1)]) rfl (by decide) rfl dX4_isOneThingOnce_60 ?_
    refine g_iinc C (v := 3) 3 rfl rfl (lv2 := [(6, .int 3), (3, .int (((0 + g3) + g6) + g9)), (2, .int (((0 + g2) + g5) + g8)), (7, .ref (a 38)), (5, .int 4), (4, .ref (a 1)), (0, .ref (a 0)), (1, .int p1)]) rfl (by decide) dX4_isOneThingOnce_61 ?_
    refine g_goto C (tgt := 18) dX4_isOneThingOnce_64 (by decide) ?_
    refine g_iload C 0 rfl dX4_isOneThingOnce_18 ?_
    refine g_iload C 4 rfl dX4_isOneThingOnce_20 ?_
    refine g_icmp_ge C (tgt := 67) dX4_isOneThingOnce_22 (by decide) (fun cd10 => absurd cd10 (by decide)) (fun cd10 => ?_)
    refine g_aload C 5 rfl dX4_isOneThingOnce_25 ?_
    refine g_iload C 0 rfl dX4_isOneThingOnce_27 ?_
    refine g_aald4 C (a9 := (a 48)) 52 rfl (inB_in (by decide +kernel)) rfl dX4_isOneThingOnce_29 ?_
    refine g_astore C (lv2 := [(7, .ref (a 48)), (6, .int 3), (3, .int (((0 + g3) + g6) + g9)), (2, .int (((0 + g2) + g5) + g8)), (5, .int 4), (4, .ref (a 1)), (0, .ref (a 0)), (1, .int p1)]) rfl (by decide) dX4_isOneThingOnce_30 ?_
    refine g_aload C 0 rfl dX4_isOneThingOnce_32 ?_
    refine g_ifnull C dX4_isOneThingOnce_34 ?_
    refine g_iload_n C 3 rfl rfl dX4_isOneThingOnce_37 ?_
    refine g_aload C 0 rfl dX4_isOneThingOnce_38 ?_
    refine g_X1_queueN C i_X4_isOneThingOnce_X1 (by decide +kernel) 42 rfl dX4_isOneThingOnce_40 ?_
    refine g_iload_n C 7 rfl rfl dX4_isOneThingOnce_43 ?_
    obtain ⟨g11, eg11, h⟩ := Option.bind_eq_some_iff.mp h
    refine g_cVr (As := [.int p1]) (n9 := 1) (st := [.int (((0 + g2) + g5) + g8)]) (w2 := (wB E a ++ (wX2 E a 2 lt ls lw lh lx ++ (wX1 E a 18 0 z0 q0 u0 t0 c0 ++ (wX1 E a 28 1 z1 q1 u1 t1 c1 ++ (wX1 E a 38 2 z2 q2 u2 t2 c2 ++ (wX1 E a 48 3 z3 q3 u3 t3 c3 ++ wA E a))))))) C (c_X3_count E (a 49) (a 50) 48 q3 p1 g11 eg11) gX4_isOneThingOnce_X3_count rfl (by decide +kernel) rfl ⟨by decide, by decide, by decide, by decide, Nat.le_of_ble_eq_true rfl⟩ 0 rfl rfl (gSub.idx [43, 44] rfl rfl) rfl dX4_isOneThingOnce_44 ?_
    refine g_iadd C dX4_isOneThingOnce_47 ?_
    refine g_istore_n C (lv2 := [(2, .int ((((0 + g2) + g5) + g8) + g11)), (7, .ref (a 48)), (6, .int 3), (3, .int (((0 + g3) + g6) + g9)), (5, .int 4), (4, .ref (a 1)), (0, .ref (a 0)), (1, .int p1)]) rfl (by decide) rfl dX4_isOneThingOnce_48 ?_
    refine g_iload_n C 3 rfl rfl dX4_isOneThingOnce_49 ?_
    refine g_aload C 1 rfl dX4_isOneThingOnce_50 ?_
    refine g_X1_pastN C i_X4_isOneThingOnce_X1 (by decide +kernel) 42 rfl dX4_isOneThingOnce_52 ?_
    refine g_iload_n C 7 rfl rfl dX4_isOneThingOnce_55 ?_
    obtain ⟨g12, eg12, h⟩ := Option.bind_eq_some_iff.mp h
    refine g_cVr (As := [.int p1]) (n9 := 1) (st := [.int (((0 + g3) + g6) + g9)]) (w2 := (wB E a ++ (wX2 E a 2 lt ls lw lh lx ++ (wX1 E a 18 0 z0 q0 u0 t0 c0 ++ (wX1 E a 28 1 z1 q1 u1 t1 c1 ++ (wX1 E a 38 2 z2 q2 u2 t2 c2 ++ (wX1 E a 48 3 z3 q3 u3 t3 c3 ++ wA E a))))))) C (c_X3_count E (a 51) (a 52) 120 u3 p1 g12 eg12) gX4_isOneThingOnce_X3_count rfl (by decide +kernel) rfl ⟨by decide, by decide, by decide, by decide, Nat.le_of_ble_eq_true rfl⟩ 0 rfl rfl (gSub.idx [45, 46] rfl rfl) rfl dX4_isOneThingOnce_56 ?_
    refine g_iadd C dX4_isOneThingOnce_59 ?_
    refine g_istore_n C (lv2 := [(3, .int ((((0 + g3) + g6) + g9) + g12)), (2, .int ((((0 + g2) + g5) + g8) + g11)), (7, .ref (a 48)), (6, .int 3), (5, .int 4), (4, .ref (a 1)), (0, .ref (a 0)), (1, .int p1)]) rfl (by decide) rfl dX4_isOneThingOnce_60 ?_
    refine g_iinc C (v := 4) 3 rfl rfl (lv2 := [(6, .int 4), (3, .int ((((0 + g3) + g6) + g9) + g12)), (2, .int ((((0 + g2) + g5) + g8) + g11)), (7, .ref (a 48)), (5, .int 4), (4, .ref (a 1)), (0, .ref (a 0)), (1, .int p1)]) rfl (by decide) dX4_isOneThingOnce_61 ?_
    refine g_goto C (tgt := 18) dX4_isOneThingOnce_64 (by decide) ?_
    refine g_iload C 0 rfl dX4_isOneThingOnce_18 ?_
    refine g_iload C 4 rfl dX4_isOneThingOnce_20 ?_
    refine g_icmp_ge C (tgt := 67) dX4_isOneThingOnce_22 (by decide) (fun cd13 => ?_) (fun cd13 => absurd cd13 (by decide))
    refine g_aload_n C 6 rfl rfl dX4_isOneThingOnce_67 ?_
    refine g_X4_ledger C i_X4_isOneThingOnce_X4 m_X4_isOneThingOnce_3 0 rfl dX4_isOneThingOnce_68 ?_
    refine g_X2_statesN C i_X4_isOneThingOnce_X2 (by decide +kernel) 1 rfl dX4_isOneThingOnce_71 ?_
    refine g_iload_n C 7 rfl rfl dX4_isOneThingOnce_74 ?_
    obtain ⟨g14, eg14, h⟩ := Option.bind_eq_some_iff.mp h
    refine g_cVr (As := [.int p1]) (n9 := 1) (st := []) (w2 := (wB E a ++ (wX2 E a 2 lt ls lw lh lx ++ (wX1 E a 18 0 z0 q0 u0 t0 c0 ++ (wX1 E a 28 1 z1 q1 u1 t1 c1 ++ (wX1 E a 38 2 z2 q2 u2 t2 c2 ++ (wX1 E a 48 3 z3 q3 u3 t3 c3 ++ wA E a))))))) C (c_X3_get E (a 11) (a 12) 120 lx p1 g14 eg14) gX4_isOneThingOnce_X3_get rfl (by decide +kernel) rfl ⟨by decide, by decide, by decide, by decide, Nat.le_of_ble_eq_true rfl⟩ 0 rfl rfl (gSub.idx [10, 11] rfl rfl) rfl dX4_isOneThingOnce_75 ?_
    refine g_istore C (lv2 := [(4, .int g14), (6, .int 4), (3, .int ((((0 + g3) + g6) + g9) + g12)), (2, .int ((((0 + g2) + g5) + g8) + g11)), (7, .ref (a 48)), (5, .int 4), (0, .ref (a 0)), (1, .int p1)]) rfl (by decide) dX4_isOneThingOnce_78 ?_
    refine g_iload C 0 rfl dX4_isOneThingOnce_80 ?_
    refine g_iconst C (v := 0) (by decide) dX4_isOneThingOnce_82 ?_
    refine g_iconst C (v := 2) (by decide) dX4_isOneThingOnce_83 ?_
    obtain ⟨g15, eg15, h⟩ := Option.bind_eq_some_iff.mp h
    refine g_cSr (As := [.int g14, .int 0, .int 2]) (n9 := 3) (st := []) (w2 := (wB E a ++ (wX2 E a 2 lt ls lw lh lx ++ (wX1 E a 18 0 z0 q0 u0 t0 c0 ++ (wX1 E a 28 1 z1 q1 u1 t1 c1 ++ (wX1 E a 38 2 z2 q2 u2 t2 c2 ++ (wX1 E a 48 3 z3 q3 u3 t3 c3 ++ wA E a))))))) C (c_X4_isIn E g14 0 2 g15 eg15) gX4_isOneThingOnce_X4_isIn rfl (by decide +kernel) rfl ⟨by decide, by decide, by decide, by decide, Nat.le_of_ble_eq_true rfl⟩ (gSub.idx [] rfl rfl) rfl dX4_isOneThingOnce_84 ?_
    refine g_if_eq C (tgt := 123) dX4_isOneThingOnce_87 (by decide) (fun cd16 => ?_) (fun cd16 => ?_)
    · replace h := (if_pos cd16).symm.trans h
      refine g_iconst C (v := 0) (by decide) dX4_isOneThingOnce_123 ?_
      obtain rfl := Option.some.inj h
      exact g_zret C hQ rfl rfl ⟨by decide, by decide⟩ dX4_isOneThingOnce_124
    · replace h := (if_neg cd16).symm.trans h
      refine g_iload_n C 3 rfl rfl dX4_isOneThingOnce_90 ?_
      refine g_iload C 0 rfl dX4_isOneThingOnce_91 ?_
      refine g_if_ne C (tgt := 100) dX4_isOneThingOnce_93 (by decide) (fun cd17 => ?_) (fun cd17 => ?_)
      · replace h := (if_neg cd17).symm.trans h
        refine g_iconst C (v := 0) (by decide) dX4_isOneThingOnce_100 ?_
        refine g_lv [2, 0] (lv2 := [(3, .int ((((0 + g3) + g6) + g9) + g12)), (4, .int g14)]) rfl ?_
        exact v_X4_isOneThingOnce_101 (v3 := ((((0 + g3) + g6) + g9) + g12)) (v4 := g14) (s0 := ((((0 + g2) + g5) + g8) + g11)) (s1 := false) C hQ h
      · replace h := (if_pos cd17).symm.trans h
        refine g_iconst C (v := 1) (by decide) dX4_isOneThingOnce_96 ?_
        refine g_goto C (tgt := 101) dX4_isOneThingOnce_97 (by decide) ?_
        refine g_lv [2, 0] (lv2 := [(3, .int ((((0 + g3) + g6) + g9) + g12)), (4, .int g14)]) rfl ?_
        exact v_X4_isOneThingOnce_101 (v3 := ((((0 + g3) + g6) + g9) + g12)) (v4 := g14) (s0 := ((((0 + g2) + g5) + g8) + g11)) (s1 := true) C hQ h
