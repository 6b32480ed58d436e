/-! bg: pure functions, printed by wip/whole/gen.py out of the bytecode, and their walks -/
def f_X4_standsWithAllOthers_0 (lt : RS) (q0 : RS) (q1 : RS) (q2 : RS) (q3 : RS) : Option (Bool) := ((f_X4_standInSequence lt q0 q1).bind fun g5 => (if (bI g5) = 0 then some false else ((f_X4_standInSequence lt q0 q2).bind fun g9 => (if (bI g9) = 0 then some false else ((f_X4_standInSequence lt q0 q3).bind fun g13 => (if (bI g13) = 0 then some false else some true))))))
def f_X4_standsWithAllOthers_1 (lt : RS) (q1 : RS) (q2 : RS) (q3 : RS) : Option (Bool) := ((f_X4_standInSequence lt q1 q2).bind fun g7 => (if (bI g7) = 0 then some false else ((f_X4_standInSequence lt q1 q3).bind fun g11 => (if (bI g11) = 0 then some false else some true))))
def f_X4_standsWithAllOthers_2 (lt : RS) (q2 : RS) (q3 : RS) : Option (Bool) := ((f_X4_standInSequence lt q2 q3).bind fun g9 => (if (bI g9) = 0 then some false else some true))
def f_X4_standsWithAllOthers_3 : Option (Bool) := some true
abbrev r_X4_standsWithAllOthers_0 : Room := { frames := 5, cells := 0, slots := 0, locals := 115 }
theorem m_X4_standsWithAllOthers_0_0 : Cond.fieldLink RX4 18 "Bookinghouse" "houses" "[LBookinghouse$House;" ∈ wsX4_standsWithAllOthers := by decide +kernel
theorem i_X4_standsWithAllOthers_0_X4 : ∀ w ∈ wsX40, w ∈ wsX4_standsWithAllOthers := by decide +kernel
theorem i_X4_standsWithAllOthers_0_X1 : ∀ w ∈ wsX10, w ∈ wsX4_standsWithAllOthers := by decide +kernel
set_option maxHeartbeats 4000000 in
set_option maxRecDepth 100000 in
theorem c_X4_standsWithAllOthers_0 (E : gE) (a : Nat → Nat) (lt : RS) (ls : RS) (lw : RS) (lh : RS) (lx : RS) (z0 : Int32) (q0 : RS) (u0 : RS) (t0 : RS) (c0 : RS) (z1 : Int32) (q1 : RS) (u1 : RS) (t1 : RS) (c1 : RS) (z2 : Int32) (q2 : RS) (u2 : RS) (t2 : RS) (c2 : RS) (z3 : Int32) (q3 : RS) (u3 : RS) (t3 : RS) (c3 : RS) (o : (Bool)) (h : f_X4_standsWithAllOthers_0 lt q0 q1 q2 q3 = some o) : Ct E yX4_standsWithAllOthers wsX4_standsWithAllOthers r_X4_standsWithAllOthers_0 [.ref (a 0), .ref (a 18)] (wB E a ++ (wX2 E a 2 lt ls lw lh lx ++ (wX1 E a 18 0 z0 q0 u0 t0 c0 ++ (wX1 E a 28 1 z1 q1 u1 t1 c1 ++ (wX1 E a 38 2 z2 q2 u2 t2 c2 ++ (wX1 E a 48 3 z3 q3 u3 t3 c3 ++ wA E a)))))) (gO (fun u9 => some (.int (bI u9))) (fun u9 => (wB E a ++ (wX2 E a 2 lt ls lw lh lx ++ (wX1 E a 18 0 z0 q0 u0 t0 c0 ++ (wX1 E a 28 1 z1 q1 u1 t1 c1 ++ (wX1 E a 38 2 z2 q2 u2 t2 c2 ++ (wX1 E a 48 3 z3 q3 u3 t3 c3 ++ wA E a))))))) (.inr o)) := by
  refine Ct.of (cc := cX4_standsWithAllOthers) (nL := 6) (ret := ((some .boolean))) (own := RX4) (by decide) rfl rfl (Nat.le_of_ble_eq_true rfl) rfl ?_ ?_
  · intro v w1 hh
    cases hh; rfl
  · intro X C hQ
    rw [f_X4_standsWithAllOthers_0] at h
    refine g_aload_n C 0 rfl rfl dX4_standsWithAllOthers_0 ?_
    refine g_X4_houses C i_X4_standsWithAllOthers_0_X4 m_X4_standsWithAllOthers_0_0 0 rfl dX4_standsWithAllOthers_1 ?_
    refine g_astore_n C (lv2 := [(2, .ref (a 1)), (0, .ref (a 0)), (1, .ref (a 18))]) rfl (by decide) rfl dX4_standsWithAllOthers_4 ?_
    refine g_aload_n C 0 rfl rfl dX4_standsWithAllOthers_5 ?_
    refine g_alen4 C 52 rfl dX4_standsWithAllOthers_6 ?_
    refine g_istore_n C (lv2 := [(3, .int 4), (2, .ref (a 1)), (0, .ref (a 0)), (1, .ref (a 18))]) rfl (by decide) rfl dX4_standsWithAllOthers_7 ?_
    refine g_iconst C (v := 0) (by decide) dX4_standsWithAllOthers_8 ?_
    refine g_istore C (lv2 := [(4, .int 0), (3, .int 4), (2, .ref (a 1)), (0, .ref (a 0)), (1, .ref (a 18))]) rfl (by decide) dX4_standsWithAllOthers_9 ?_
    refine g_iload C 0 rfl dX4_standsWithAllOthers_11 ?_
    refine g_iload_n C 1 rfl rfl dX4_standsWithAllOthers_13 ?_
    refine g_icmp_ge C (tgt := 64) dX4_standsWithAllOthers_14 (by decide) (fun cd1 => absurd cd1 (by decide)) (fun cd1 => ?_)
    refine g_aload_n C 2 rfl rfl dX4_standsWithAllOthers_17 ?_
    refine g_iload C 0 rfl dX4_standsWithAllOthers_18 ?_
    refine g_aald4 C (a9 := (a 18)) 52 rfl (inB_in (by decide +kernel)) rfl dX4_standsWithAllOthers_20 ?_
    refine g_astore C (lv2 := [(5, .ref (a 18)), (4, .int 0), (3, .int 4), (2, .ref (a 1)), (0, .ref (a 0)), (1, .ref (a 18))]) rfl (by decide) dX4_standsWithAllOthers_21 ?_
    refine g_aload C 0 rfl dX4_standsWithAllOthers_23 ?_
    refine g_ifnull C dX4_standsWithAllOthers_25 ?_
    refine g_aload C 0 rfl dX4_standsWithAllOthers_28 ?_
    refine g_X1_numberN C i_X4_standsWithAllOthers_0_X1 (by decide +kernel) 12 rfl dX4_standsWithAllOthers_30 ?_
    refine g_aload_n C 5 rfl rfl dX4_standsWithAllOthers_33 ?_
    refine g_X1_numberN C i_X4_standsWithAllOthers_0_X1 (by decide +kernel) 12 rfl dX4_standsWithAllOthers_34 ?_
    refine g_icmp_le C (tgt := 58) dX4_standsWithAllOthers_37 (by decide) (fun cd2 => ?_) (fun cd2 => absurd cd2 (by decide))
    refine g_iinc C (v := 1) 1 rfl rfl (lv2 := [(4, .int 1), (5, .ref (a 18)), (3, .int 4), (2, .ref (a 1)), (0, .ref (a 0)), (1, .ref (a 18))]) rfl (by decide) dX4_standsWithAllOthers_58 ?_
    refine g_goto C (tgt := 11) dX4_standsWithAllOthers_61 (by decide) ?_
    refine g_iload C 0 rfl dX4_standsWithAllOthers_11 ?_
    refine g_iload_n C 2 rfl rfl dX4_standsWithAllOthers_13 ?_
    refine g_icmp_ge C (tgt := 64) dX4_standsWithAllOthers_14 (by decide) (fun cd3 => absurd cd3 (by decide)) (fun cd3 => ?_)
    refine g_aload_n C 3 rfl rfl dX4_standsWithAllOthers_17 ?_
    refine g_iload C 0 rfl dX4_standsWithAllOthers_18 ?_
    refine g_aald4 C (a9 := (a 28)) 52 rfl (inB_in (by decide +kernel)) rfl dX4_standsWithAllOthers_20 ?_
    refine g_astore C (lv2 := [(5, .ref (a 28)), (4, .int 1), (3, .int 4), (2, .ref (a 1)), (0, .ref (a 0)), (1, .ref (a 18))]) rfl (by decide) dX4_standsWithAllOthers_21 ?_
    refine g_aload C 0 rfl dX4_standsWithAllOthers_23 ?_
    refine g_ifnull C dX4_standsWithAllOthers_25 ?_
    refine g_aload C 0 rfl dX4_standsWithAllOthers_28 ?_
    refine g_X1_numberN C i_X4_standsWithAllOthers_0_X1 (by decide +kernel) 22 rfl dX4_standsWithAllOthers_30 ?_
    refine g_aload_n C 5 rfl rfl dX4_standsWithAllOthers_33 ?_
    refine g_X1_numberN C i_X4_standsWithAllOthers_0_X1 (by decide +kernel) 12 rfl dX4_standsWithAllOthers_34 ?_
    refine g_icmp_le C (tgt := 58) dX4_standsWithAllOthers_37 (by decide) (fun cd4 => absurd cd4 (by decide)) (fun cd4 => ?_)
    refine g_aload_n C 4 rfl rfl dX4_standsWithAllOthers_40 ?_
    refine g_aload_n C 5 rfl rfl dX4_standsWithAllOthers_41 ?_
    refine g_X1_queueN C i_X4_standsWithAllOthers_0_X1 (by decide +kernel) 12 rfl dX4_standsWithAllOthers_42 ?_
    refine g_aload C 0 rfl dX4_standsWithAllOthers_45 ?_
    refine g_X1_queueN C i_X4_standsWithAllOthers_0_X1 (by decide +kernel) 22 rfl dX4_standsWithAllOthers_47 ?_
    obtain ⟨g5, eg5, h⟩ := Option.bind_eq_some_iff.mp h
    refine g_cVr (As := [.ref (a 19), .ref (a 29)]) (n9 := 2) (st := []) (w2 := (wB E a ++ (wX2 E a 2 lt ls lw lh lx ++ (wX1 E a 18 0 z0 q0 u0 t0 c0 ++ (wX1 E a 28 1 z1 q1 u1 t1 c1 ++ (wX1 E a 38 2 z2 q2 u2 t2 c2 ++ (wX1 E a 48 3 z3 q3 u3 t3 c3 ++ wA E a))))))) C (c_X4_standInSequence E a 18 28 lt ls lw lh lx 0 z0 q0 u0 t0 c0 1 z1 q1 u1 t1 c1 g5 eg5) gX4_standsWithAllOthers_X4_standInSequence rfl (by decide +kernel) rfl ⟨by decide, by decide, by decide, by decide, Nat.le_of_ble_eq_true rfl⟩ 0 rfl rfl (gSub.pre (S := (wX1 E a 38 2 z2 q2 u2 t2 c2 ++ (wX1 E a 48 3 z3 q3 u3 t3 c3 ++ wA E a))) (by simp only [List.append_assoc])) (by simp only [List.append_assoc]) dX4_standsWithAllOthers_50 ?_
    refine g_if_ne C (tgt := 58) dX4_standsWithAllOthers_53 (by decide) (fun cd6 => ?_) (fun cd6 => ?_)
    · replace h := (if_neg cd6).symm.trans h
      refine g_iinc C (v := 2) 1 rfl rfl (lv2 := [(4, .int 2), (5, .ref (a 28)), (3, .int 4), (2, .ref (a 1)), (0, .ref (a 0)), (1, .ref (a 18))]) rfl (by decide) dX4_standsWithAllOthers_58 ?_
      refine g_goto C (tgt := 11) dX4_standsWithAllOthers_61 (by decide) ?_
      refine g_iload C 0 rfl dX4_standsWithAllOthers_11 ?_
      refine g_iload_n C 2 rfl rfl dX4_standsWithAllOthers_13 ?_
      refine g_icmp_ge C (tgt := 64) dX4_standsWithAllOthers_14 (by decide) (fun cd7 => absurd cd7 (by decide)) (fun cd7 => ?_)
      refine g_aload_n C 3 rfl rfl dX4_standsWithAllOthers_17 ?_
      refine g_iload C 0 rfl dX4_standsWithAllOthers_18 ?_
      refine g_aald4 C (a9 := (a 38)) 52 rfl (inB_in (by decide +kernel)) rfl dX4_standsWithAllOthers_20 ?_
      refine g_astore C (lv2 := [(5, .ref (a 38)), (4, .int 2), (3, .int 4), (2, .ref (a 1)), (0, .ref (a 0)), (1, .ref (a 18))]) rfl (by decide) dX4_standsWithAllOthers_21 ?_
      refine g_aload C 0 rfl dX4_standsWithAllOthers_23 ?_
      refine g_ifnull C dX4_standsWithAllOthers_25 ?_
      refine g_aload C 0 rfl dX4_standsWithAllOthers_28 ?_
      refine g_X1_numberN C i_X4_standsWithAllOthers_0_X1 (by decide +kernel) 32 rfl dX4_standsWithAllOthers_30 ?_
      refine g_aload_n C 5 rfl rfl dX4_standsWithAllOthers_33 ?_
      refine g_X1_numberN C i_X4_standsWithAllOthers_0_X1 (by decide +kernel) 12 rfl dX4_standsWithAllOthers_34 ?_
      refine g_icmp_le C (tgt := 58) dX4_standsWithAllOthers_37 (by decide) (fun cd8 => absurd cd8 (by decide)) (fun cd8 => ?_)
      refine g_aload_n C 4 rfl rfl dX4_standsWithAllOthers_40 ?_
      refine g_aload_n C 5 rfl rfl dX4_standsWithAllOthers_41 ?_
      refine g_X1_queueN C i_X4_standsWithAllOthers_0_X1 (by decide +kernel) 12 rfl dX4_standsWithAllOthers_42 ?_
      refine g_aload C 0 rfl dX4_standsWithAllOthers_45 ?_
      refine g_X1_queueN C i_X4_standsWithAllOthers_0_X1 (by decide +kernel) 32 rfl dX4_standsWithAllOthers_47 ?_
      refine g_perm (ws2 := (wB E a ++ (wX2 E a 2 lt ls lw lh lx ++ (wX1 E a 18 0 z0 q0 u0 t0 c0 ++ (wX1 E a 38 2 z2 q2 u2 t2 c2 ++ (wX1 E a 28 1 z1 q1 u1 t1 c1 ++ (wX1 E a 48 3 z3 q3 u3 t3 c3 ++ wA E a))))))) (List.Perm.append_left _ (List.Perm.append_left _ (List.Perm.append_left _ (List.perm_append_comm_assoc _ _ _)))) ?_
      obtain ⟨g9, eg9, h⟩ := Option.bind_eq_some_iff.mp h
      refine g_cVr (As := [.ref (a 19), .ref (a 39)]) (n9 := 2) (st := []) (w2 := (wB E a ++ (wX2 E a 2 lt ls lw lh lx ++ (wX1 E a 18 0 z0 q0 u0 t0 c0 ++ (wX1 E a 38 2 z2 q2 u2 t2 c2 ++ (wX1 E a 28 1 z1 q1 u1 t1 c1 ++ (wX1 E a 48 3 z3 q3 u3 t3 c3 ++ wA E a))))))) C (c_X4_standInSequence E a 18 38 lt ls lw lh lx 0 z0 q0 u0 t0 c0 2 z2 q2 u2 t2 c2 g9 eg9) gX4_standsWithAllOthers_X4_standInSequence rfl (by decide +kernel) rfl ⟨by decide, by decide, by decide, by decide, Nat.le_of_ble_eq_true rfl⟩ 0 rfl rfl (gSub.pre (S := (wX1 E a 28 1 z1 q1 u1 t1 c1 ++ (wX1 E a 48 3 z3 q3 u3 t3 c3 ++ wA E a))) (by simp only [List.append_assoc])) (by simp only [List.append_assoc]) dX4_standsWithAllOthers_50 ?_
      refine g_perm (ws2 := (wB E a ++ (wX2 E a 2 lt ls lw lh lx ++ (wX1 E a 18 0 z0 q0 u0 t0 c0 ++ (wX1 E a 28 1 z1 q1 u1 t1 c1 ++ (wX1 E a 38 2 z2 q2 u2 t2 c2 ++ (wX1 E a 48 3 z3 q3 u3 t3 c3 ++ wA E a))))))) (List.Perm.append_left _ (List.Perm.append_left _ (List.Perm.append_left _ (List.perm_append_comm_assoc _ _ _)))) ?_
      refine g_if_ne C (tgt := 58) dX4_standsWithAllOthers_53 (by decide) (fun cd10 => ?_) (fun cd10 => ?_)
      · replace h := (if_neg cd10).symm.trans h
        refine g_iinc C (v := 3) 1 rfl rfl (lv2 := [(4, .int 3), (5, .ref (a 38)), (3, .int 4), (2, .ref (a 1)), (0, .ref (a 0)), (1, .ref (a 18))]) rfl (by decide) dX4_standsWithAllOthers_58 ?_
        refine g_goto C (tgt := 11) dX4_standsWithAllOthers_61 (by decide) ?_
        refine g_iload C 0 rfl dX4_standsWithAllOthers_11 ?_
        refine g_iload_n C 2 rfl rfl dX4_standsWithAllOthers_13 ?_
        refine g_icmp_ge C (tgt := 64) dX4_standsWithAllOthers_14 (by decide) (fun cd11 => absurd cd11 (by decide)) (fun cd11 => ?_)
        refine g_aload_n C 3 rfl rfl dX4_standsWithAllOthers_17 ?_
        refine g_iload C 0 rfl dX4_standsWithAllOthers_18 ?_
        refine g_aald4 C (a9 := (a 48)) 52 rfl (inB_in (by decide +kernel)) rfl dX4_standsWithAllOthers_20 ?_
        refine g_astore C (lv2 := [(5, .ref (a 48)), (4, .int 3), (3, .int 4), (2, .ref (a 1)), (0, .ref (a 0)), (1, .ref (a 18))]) rfl (by decide) dX4_standsWithAllOthers_21 ?_
        refine g_aload C 0 rfl dX4_standsWithAllOthers_23 ?_
        refine g_ifnull C dX4_standsWithAllOthers_25 ?_
        refine g_aload C 0 rfl dX4_standsWithAllOthers_28 ?_
        refine g_X1_numberN C i_X4_standsWithAllOthers_0_X1 (by decide +kernel) 42 rfl dX4_standsWithAllOthers_30 ?_
        refine g_aload_n C 5 rfl rfl dX4_standsWithAllOthers_33 ?_
        refine g_X1_numberN C i_X4_standsWithAllOthers_0_X1 (by decide +kernel) 12 rfl dX4_standsWithAllOthers_34 ?_
        refine g_icmp_le C (tgt := 58) dX4_standsWithAllOthers_37 (by decide) (fun cd12 => absurd cd12 (by decide)) (fun cd12 => ?_)
        refine g_aload_n C 4 rfl rfl dX4_standsWithAllOthers_40 ?_
        refine g_aload_n C 5 rfl rfl dX4_standsWithAllOthers_41 ?_
        refine g_X1_queueN C i_X4_standsWithAllOthers_0_X1 (by decide +kernel) 12 rfl dX4_standsWithAllOthers_42 ?_
        refine g_aload C 0 rfl dX4_standsWithAllOthers_45 ?_
        refine g_X1_queueN C i_X4_standsWithAllOthers_0_X1 (by decide +kernel) 42 rfl dX4_standsWithAllOthers_47 ?_
        refine g_perm (ws2 := (wB E a ++ (wX2 E a 2 lt ls lw lh lx ++ (wX1 E a 18 0 z0 q0 u0 t0 c0 ++ (wX1 E a 48 3 z3 q3 u3 t3 c3 ++ (wX1 E a 28 1 z1 q1 u1 t1 c1 ++ (wX1 E a 38 2 z2 q2 u2 t2 c2 ++ wA E a))))))) (List.Perm.trans (List.Perm.append_left _ (List.Perm.append_left _ (List.Perm.append_left _ (List.Perm.append_left _ (List.perm_append_comm_assoc _ _ _))))) (List.Perm.append_left _ (List.Perm.append_left _ (List.Perm.append_left _ (List.perm_append_comm_assoc _ _ _))))) ?_
        obtain ⟨g13, eg13, h⟩ := Option.bind_eq_some_iff.mp h
        refine g_cVr (As := [.ref (a 19), .ref (a 49)]) (n9 := 2) (st := []) (w2 := (wB E a ++ (wX2 E a 2 lt ls lw lh lx ++ (wX1 E a 18 0 z0 q0 u0 t0 c0 ++ (wX1 E a 48 3 z3 q3 u3 t3 c3 ++ (wX1 E a 28 1 z1 q1 u1 t1 c1 ++ (wX1 E a 38 2 z2 q2 u2 t2 c2 ++ wA E a))))))) C (c_X4_standInSequence E a 18 48 lt ls lw lh lx 0 z0 q0 u0 t0 c0 3 z3 q3 u3 t3 c3 g13 eg13) gX4_standsWithAllOthers_X4_standInSequence rfl (by decide +kernel) rfl ⟨by decide, by decide, by decide, by decide, Nat.le_of_ble_eq_true rfl⟩ 0 rfl rfl (gSub.pre (S := (wX1 E a 28 1 z1 q1 u1 t1 c1 ++ (wX1 E a 38 2 z2 q2 u2 t2 c2 ++ wA E a))) (by simp only [List.append_assoc])) (by simp only [List.append_assoc]) dX4_standsWithAllOthers_50 ?_
        refine g_perm (ws2 := (wB E a ++ (wX2 E a 2 lt ls lw lh lx ++ (wX1 E a 18 0 z0 q0 u0 t0 c0 ++ (wX1 E a 28 1 z1 q1 u1 t1 c1 ++ (wX1 E a 38 2 z2 q2 u2 t2 c2 ++ (wX1 E a 48 3 z3 q3 u3 t3 c3 ++ wA E a))))))) (List.Perm.trans (List.Perm.append_left _ (List.Perm.append_left _ (List.Perm.append_left _ (List.perm_append_comm_assoc _ _ _)))) (List.Perm.append_left _ (List.Perm.append_left _ (List.Perm.append_left _ (List.Perm.append_left _ (List.perm_append_comm_assoc _ _ _)))))) ?_
        refine g_if_ne C (tgt := 58) dX4_standsWithAllOthers_53 (by decide) (fun cd14 => ?_) (fun cd14 => ?_)
        · replace h := (if_neg cd14).symm.trans h
          refine g_iinc C (v := 4) 1 rfl rfl (lv2 := [(4, .int 4), (5, .ref (a 48)), (3, .int 4), (2, .ref (a 1)), (0, .ref (a 0)), (1, .ref (a 18))]) rfl (by decide) dX4_standsWithAllOthers_58 ?_
          refine g_goto C (tgt := 11) dX4_standsWithAllOthers_61 (by decide) ?_
          refine g_iload C 0 rfl dX4_standsWithAllOthers_11 ?_
          refine g_iload_n C 2 rfl rfl dX4_standsWithAllOthers_13 ?_
          refine g_icmp_ge C (tgt := 64) dX4_standsWithAllOthers_14 (by decide) (fun cd15 => ?_) (fun cd15 => absurd cd15 (by decide))
          refine g_iconst C (v := 1) (by decide) dX4_standsWithAllOthers_64 ?_
          obtain rfl := Option.some.inj h
          exact g_zret C hQ rfl rfl ⟨by decide, by decide⟩ dX4_standsWithAllOthers_65
        · replace h := (if_pos cd14).symm.trans h
          refine g_iconst C (v := 0) (by decide) dX4_standsWithAllOthers_56 ?_
          obtain rfl := Option.some.inj h
          exact g_zret C hQ rfl rfl ⟨by decide, by decide⟩ dX4_standsWithAllOthers_57
      · replace h := (if_pos cd10).symm.trans h
        refine g_iconst C (v := 0) (by decide) dX4_standsWithAllOthers_56 ?_
        obtain rfl := Option.some.inj h
        exact g_zret C hQ rfl rfl ⟨by decide, by decide⟩ dX4_standsWithAllOthers_57
    · replace h := (if_pos cd6).symm.trans h
      refine g_iconst C (v := 0) (by decide) dX4_standsWithAllOthers_56 ?_
      obtain rfl := Option.some.inj h
      exact g_zret C hQ rfl rfl ⟨by decide, by decide⟩ dX4_standsWithAllOthers_57
abbrev r_X4_standsWithAllOthers_1 : Room := { frames := 5, cells := 0, slots := 0, locals := 115 }
theorem m_X4_standsWithAllOthers_1_0 : Cond.fieldLink RX4 18 "Bookinghouse" "houses" "[LBookinghouse$House;" ∈ wsX4_standsWithAllOthers := by decide +kernel
theorem i_X4_standsWithAllOthers_1_X4 : ∀ w ∈ wsX40, w ∈ wsX4_standsWithAllOthers := by decide +kernel
theorem i_X4_standsWithAllOthers_1_X1 : ∀ w ∈ wsX10, w ∈ wsX4_standsWithAllOthers := by decide +kernel
set_option maxHeartbeats 4000000 in
set_option maxRecDepth 100000 in
theorem c_X4_standsWithAllOthers_1 (E : gE) (a : Nat → Nat) (lt : RS) (ls : RS) (lw : RS) (lh : RS) (lx : RS) (z0 : Int32) (q0 : RS) (u0 : RS) (t0 : RS) (c0 : RS) (z1 : Int32) (q1 : RS) (u1 : RS) (t1 : RS) (c1 : RS) (z2 : Int32) (q2 : RS) (u2 : RS) (t2 : RS) (c2 : RS) (z3 : Int32) (q3 : RS) (u3 : RS) (t3 : RS) (c3 : RS) (o : (Bool)) (h : f_X4_standsWithAllOthers_1 lt q1 q2 q3 = some o) : Ct E yX4_standsWithAllOthers wsX4_standsWithAllOthers r_X4_standsWithAllOthers_1 [.ref (a 0), .ref (a 28)] (wB E a ++ (wX2 E a 2 lt ls lw lh lx ++ (wX1 E a 18 0 z0 q0 u0 t0 c0 ++ (wX1 E a 28 1 z1 q1 u1 t1 c1 ++ (wX1 E a 38 2 z2 q2 u2 t2 c2 ++ (wX1 E a 48 3 z3 q3 u3 t3 c3 ++ wA E a)))))) (gO (fun u9 => some (.int (bI u9))) (fun u9 => (wB E a ++ (wX2 E a 2 lt ls lw lh lx ++ (wX1 E a 18 0 z0 q0 u0 t0 c0 ++ (wX1 E a 28 1 z1 q1 u1 t1 c1 ++ (wX1 E a 38 2 z2 q2 u2 t2 c2 ++ (wX1 E a 48 3 z3 q3 u3 t3 c3 ++ wA E a))))))) (.inr o)) := by
  refine Ct.of (cc := cX4_standsWithAllOthers) (nL := 6) (ret := ((some .boolean))) (own := RX4) (by decide) rfl rfl (Nat.le_of_ble_eq_true rfl) rfl ?_ ?_
  · intro v w1 hh
    cases hh; rfl
  · intro X C hQ
    rw [f_X4_standsWithAllOthers_1] at h
    refine g_aload_n C 0 rfl rfl dX4_standsWithAllOthers_0 ?_
    refine g_X4_houses C i_X4_standsWithAllOthers_1_X4 m_X4_standsWithAllOthers_1_0 0 rfl dX4_standsWithAllOthers_1 ?_
    refine g_astore_n C (lv2 := [(2, .ref (a 1)), (0, .ref (a 0)), (1, .ref (a 28))]) rfl (by decide) rfl dX4_standsWithAllOthers_4 ?_
    refine g_aload_n C 0 rfl rfl dX4_standsWithAllOthers_5 ?_
    refine g_alen4 C 52 rfl dX4_standsWithAllOthers_6 ?_
    refine g_istore_n C (lv2 := [(3, .int 4), (2, .ref (a 1)), (0, .ref (a 0)), (1, .ref (a 28))]) rfl (by decide) rfl dX4_standsWithAllOthers_7 ?_
    refine g_iconst C (v := 0) (by decide) dX4_standsWithAllOthers_8 ?_
    refine g_istore C (lv2 := [(4, .int 0), (3, .int 4), (2, .ref (a 1)), (0, .ref (a 0)), (1, .ref (a 28))]) rfl (by decide) dX4_standsWithAllOthers_9 ?_
    refine g_iload C 0 rfl dX4_standsWithAllOthers_11 ?_
    refine g_iload_n C 1 rfl rfl dX4_standsWithAllOthers_13 ?_
    refine g_icmp_ge C (tgt := 64) dX4_standsWithAllOthers_14 (by decide) (fun cd1 => absurd cd1 (by decide)) (fun cd1 => ?_)
    refine g_aload_n C 2 rfl rfl dX4_standsWithAllOthers_17 ?_
    refine g_iload C 0 rfl dX4_standsWithAllOthers_18 ?_
    refine g_aald4 C (a9 := (a 18)) 52 rfl (inB_in (by decide +kernel)) rfl dX4_standsWithAllOthers_20 ?_
    refine g_astore C (lv2 := [(5, .ref (a 18)), (4, .int 0), (3, .int 4), (2, .ref (a 1)), (0, .ref (a 0)), (1, .ref (a 28))]) rfl (by decide) dX4_standsWithAllOthers_21 ?_
    refine g_aload C 0 rfl dX4_standsWithAllOthers_23 ?_
    refine g_ifnull C dX4_standsWithAllOthers_25 ?_
    refine g_aload C 0 rfl dX4_standsWithAllOthers_28 ?_
    refine g_X1_numberN C i_X4_standsWithAllOthers_1_X1 (by decide +kernel) 12 rfl dX4_standsWithAllOthers_30 ?_
    refine g_aload_n C 5 rfl rfl dX4_standsWithAllOthers_33 ?_
    refine g_X1_numberN C i_X4_standsWithAllOthers_1_X1 (by decide +kernel) 22 rfl dX4_standsWithAllOthers_34 ?_
    refine g_icmp_le C (tgt := 58) dX4_standsWithAllOthers_37 (by decide) (fun cd2 => ?_) (fun cd2 => absurd cd2 (by decide))
    refine g_iinc C (v := 1) 1 rfl rfl (lv2 := [(4, .int 1), (5, .ref (a 18)), (3, .int 4), (2, .ref (a 1)), (0, .ref (a 0)), (1, .ref (a 28))]) rfl (by decide) dX4_standsWithAllOthers_58 ?_
    refine g_goto C (tgt := 11) dX4_standsWithAllOthers_61 (by decide) ?_
    refine g_iload C 0 rfl dX4_standsWithAllOthers_11 ?_
    refine g_iload_n C 2 rfl rfl dX4_standsWithAllOthers_13 ?_
    refine g_icmp_ge C (tgt := 64) dX4_standsWithAllOthers_14 (by decide) (fun cd3 => absurd cd3 (by decide)) (fun cd3 => ?_)
    refine g_aload_n C 3 rfl rfl dX4_standsWithAllOthers_17 ?_
    refine g_iload C 0 rfl dX4_standsWithAllOthers_18 ?_
    refine g_aald4 C (a9 := (a 28)) 52 rfl (inB_in (by decide +kernel)) rfl dX4_standsWithAllOthers_20 ?_
    refine g_astore C (lv2 := [(5, .ref (a 28)), (4, .int 1), (3, .int 4), (2, .ref (a 1)), (0, .ref (a 0)), (1, .ref (a 28))]) rfl (by decide) dX4_standsWithAllOthers_21 ?_
    refine g_aload C 0 rfl dX4_standsWithAllOthers_23 ?_
    refine g_ifnull C dX4_standsWithAllOthers_25 ?_
    refine g_aload C 0 rfl dX4_standsWithAllOthers_28 ?_
    refine g_X1_numberN C i_X4_standsWithAllOthers_1_X1 (by decide +kernel) 22 rfl dX4_standsWithAllOthers_30 ?_
    refine g_aload_n C 5 rfl rfl dX4_standsWithAllOthers_33 ?_
    refine g_X1_numberN C i_X4_standsWithAllOthers_1_X1 (by decide +kernel) 22 rfl dX4_standsWithAllOthers_34 ?_
    refine g_icmp_le C (tgt := 58) dX4_standsWithAllOthers_37 (by decide) (fun cd4 => ?_) (fun cd4 => absurd cd4 (by decide))
    refine g_iinc C (v := 2) 1 rfl rfl (lv2 := [(4, .int 2), (5, .ref (a 28)), (3, .int 4), (2, .ref (a 1)), (0, .ref (a 0)), (1, .ref (a 28))]) rfl (by decide) dX4_standsWithAllOthers_58 ?_
    refine g_goto C (tgt := 11) dX4_standsWithAllOthers_61 (by decide) ?_
    refine g_iload C 0 rfl dX4_standsWithAllOthers_11 ?_
    refine g_iload_n C 2 rfl rfl dX4_standsWithAllOthers_13 ?_
    refine g_icmp_ge C (tgt := 64) dX4_standsWithAllOthers_14 (by decide) (fun cd5 => absurd cd5 (by decide)) (fun cd5 => ?_)
    refine g_aload_n C 3 rfl rfl dX4_standsWithAllOthers_17 ?_
    refine g_iload C 0 rfl dX4_standsWithAllOthers_18 ?_
    refine g_aald4 C (a9 := (a 38)) 52 rfl (inB_in (by decide +kernel)) rfl dX4_standsWithAllOthers_20 ?_
    refine g_astore C (lv2 := [(5, .ref (a 38)), (4, .int 2), (3, .int 4), (2, .ref (a 1)), (0, .ref (a 0)), (1, .ref (a 28))]) rfl (by decide) dX4_standsWithAllOthers_21 ?_
    refine g_aload C 0 rfl dX4_standsWithAllOthers_23 ?_
    refine g_ifnull C dX4_standsWithAllOthers_25 ?_
    refine g_aload C 0 rfl dX4_standsWithAllOthers_28 ?_
    refine g_X1_numberN C i_X4_standsWithAllOthers_1_X1 (by decide +kernel) 32 rfl dX4_standsWithAllOthers_30 ?_
    refine g_aload_n C 5 rfl rfl dX4_standsWithAllOthers_33 ?_
    refine g_X1_numberN C i_X4_standsWithAllOthers_1_X1 (by decide +kernel) 22 rfl dX4_standsWithAllOthers_34 ?_
    refine g_icmp_le C (tgt := 58) dX4_standsWithAllOthers_37 (by decide) (fun cd6 => absurd cd6 (by decide)) (fun cd6 => ?_)
    refine g_aload_n C 4 rfl rfl dX4_standsWithAllOthers_40 ?_
    refine g_aload_n C 5 rfl rfl dX4_standsWithAllOthers_41 ?_
    refine g_X1_queueN C i_X4_standsWithAllOthers_1_X1 (by decide +kernel) 22 rfl dX4_standsWithAllOthers_42 ?_
    refine g_aload C 0 rfl dX4_standsWithAllOthers_45 ?_
    refine g_X1_queueN C i_X4_standsWithAllOthers_1_X1 (by decide +kernel) 32 rfl dX4_standsWithAllOthers_47 ?_
    refine g_perm (ws2 := (wB E a ++ (wX2 E a 2 lt ls lw lh lx ++ (wX1 E a 28 1 z1 q1 u1 t1 c1 ++ (wX1 E a 38 2 z2 q2 u2 t2 c2 ++ (wX1 E a 18 0 z0 q0 u0 t0 c0 ++ (wX1 E a 48 3 z3 q3 u3 t3 c3 ++ wA E a))))))) (List.Perm.trans (List.Perm.append_left _ (List.Perm.append_left _ (List.perm_append_comm_assoc _ _ _))) (List.Perm.append_left _ (List.Perm.append_left _ (List.Perm.append_left _ (List.perm_append_comm_assoc _ _ _))))) ?_
    obtain ⟨g7, eg7, h⟩ := Option.bind_eq_some_iff.mp h
    refine g_cVr (As := [.ref (a 29), .ref (a 39)]) (n9 := 2) (st := []) (w2 := (wB E a ++ (wX2 E a 2 lt ls lw lh lx ++ (wX1 E a 28 1 z1 q1 u1 t1 c1 ++ (wX1 E a 38 2 z2 q2 u2 t2 c2 ++ (wX1 E a 18 0 z0 q0 u0 t0 c0 ++ (wX1 E a 48 3 z3 q3 u3 t3 c3 ++ wA E a))))))) C (c_X4_standInSequence E a 28 38 lt ls lw lh lx 1 z1 q1 u1 t1 c1 2 z2 q2 u2 t2 c2 g7 eg7) gX4_standsWithAllOthers_X4_standInSequence rfl (by decide +kernel) rfl ⟨by decide, by decide, by decide, by decide, Nat.le_of_ble_eq_true rfl⟩ 0 rfl rfl (gSub.pre (S := (wX1 E a 18 0 z0 q0 u0 t0 c0 ++ (wX1 E a 48 3 z3 q3 u3 t3 c3 ++ wA E a))) (by simp only [List.append_assoc])) (by simp only [List.append_assoc]) dX4_standsWithAllOthers_50 ?_
    refine g_perm (ws2 := (wB E a ++ (wX2 E a 2 lt ls lw lh lx ++ (wX1 E a 18 0 z0 q0 u0 t0 c0 ++ (wX1 E a 28 1 z1 q1 u1 t1 c1 ++ (wX1 E a 38 2 z2 q2 u2 t2 c2 ++ (wX1 E a 48 3 z3 q3 u3 t3 c3 ++ wA E a))))))) (List.Perm.trans (List.Perm.append_left _ (List.Perm.append_left _ (List.Perm.append_left _ (List.perm_append_comm_assoc _ _ _)))) (List.Perm.append_left _ (List.Perm.append_left _ (List.perm_append_comm_assoc _ _ _)))) ?_
    refine g_if_ne C (tgt := 58) dX4_standsWithAllOthers_53 (by decide) (fun cd8 => ?_) (fun cd8 => ?_)
    · replace h := (if_neg cd8).symm.trans h
      refine g_iinc C (v := 3) 1 rfl rfl (lv2 := [(4, .int 3), (5, .ref (a 38)), (3, .int 4), (2, .ref (a 1)), (0, .ref (a 0)), (1, .ref (a 28))]) rfl (by decide) dX4_standsWithAllOthers_58 ?_
      refine g_goto C (tgt := 11) dX4_standsWithAllOthers_61 (by decide) ?_
      refine g_iload C 0 rfl dX4_standsWithAllOthers_11 ?_
      refine g_iload_n C 2 rfl rfl dX4_standsWithAllOthers_13 ?_
      refine g_icmp_ge C (tgt := 64) dX4_standsWithAllOthers_14 (by decide) (fun cd9 => absurd cd9 (by decide)) (fun cd9 => ?_)
      refine g_aload_n C 3 rfl rfl dX4_standsWithAllOthers_17 ?_
      refine g_iload C 0 rfl dX4_standsWithAllOthers_18 ?_
      refine g_aald4 C (a9 := (a 48)) 52 rfl (inB_in (by decide +kernel)) rfl dX4_standsWithAllOthers_20 ?_
      refine g_astore C (lv2 := [(5, .ref (a 48)), (4, .int 3), (3, .int 4), (2, .ref (a 1)), (0, .ref (a 0)), (1, .ref (a 28))]) rfl (by decide) dX4_standsWithAllOthers_21 ?_
      refine g_aload C 0 rfl dX4_standsWithAllOthers_23 ?_
      refine g_ifnull C dX4_standsWithAllOthers_25 ?_
      refine g_aload C 0 rfl dX4_standsWithAllOthers_28 ?_
      refine g_X1_numberN C i_X4_standsWithAllOthers_1_X1 (by decide +kernel) 42 rfl dX4_standsWithAllOthers_30 ?_
      refine g_aload_n C 5 rfl rfl dX4_standsWithAllOthers_33 ?_
      refine g_X1_numberN C i_X4_standsWithAllOthers_1_X1 (by decide +kernel) 22 rfl dX4_standsWithAllOthers_34 ?_
      refine g_icmp_le C (tgt := 58) dX4_standsWithAllOthers_37 (by decide) (fun cd10 => absurd cd10 (by decide)) (fun cd10 => ?_)
      refine g_aload_n C 4 rfl rfl dX4_standsWithAllOthers_40 ?_
      refine g_aload_n C 5 rfl rfl dX4_standsWithAllOthers_41 ?_
      refine g_X1_queueN C i_X4_standsWithAllOthers_1_X1 (by decide +kernel) 22 rfl dX4_standsWithAllOthers_42 ?_
      refine g_aload C 0 rfl dX4_standsWithAllOthers_45 ?_
      refine g_X1_queueN C i_X4_standsWithAllOthers_1_X1 (by decide +kernel) 42 rfl dX4_standsWithAllOthers_47 ?_
      refine g_perm (ws2 := (wB E a ++ (wX2 E a 2 lt ls lw lh lx ++ (wX1 E a 28 1 z1 q1 u1 t1 c1 ++ (wX1 E a 48 3 z3 q3 u3 t3 c3 ++ (wX1 E a 18 0 z0 q0 u0 t0 c0 ++ (wX1 E a 38 2 z2 q2 u2 t2 c2 ++ wA E a))))))) (List.Perm.trans (List.Perm.append_left _ (List.Perm.append_left _ (List.perm_append_comm_assoc _ _ _))) (List.Perm.trans (List.Perm.append_left _ (List.Perm.append_left _ (List.Perm.append_left _ (List.Perm.append_left _ (List.perm_append_comm_assoc _ _ _))))) (List.Perm.append_left _ (List.Perm.append_left _ (List.Perm.append_left _ (List.perm_append_comm_assoc _ _ _)))))) ?_
      obtain ⟨g11, eg11, h⟩ := Option.bind_eq_some_iff.mp h
      refine g_cVr (As := [.ref (a 29), .ref (a 49)]) (n9 := 2) (st := []) (w2 := (wB E a ++ (wX2 E a 2 lt ls lw lh lx ++ (wX1 E a 28 1 z1 q1 u1 t1 c1 ++ (wX1 E a 48 3 z3 q3 u3 t3 c3 ++ (wX1 E a 18 0 z0 q0 u0 t0 c0 ++ (wX1 E a 38 2 z2 q2 u2 t2 c2 ++ wA E a))))))) C (c_X4_standInSequence E a 28 48 lt ls lw lh lx 1 z1 q1 u1 t1 c1 3 z3 q3 u3 t3 c3 g11 eg11) gX4_standsWithAllOthers_X4_standInSequence rfl (by decide +kernel) rfl ⟨by decide, by decide, by decide, by decide, Nat.le_of_ble_eq_true rfl⟩ 0 rfl rfl (gSub.pre (S := (wX1 E a 18 0 z0 q0 u0 t0 c0 ++ (wX1 E a 38 2 z2 q2 u2 t2 c2 ++ wA E a))) (by simp only [List.append_assoc])) (by simp only [List.append_assoc]) dX4_standsWithAllOthers_50 ?_
      refine g_perm (ws2 := (wB E a ++ (wX2 E a 2 lt ls lw lh lx ++ (wX1 E a 18 0 z0 q0 u0 t0 c0 ++ (wX1 E a 28 1 z1 q1 u1 t1 c1 ++ (wX1 E a 38 2 z2 q2 u2 t2 c2 ++ (wX1 E a 48 3 z3 q3 u3 t3 c3 ++ wA E a))))))) (List.Perm.trans (List.Perm.append_left _ (List.Perm.append_left _ (List.Perm.append_left _ (List.perm_append_comm_assoc _ _ _)))) (List.Perm.trans (List.Perm.append_left _ (List.Perm.append_left _ (List.perm_append_comm_assoc _ _ _))) (List.Perm.append_left _ (List.Perm.append_left _ (List.Perm.append_left _ (List.Perm.append_left _ (List.perm_append_comm_assoc _ _ _))))))) ?_
      refine g_if_ne C (tgt := 58) dX4_standsWithAllOthers_53 (by decide) (fun cd12 => ?_) (fun cd12 => ?_)
      · replace h := (if_neg cd12).symm.trans h
        refine g_iinc C (v := 4) 1 rfl rfl (lv2 := [(4, .int 4), (5, .ref (a 48)), (3, .int 4), (2, .ref (a 1)), (0, .ref (a 0)), (1, .ref (a 28))]) rfl (by decide) dX4_standsWithAllOthers_58 ?_
        refine g_goto C (tgt := 11) dX4_standsWithAllOthers_61 (by decide) ?_
        refine g_iload C 0 rfl dX4_standsWithAllOthers_11 ?_
        refine g_iload_n C 2 rfl rfl dX4_standsWithAllOthers_13 ?_
        refine g_icmp_ge C (tgt := 64) dX4_standsWithAllOthers_14 (by decide) (fun cd13 => ?_) (fun cd13 => absurd cd13 (by decide))
        refine g_iconst C (v := 1) (by decide) dX4_standsWithAllOthers_64 ?_
        obtain rfl := Option.some.inj h
        exact g_zret C hQ rfl rfl ⟨by decide, by decide⟩ dX4_standsWithAllOthers_65
      · replace h := (if_pos cd12).symm.trans h
        refine g_iconst C (v := 0) (by decide) dX4_standsWithAllOthers_56 ?_
        obtain rfl := Option.some.inj h
        exact g_zret C hQ rfl rfl ⟨by decide, by decide⟩ dX4_standsWithAllOthers_57
    · replace h := (if_pos cd8).symm.trans h
      refine g_iconst C (v := 0) (by decide) dX4_standsWithAllOthers_56 ?_
      obtain rfl := Option.some.inj h
      exact g_zret C hQ rfl rfl ⟨by decide, by decide⟩ dX4_standsWithAllOthers_57
abbrev r_X4_standsWithAllOthers_2 : Room := { frames := 5, cells := 0, slots := 0, locals := 115 }
theorem m_X4_standsWithAllOthers_2_0 : Cond.fieldLink RX4 18 "Bookinghouse" "houses" "[LBookinghouse$House;" ∈ wsX4_standsWithAllOthers := by decide +kernel
theorem i_X4_standsWithAllOthers_2_X4 : ∀ w ∈ wsX40, w ∈ wsX4_standsWithAllOthers := by decide +kernel
theorem i_X4_standsWithAllOthers_2_X1 : ∀ w ∈ wsX10, w ∈ wsX4_standsWithAllOthers := by decide +kernel
set_option maxHeartbeats 4000000 in
set_option maxRecDepth 100000 in
theorem c_X4_standsWithAllOthers_2 (E : gE) (a : Nat → Nat) (lt : RS) (ls : RS) (lw : RS) (lh : RS) (lx : RS) (z0 : Int32) (q0 : RS) (u0 : RS) (t0 : RS) (c0 : RS) (z1 : Int32) (q1 : RS) (u1 : RS) (t1 : RS) (c1 : RS) (z2 : Int32) (q2 : RS) (u2 : RS) (t2 : RS) (c2 : RS) (z3 : Int32) (q3 : RS) (u3 : RS) (t3 : RS) (c3 : RS) (o : (Bool)) (h : f_X4_standsWithAllOthers_2 lt q2 q3 = some o) : Ct E yX4_standsWithAllOthers wsX4_standsWithAllOthers r_X4_standsWithAllOthers_2 [.ref (a 0), .ref (a 38)] (wB E a ++ (wX2 E a 2 lt ls lw lh lx ++ (wX1 E a 18 0 z0 q0 u0 t0 c0 ++ (wX1 E a 28 1 z1 q1 u1 t1 c1 ++ (wX1 E a 38 2 z2 q2 u2 t2 c2 ++ (wX1 E a 48 3 z3 q3 u3 t3 c3 ++ wA E a)))))) (gO (fun u9 => some (.int (bI u9))) (fun u9 => (wB E a ++ (wX2 E a 2 lt ls lw lh lx ++ (wX1 E a 18 0 z0 q0 u0 t0 c0 ++ (wX1 E a 28 1 z1 q1 u1 t1 c1 ++ (wX1 E a 38 2 z2 q2 u2 t2 c2 ++ (wX1 E a 48 3 z3 q3 u3 t3 c3 ++ wA E a))))))) (.inr o)) := by
  refine Ct.of (cc := cX4_standsWithAllOthers) (nL := 6) (ret := ((some .boolean))) (own := RX4) (by decide) rfl rfl (Nat.le_of_ble_eq_true rfl) rfl ?_ ?_
  · intro v w1 hh
    cases hh; rfl
  · intro X C hQ
    rw [f_X4_standsWithAllOthers_2] at h
    refine g_aload_n C 0 rfl rfl dX4_standsWithAllOthers_0 ?_
    refine g_X4_houses C i_X4_standsWithAllOthers_2_X4 m_X4_standsWithAllOthers_2_0 0 rfl dX4_standsWithAllOthers_1 ?_
    refine g_astore_n C (lv2 := [(2, .ref (a 1)), (0, .ref (a 0)), (1, .ref (a 38))]) rfl (by decide) rfl dX4_standsWithAllOthers_4 ?_
    refine g_aload_n C 0 rfl rfl dX4_standsWithAllOthers_5 ?_
    refine g_alen4 C 52 rfl dX4_standsWithAllOthers_6 ?_
    refine g_istore_n C (lv2 := [(3, .int 4), (2, .ref (a 1)), (0, .ref (a 0)), (1, .ref (a 38))]) rfl (by decide) rfl dX4_standsWithAllOthers_7 ?_
    refine g_iconst C (v := 0) (by decide) dX4_standsWithAllOthers_8 ?_
    refine g_istore C (lv2 := [(4, .int 0), (3, .int 4), (2, .ref (a 1)), (0, .ref (a 0)), (1, .ref (a 38))]) rfl (by decide) dX4_standsWithAllOthers_9 ?_
    refine g_iload C 0 rfl dX4_standsWithAllOthers_11 ?_
    refine g_iload_n C 1 rfl rfl dX4_standsWithAllOthers_13 ?_
    refine g_icmp_ge C (tgt := 64) dX4_standsWithAllOthers_14 (by decide) (fun cd1 => absurd cd1 (by decide)) (fun cd1 => ?_)
    refine g_aload_n C 2 rfl rfl dX4_standsWithAllOthers_17 ?_
    refine g_iload C 0 rfl dX4_standsWithAllOthers_18 ?_
    refine g_aald4 C (a9 := (a 18)) 52 rfl (inB_in (by decide +kernel)) rfl dX4_standsWithAllOthers_20 ?_
    refine g_astore C (lv2 := [(5, .ref (a 18)), (4, .int 0), (3, .int 4), (2, .ref (a 1)), (0, .ref (a 0)), (1, .ref (a 38))]) rfl (by decide) dX4_standsWithAllOthers_21 ?_
    refine g_aload C 0 rfl dX4_standsWithAllOthers_23 ?_
    refine g_ifnull C dX4_standsWithAllOthers_25 ?_
    refine g_aload C 0 rfl dX4_standsWithAllOthers_28 ?_
    refine g_X1_numberN C i_X4_standsWithAllOthers_2_X1 (by decide +kernel) 12 rfl dX4_standsWithAllOthers_30 ?_
    refine g_aload_n C 5 rfl rfl dX4_standsWithAllOthers_33 ?_
    refine g_X1_numberN C i_X4_standsWithAllOthers_2_X1 (by decide +kernel) 32 rfl dX4_standsWithAllOthers_34 ?_
    refine g_icmp_le C (tgt := 58) dX4_standsWithAllOthers_37 (by decide) (fun cd2 => ?_) (fun cd2 => absurd cd2 (by decide))
    refine g_iinc C (v := 1) 1 rfl rfl (lv2 := [(4, .int 1), (5, .ref (a 18)), (3, .int 4), (2, .ref (a 1)), (0, .ref (a 0)), (1, .ref (a 38))]) rfl (by decide) dX4_standsWithAllOthers_58 ?_
    refine g_goto C (tgt := 11) dX4_standsWithAllOthers_61 (by decide) ?_
    refine g_iload C 0 rfl dX4_standsWithAllOthers_11 ?_
    refine g_iload_n C 2 rfl rfl dX4_standsWithAllOthers_13 ?_
    refine g_icmp_ge C (tgt := 64) dX4_standsWithAllOthers_14 (by decide) (fun cd3 => absurd cd3 (by decide)) (fun cd3 => ?_)
    refine g_aload_n C 3 rfl rfl dX4_standsWithAllOthers_17 ?_
    refine g_iload C 0 rfl dX4_standsWithAllOthers_18 ?_
    refine g_aald4 C (a9 := (a 28)) 52 rfl (inB_in (by decide +kernel)) rfl dX4_standsWithAllOthers_20 ?_
    refine g_astore C (lv2 := [(5, .ref (a 28)), (4, .int 1), (3, .int 4), (2, .ref (a 1)), (0, .ref (a 0)), (1, .ref (a 38))]) rfl (by decide) dX4_standsWithAllOthers_21 ?_
    refine g_aload C 0 rfl dX4_standsWithAllOthers_23 ?_
    refine g_ifnull C dX4_standsWithAllOthers_25 ?_
    refine g_aload C 0 rfl dX4_standsWithAllOthers_28 ?_
    refine g_X1_numberN C i_X4_standsWithAllOthers_2_X1 (by decide +kernel) 22 rfl dX4_standsWithAllOthers_30 ?_
    refine g_aload_n C 5 rfl rfl dX4_standsWithAllOthers_33 ?_
    refine g_X1_numberN C i_X4_standsWithAllOthers_2_X1 (by decide +kernel) 32 rfl dX4_standsWithAllOthers_34 ?_
    refine g_icmp_le C (tgt := 58) dX4_standsWithAllOthers_37 (by decide) (fun cd4 => ?_) (fun cd4 => absurd cd4 (by decide))
    refine g_iinc C (v := 2) 1 rfl rfl (lv2 := [(4, .int 2), (5, .ref (a 28)), (3, .int 4), (2, .ref (a 1)), (0, .ref (a 0)), (1, .ref (a 38))]) rfl (by decide) dX4_standsWithAllOthers_58 ?_
    refine g_goto C (tgt := 11) dX4_standsWithAllOthers_61 (by decide) ?_
    refine g_iload C 0 rfl dX4_standsWithAllOthers_11 ?_
    refine g_iload_n C 2 rfl rfl dX4_standsWithAllOthers_13 ?_
    refine g_icmp_ge C (tgt := 64) dX4_standsWithAllOthers_14 (by decide) (fun cd5 => absurd cd5 (by decide)) (fun cd5 => ?_)
    refine g_aload_n C 3 rfl rfl dX4_standsWithAllOthers_17 ?_
    refine g_iload C 0 rfl dX4_standsWithAllOthers_18 ?_
    refine g_aald4 C (a9 := (a 38)) 52 rfl (inB_in (by decide +kernel)) rfl dX4_standsWithAllOthers_20 ?_
    refine g_astore C (lv2 := [(5, .ref (a 38)), (4, .int 2), (3, .int 4), (2, .ref (a 1)), (0, .ref (a 0)), (1, .ref (a 38))]) rfl (by decide) dX4_standsWithAllOthers_21 ?_
    refine g_aload C 0 rfl dX4_standsWithAllOthers_23 ?_
    refine g_ifnull C dX4_standsWithAllOthers_25 ?_
    refine g_aload C 0 rfl dX4_standsWithAllOthers_28 ?_
    refine g_X1_numberN C i_X4_standsWithAllOthers_2_X1 (by decide +kernel) 32 rfl dX4_standsWithAllOthers_30 ?_
    refine g_aload_n C 5 rfl rfl dX4_standsWithAllOthers_33 ?_
    refine g_X1_numberN C i_X4_standsWithAllOthers_2_X1 (by decide +kernel) 32 rfl dX4_standsWithAllOthers_34 ?_
    refine g_icmp_le C (tgt := 58) dX4_standsWithAllOthers_37 (by decide) (fun cd6 => ?_) (fun cd6 => absurd cd6 (by decide))
    refine g_iinc C (v := 3) 1 rfl rfl (lv2 := [(4, .int 3), (5, .ref (a 38)), (3, .int 4), (2, .ref (a 1)), (0, .ref (a 0)), (1, .ref (a 38))]) rfl (by decide) dX4_standsWithAllOthers_58 ?_
    refine g_goto C (tgt := 11) dX4_standsWithAllOthers_61 (by decide) ?_
    refine g_iload C 0 rfl dX4_standsWithAllOthers_11 ?_
    refine g_iload_n C 2 rfl rfl dX4_standsWithAllOthers_13 ?_
    refine g_icmp_ge C (tgt := 64) dX4_standsWithAllOthers_14 (by decide) (fun cd7 => absurd cd7 (by decide)) (fun cd7 => ?_)
    refine g_aload_n C 3 rfl rfl dX4_standsWithAllOthers_17 ?_
    refine g_iload C 0 rfl dX4_standsWithAllOthers_18 ?_
    refine g_aald4 C (a9 := (a 48)) 52 rfl (inB_in (by decide +kernel)) rfl dX4_standsWithAllOthers_20 ?_
    refine g_astore C (lv2 := [(5, .ref (a 48)), (4, .int 3), (3, .int 4), (2, .ref (a 1)), (0, .ref (a 0)), (1, .ref (a 38))]) rfl (by decide) dX4_standsWithAllOthers_21 ?_
    refine g_aload C 0 rfl dX4_standsWithAllOthers_23 ?_
    refine g_ifnull C dX4_standsWithAllOthers_25 ?_
    refine g_aload C 0 rfl dX4_standsWithAllOthers_28 ?_
    refine g_X1_numberN C i_X4_standsWithAllOthers_2_X1 (by decide +kernel) 42 rfl dX4_standsWithAllOthers_30 ?_
    refine g_aload_n C 5 rfl rfl dX4_standsWithAllOthers_33 ?_
    refine g_X1_numberN C i_X4_standsWithAllOthers_2_X1 (by decide +kernel) 32 rfl dX4_standsWithAllOthers_34 ?_
    refine g_icmp_le C (tgt := 58) dX4_standsWithAllOthers_37 (by decide) (fun cd8 => absurd cd8 (by decide)) (fun cd8 => ?_)
    refine g_aload_n C 4 rfl rfl dX4_standsWithAllOthers_40 ?_
    refine g_aload_n C 5 rfl rfl dX4_standsWithAllOthers_41 ?_
    refine g_X1_queueN C i_X4_standsWithAllOthers_2_X1 (by decide +kernel) 32 rfl dX4_standsWithAllOthers_42 ?_
    refine g_aload C 0 rfl dX4_standsWithAllOthers_45 ?_
    refine g_X1_queueN C i_X4_standsWithAllOthers_2_X1 (by decide +kernel) 42 rfl dX4_standsWithAllOthers_47 ?_
    refine g_perm (ws2 := (wB E a ++ (wX2 E a 2 lt ls lw lh lx ++ (wX1 E a 38 2 z2 q2 u2 t2 c2 ++ (wX1 E a 48 3 z3 q3 u3 t3 c3 ++ (wX1 E a 18 0 z0 q0 u0 t0 c0 ++ (wX1 E a 28 1 z1 q1 u1 t1 c1 ++ wA E a))))))) (List.Perm.trans (List.Perm.append_left _ (List.Perm.append_left _ (List.Perm.append_left _ (List.perm_append_comm_assoc _ _ _)))) (List.Perm.trans (List.Perm.append_left _ (List.Perm.append_left _ (List.perm_append_comm_assoc _ _ _))) (List.Perm.trans (List.Perm.append_left _ (List.Perm.append_left _ (List.Perm.append_left _ (List.Perm.append_left _ (List.perm_append_comm_assoc _ _ _))))) (List.Perm.append_left _ (List.Perm.append_left _ (List.Perm.append_left _ (List.perm_append_comm_assoc _ _ _))))))) ?_
    obtain ⟨g9, eg9, h⟩ := Option.bind_eq_some_iff.mp h
    refine g_cVr (As := [.ref (a 39), .ref (a 49)]) (n9 := 2) (st := []) (w2 := (wB E a ++ (wX2 E a 2 lt ls lw lh lx ++ (wX1 E a 38 2 z2 q2 u2 t2 c2 ++ (wX1 E a 48 3 z3 q3 u3 t3 c3 ++ (wX1 E a 18 0 z0 q0 u0 t0 c0 ++ (wX1 E a 28 1 z1 q1 u1 t1 c1 ++ wA E a))))))) C (c_X4_standInSequence E a 38 48 lt ls lw lh lx 2 z2 q2 u2 t2 c2 3 z3 q3 u3 t3 c3 g9 eg9) gX4_standsWithAllOthers_X4_standInSequence rfl (by decide +kernel) rfl ⟨by decide, by decide, by decide, by decide, Nat.le_of_ble_eq_true rfl⟩ 0 rfl rfl (gSub.pre (S := (wX1 E a 18 0 z0 q0 u0 t0 c0 ++ (wX1 E a 28 1 z1 q1 u1 t1 c1 ++ wA E a))) (by simp only [List.append_assoc])) (by simp only [List.append_assoc]) dX4_standsWithAllOthers_50 ?_
    refine g_perm (ws2 := (wB E a ++ (wX2 E a 2 lt ls lw lh lx ++ (wX1 E a 18 0 z0 q0 u0 t0 c0 ++ (wX1 E a 28 1 z1 q1 u1 t1 c1 ++ (wX1 E a 38 2 z2 q2 u2 t2 c2 ++ (wX1 E a 48 3 z3 q3 u3 t3 c3 ++ wA E a))))))) (List.Perm.trans (List.Perm.append_left _ (List.Perm.append_left _ (List.Perm.append_left _ (List.perm_append_comm_assoc _ _ _)))) (List.Perm.trans (List.Perm.append_left _ (List.Perm.append_left _ (List.perm_append_comm_assoc _ _ _))) (List.Perm.trans (List.Perm.append_left _ (List.Perm.append_left _ (List.Perm.append_left _ (List.Perm.append_left _ (List.perm_append_comm_assoc _ _ _))))) (List.Perm.append_left _ (List.Perm.append_left _ (List.Perm.append_left _ (List.perm_append_comm_assoc _ _ _))))))) ?_
    refine g_if_ne C (tgt := 58) dX4_standsWithAllOthers_53 (by decide) (fun cd10 => ?_) (fun cd10 => ?_)
    · replace h := (if_neg cd10).symm.trans h
      refine g_iinc C (v := 4) 1 rfl rfl (lv2 := [(4, .int 4), (5, .ref (a 48)), (3, .int 4), (2, .ref (a 1)), (0, .ref (a 0)), (1, .ref (a 38))]) rfl (by decide) dX4_standsWithAllOthers_58 ?_
      refine g_goto C (tgt := 11) dX4_standsWithAllOthers_61 (by decide) ?_
      refine g_iload C 0 rfl dX4_standsWithAllOthers_11 ?_
      refine g_iload_n C 2 rfl rfl dX4_standsWithAllOthers_13 ?_
      refine g_icmp_ge C (tgt := 64) dX4_standsWithAllOthers_14 (by decide) (fun cd11 => ?_) (fun cd11 => absurd cd11 (by decide))
      refine g_iconst C (v := 1) (by decide) dX4_standsWithAllOthers_64 ?_
      obtain rfl := Option.some.inj h
      exact g_zret C hQ rfl rfl ⟨by decide, by decide⟩ dX4_standsWithAllOthers_65
    · replace h := (if_pos cd10).symm.trans h
      refine g_iconst C (v := 0) (by decide) dX4_standsWithAllOthers_56 ?_
      obtain rfl := Option.some.inj h
      exact g_zret C hQ rfl rfl ⟨by decide, by decide⟩ dX4_standsWithAllOthers_57
abbrev r_X4_standsWithAllOthers_3 : Room := { frames := 1, cells := 0, slots := 0, locals := 20 }
theorem m_X4_standsWithAllOthers_3_0 : Cond.fieldLink RX4 18 "Bookinghouse" "houses" "[LBookinghouse$House;" ∈ wsX4_standsWithAllOthers := by decide +kernel
theorem i_X4_standsWithAllOthers_3_X4 : ∀ w ∈ wsX40, w ∈ wsX4_standsWithAllOthers := by decide +kernel
theorem i_X4_standsWithAllOthers_3_X1 : ∀ w ∈ wsX10, w ∈ wsX4_standsWithAllOthers := by decide +kernel
set_option maxHeartbeats 4000000 in
set_option maxRecDepth 100000 in
theorem c_X4_standsWithAllOthers_3 (E : gE) (a : Nat → Nat) (lt : RS) (ls : RS) (lw : RS) (lh : RS) (lx : RS) (z0 : Int32) (q0 : RS) (u0 : RS) (t0 : RS) (c0 : RS) (z1 : Int32) (q1 : RS) (u1 : RS) (t1 : RS) (c1 : RS) (z2 : Int32) (q2 : RS) (u2 : RS) (t2 : RS) (c2 : RS) (z3 : Int32) (q3 : RS) (u3 : RS) (t3 : RS) (c3 : RS) (o : (Bool)) (h : f_X4_standsWithAllOthers_3 = some o) : Ct E yX4_standsWithAllOthers wsX4_standsWithAllOthers r_X4_standsWithAllOthers_3 [.ref (a 0), .ref (a 48)] (wB E a ++ (wX2 E a 2 lt ls lw lh lx ++ (wX1 E a 18 0 z0 q0 u0 t0 c0 ++ (wX1 E a 28 1 z1 q1 u1 t1 c1 ++ (wX1 E a 38 2 z2 q2 u2 t2 c2 ++ (wX1 E a 48 3 z3 q3 u3 t3 c3 ++ wA E a)))))) (gO (fun u9 => some (.int (bI u9))) (fun u9 => (wB E a ++ (wX2 E a 2 lt ls lw lh lx ++ (wX1 E a 18 0 z0 q0 u0 t0 c0 ++ (wX1 E a 28 1 z1 q1 u1 t1 c1 ++ (wX1 E a 38 2 z2 q2 u2 t2 c2 ++ (wX1 E a 48 3 z3 q3 u3 t3 c3 ++ wA E a))))))) (.inr o)) := by
  refine Ct.of (cc := cX4_standsWithAllOthers) (nL := 6) (ret := ((some .boolean))) (own := RX4) (by decide) rfl rfl (Nat.le_of_ble_eq_true rfl) rfl ?_ ?_
  · intro v w1 hh
    cases hh; rfl
  · intro X C hQ
    rw [f_X4_standsWithAllOthers_3] at h
    refine g_aload_n C 0 rfl rfl dX4_standsWithAllOthers_0 ?_
    refine g_X4_houses C i_X4_standsWithAllOthers_3_X4 m_X4_standsWithAllOthers_3_0 0 rfl dX4_standsWithAllOthers_1 ?_
    refine g_astore_n C (lv2 := [(2, .ref (a 1)), (0, .ref (a 0)), (1, .ref (a 48))]) rfl (by decide) rfl dX4_standsWithAllOthers_4 ?_
    refine g_aload_n C 0 rfl rfl dX4_standsWithAllOthers_5 ?_
    refine g_alen4 C 52 rfl dX4_standsWithAllOthers_6 ?_
    refine g_istore_n C (lv2 := [(3, .int 4), (2, .ref (a 1)), (0, .ref (a 0)), (1, .ref (a 48))]) rfl (by decide) rfl dX4_standsWithAllOthers_7 ?_
    refine g_iconst C (v := 0) (by decide) dX4_standsWithAllOthers_8 ?_
    refine g_istore C (lv2 := [(4, .int 0), (3, .int 4), (2, .ref (a 1)), (0, .ref (a 0)), (1, .ref (a 48))]) rfl (by decide) dX4_standsWithAllOthers_9 ?_
    refine g_iload C 0 rfl dX4_standsWithAllOthers_11 ?_
    refine g_iload_n C 1 rfl rfl dX4_standsWithAllOthers_13 ?_
    refine g_icmp_ge C (tgt := 64) dX4_standsWithAllOthers_14 (by decide) (fun cd1 => absurd cd1 (by decide)) (fun cd1 => ?_)
    refine g_aload_n C 2 rfl rfl dX4_standsWithAllOthers_17 ?_
    refine g_iload C 0 rfl dX4_standsWithAllOthers_18 ?_
    refine g_aald4 C (a9 := (a 18)) 52 rfl (inB_in (by decide +kernel)) rfl dX4_standsWithAllOthers_20 ?_
    refine g_astore C (lv2 := [(5, .ref (a 18)), (4, .int 0), (3, .int 4), (2, .ref (a 1)), (0, .ref (a 0)), (1, .ref (a 48))]) rfl (by decide) dX4_standsWithAllOthers_21 ?_
    refine g_aload C 0 rfl dX4_standsWithAllOthers_23 ?_
    refine g_ifnull C dX4_standsWithAllOthers_25 ?_
    refine g_aload C 0 rfl dX4_standsWithAllOthers_28 ?_
    refine g_X1_numberN C i_X4_standsWithAllOthers_3_X1 (by decide +kernel) 12 rfl dX4_standsWithAllOthers_30 ?_
    refine g_aload_n C 5 rfl rfl dX4_standsWithAllOthers_33 ?_
    refine g_X1_numberN C i_X4_standsWithAllOthers_3_X1 (by decide +kernel) 42 rfl dX4_standsWithAllOthers_34 ?_
    refine g_icmp_le C (tgt := 58) dX4_standsWithAllOthers_37 (by decide) (fun cd2 => ?_) (fun cd2 => absurd cd2 (by decide))
    refine g_iinc C (v := 1) 1 rfl rfl (lv2 := [(4, .int 1), (5, .ref (a 18)), (3, .int 4), (2, .ref (a 1)), (0, .ref (a 0)), (1, .ref (a 48))]) rfl (by decide) dX4_standsWithAllOthers_58 ?_
    refine g_goto C (tgt := 11) dX4_standsWithAllOthers_61 (by decide) ?_
    refine g_iload C 0 rfl dX4_standsWithAllOthers_11 ?_
    refine g_iload_n C 2 rfl rfl dX4_standsWithAllOthers_13 ?_
    refine g_icmp_ge C (tgt := 64) dX4_standsWithAllOthers_14 (by decide) (fun cd3 => absurd cd3 (by decide)) (fun cd3 => ?_)
    refine g_aload_n C 3 rfl rfl dX4_standsWithAllOthers_17 ?_
    refine g_iload C 0 rfl dX4_standsWithAllOthers_18 ?_
    refine g_aald4 C (a9 := (a 28)) 52 rfl (inB_in (by decide +kernel)) rfl dX4_standsWithAllOthers_20 ?_
    refine g_astore C (lv2 := [(5, .ref (a 28)), (4, .int 1), (3, .int 4), (2, .ref (a 1)), (0, .ref (a 0)), (1, .ref (a 48))]) rfl (by decide) dX4_standsWithAllOthers_21 ?_
    refine g_aload C 0 rfl dX4_standsWithAllOthers_23 ?_
    refine g_ifnull C dX4_standsWithAllOthers_25 ?_
    refine g_aload C 0 rfl dX4_standsWithAllOthers_28 ?_
    refine g_X1_numberN C i_X4_standsWithAllOthers_3_X1 (by decide +kernel) 22 rfl dX4_standsWithAllOthers_30 ?_
    refine g_aload_n C 5 rfl rfl dX4_standsWithAllOthers_33 ?_
    refine g_X1_numberN C i_X4_standsWithAllOthers_3_X1 (by decide +kernel) 42 rfl dX4_standsWithAllOthers_34 ?_
    refine g_icmp_le C (tgt := 58) dX4_standsWithAllOthers_37 (by decide) (fun cd4 => ?_) (fun cd4 => absurd cd4 (by decide))
    refine g_iinc C (v := 2) 1 rfl rfl (lv2 := [(4, .int 2), (5, .ref (a 28)), (3, .int 4), (2, .ref (a 1)), (0, .ref (a 0)), (1, .ref (a 48))]) rfl (by decide) dX4_standsWithAllOthers_58 ?_
    refine g_goto C (tgt := 11) dX4_standsWithAllOthers_61 (by decide) ?_
    refine g_iload C 0 rfl dX4_standsWithAllOthers_11 ?_
    refine g_iload_n C 2 rfl rfl dX4_standsWithAllOthers_13 ?_
    refine g_icmp_ge C (tgt := 64) dX4_standsWithAllOthers_14 (by decide) (fun cd5 => absurd cd5 (by decide)) (fun cd5 => ?_)
    refine g_aload_n C 3 rfl rfl dX4_standsWithAllOthers_17 ?_
    refine g_iload C 0 rfl dX4_standsWithAllOthers_18 ?_
    refine g_aald4 C (a9 := (a 38)) 52 rfl (inB_in (by decide +kernel)) rfl dX4_standsWithAllOthers_20 ?_
    refine g_astore C (lv2 := [(5, .ref (a 38)), (4, .int 2), (3, .int 4), (2, .ref (a 1)), (0, .ref (a 0)), (1, .ref (a 48))]) rfl (by decide) dX4_standsWithAllOthers_21 ?_
    refine g_aload C 0 rfl dX4_standsWithAllOthers_23 ?_
    refine g_ifnull C dX4_standsWithAllOthers_25 ?_
    refine g_aload C 0 rfl dX4_standsWithAllOthers_28 ?_
    refine g_X1_numberN C i_X4_standsWithAllOthers_3_X1 (by decide +kernel) 32 rfl dX4_standsWithAllOthers_30 ?_
    refine g_aload_n C 5 rfl rfl dX4_standsWithAllOthers_33 ?_
    refine g_X1_numberN C i_X4_standsWithAllOthers_3_X1 (by decide +kernel) 42 rfl dX4_standsWithAllOthers_34 ?_
    refine g_icmp_le C (tgt := 58) dX4_standsWithAllOthers_37 (by decide) (fun cd6 => ?_) (fun cd6 => absurd cd6 (by decide))
    refine g_iinc C (v := 3) 1 rfl rfl (lv2 := [(4, .int 3), (5, .ref (a 38)), (3, .int 4), (2, .ref (a 1)), (0, .ref (a 0)), (1, .ref (a 48))]) rfl (by decide) dX4_standsWithAllOthers_58 ?_
    refine g_goto C (tgt := 11) dX4_standsWithAllOthers_61 (by decide) ?_
    refine g_iload C 0 rfl dX4_standsWithAllOthers_11 ?_
    refine g_iload_n C 2 rfl rfl dX4_standsWithAllOthers_13 ?_
    refine g_icmp_ge C (tgt := 64) dX4_standsWithAllOthers_14 (by decide) (fun cd7 => absurd cd7 (by decide)) (fun cd7 => ?_)
    refine g_aload_n C 3 rfl rfl dX4_standsWithAllOthers_17 ?_
    refine g_iload C 0 rfl dX4_standsWithAllOthers_18 ?_
    refine g_aald4 C (a9 := (a 48)) 52 rfl (inB_in (by decide +kernel)) rfl dX4_standsWithAllOthers_20 ?_
    refine g_astore C (lv2 := [(5, .ref (a 48)), (4, .int 3), (3, .int 4), (2, .ref (a 1)), (0, .ref (a 0)), (1, .ref (a 48))]) rfl (by decide) dX4_standsWithAllOthers_21 ?_
    refine g_aload C 0 rfl dX4_standsWithAllOthers_23 ?_
    refine g_ifnull C dX4_standsWithAllOthers_25 ?_
    refine g_aload C 0 rfl dX4_standsWithAllOthers_28 ?_
    refine g_X1_numberN C i_X4_standsWithAllOthers_3_X1 (by decide +kernel) 42 rfl dX4_standsWithAllOthers_30 ?_
    refine g_aload_n C 5 rfl rfl dX4_standsWithAllOthers_33 ?_
    refine g_X1_numberN C i_X4_standsWithAllOthers_3_X1 (by decide +kernel) 42 rfl dX4_standsWithAllOthers_34 ?_
    refine g_icmp_le C (tgt := 58) dX4_standsWithAllOthers_37 (by decide) (fun cd8 => ?_) (fun cd8 => absurd cd8 (by decide))
    refine g_iinc C (v := 4) 1 rfl rfl (lv2 := [(4, .int 4), (5, .ref (a 48)), (3, .int 4), (2, .ref (a 1)), (0, .ref (a 0)), (1, .ref (a 48))]) rfl (by decide) dX4_standsWithAllOthers_58 ?_
    refine g_goto C (tgt := 11) dX4_standsWithAllOthers_61 (by decide) ?_
    refine g_iload C 0 rfl dX4_standsWithAllOthers_11 ?_
    refine g_iload_n C 2 rfl rfl dX4_standsWithAllOthers_13 ?_
    refine g_icmp_ge C (tgt := 64) dX4_standsWithAllOthers_14 (by decide) (fun cd9 => ?_) (fun cd9 => absurd cd9 (by decide))
    refine g_iconst C (v := 1) (by decide) dX4_standsWithAllOthers_64 ?_
    obtain rfl := Option.some.inj h
    exact g_zret C hQ rfl rfl ⟨by decide, by decide⟩ dX4_standsWithAllOthers_65
