/-! bc: pure functions, printed by wip/whole/gen.py out of the bytecode, and their walks -/
def l_X4_move_80 (lt : RS) (nu2 : Int32) (v2 : Int32) (v4 : Int32) : Nat → Int32 → RS → RS → RS → RS → Option (String ⊕ (Int32 × RS × RS × RS × RS))
  | 0, _, _, _, _, _ => none
  | F + 1, v5, lhc, lxc, q2c, qc => (if v4 ≤ v5 then some (.inr (v4, lhc, lxc, q2c, qc)) else ((f_X3_remove 48 qc v2).bind fun g2 => ((f_X4_enqueue lt lhc lxc nu2 q2c g2.1).bind fun g3 => l_X4_move_80 lt nu2 v2 v4 F (v5 + 1) g3.1 g3.2.1 g3.2.2 g2.2)))
def b_X4_move_52 (lt : RS) (lh : RS) (lx : RS) (q : RS) (nu2 : Int32) (q2 : RS) (v2 : Int32) (v4 : Int32) : Option (String ⊕ (Int32 × RS × RS × RS × RS)) := ((f_X3_size q2).bind fun g1 => (if (g1 + v4) ≤ 48 then l_X4_move_80 lt nu2 v2 v4 FU 0 lh lx q2 q else some (.inl "java/lang/IllegalStateException")))
def f_X4_move (lt : RS) (lh : RS) (lx : RS) (q : RS) (nu2 : Int32) (z2 : Int32) (q2 : RS) (p2 : Int32) : Option (String ⊕ (Int32 × RS × RS × RS × RS)) := ((f_X3_size q).bind fun g1 => (if (g1 - p2) ≤ 0 then b_X4_move_52 lt lh lx q nu2 q2 p2 (g1 - p2) else ((f_X3_get 48 q p2).bind fun g3 => ((f_X3_get 120 lt g3).bind fun g4 => (if z2 ≤ g4 then b_X4_move_52 lt lh lx q nu2 q2 p2 (g1 - p2) else some (.inl "java/lang/IllegalStateException"))))))
abbrev r_X4_move : Room := { frames := 7, cells := 1, slots := 6, locals := 120 }
theorem i_X4_move_X1 : ∀ w ∈ wsX10, w ∈ wsX4_move := by decide +kernel
theorem m_X4_move_1 : Cond.fieldLink RX4 10 "Bookinghouse" "ledger" "LBookinghouse$Ledger;" ∈ wsX4_move := by decide +kernel
theorem i_X4_move_X4 : ∀ w ∈ wsX40, w ∈ wsX4_move := by decide +kernel
theorem i_X4_move_X2 : ∀ w ∈ wsX20, w ∈ wsX4_move := by decide +kernel
theorem tf_X4_move_105 : gTh wsX4_move RX4 "java/lang/IllegalStateException" 105 109 := ⟨by decide +kernel, by decide +kernel, by decide +kernel, by decide +kernel, by decide +kernel, by decide +kernel⟩
set_option maxHeartbeats 4000000 in
set_option maxRecDepth 100000 in
theorem w_X4_move_80 {E : gE} {X : gX} {a : Nat → Nat} {i : Nat} {j : Nat} {lt : RS} {ls : RS} {lw : RS} {lh : RS} {lx : RS} {nu : Int32} {z : Int32} {q : RS} {u : RS} {t : RS} {c : RS} {nu2 : Int32} {z2 : Int32} {q2 : RS} {u2 : RS} {t2 : RS} {c2 : RS} {v2 : Int32} {v4 : Int32} {o : (String ⊕ (Int32 × RS × RS × RS × RS))} (C : Cx E X cX4_move 6 RX4 wsX4_move r_X4_move ((some .int)) []) (hQ : gQ E X (wB E a ++ (wX2 E a 2 lt ls lw lh lx ++ (wX1 E a j nu2 z2 q2 u2 t2 c2 ++ wX1 E a i nu z q u t c))) r_X4_move (gO (fun u9 => some (.int u9.1)) (fun u9 => (wB E a ++ (wX2 E a 2 lt ls lw u9.2.1 u9.2.2.1 ++ (wX1 E a j nu2 z2 u9.2.2.2.1 u2 t2 c2 ++ wX1 E a i nu z u9.2.2.2.2 u t c)))) o)) : ∀ (F : Nat) (v5 : Int32) (lhc : RS) (lxc : RS) (q2c : RS) (qc : RS), l_X4_move_80 lt nu2 v2 v4 F v5 lhc lxc q2c qc = some o → Gx E X (wB E a ++ (wX2 E a 2 lt ls lw lhc lxc ++ (wX1 E a j nu2 z2 q2c u2 t2 c2 ++ wX1 E a i nu z qc u t c))) 6 [(0, .ref (a 0)), (1, .ref (a i)), (2, .int v2), (3, .ref (a j)), (4, .int v4), (5, .int v5)] [] 80 0 0 := by
  intro F
  induction F with
  | zero => intro v5 lhc lxc q2c qc h; exact absurd h (by simp [l_X4_move_80])
  | succ F ih =>
    intro v5 lhc lxc q2c qc h
    rw [l_X4_move_80] at h
    refine g_iload C 5 rfl dX4_move_80 ?_
    refine g_iload C 4 rfl dX4_move_82 ?_
    refine g_icmp_ge C (tgt := 106) dX4_move_84 (by decide) (fun cd1 => ?_) (fun cd1 => ?_)
    · replace h := (if_pos cd1).symm.trans h
      refine g_iload C 4 rfl dX4_move_106 ?_
      obtain rfl := Option.some.inj h
      exact g_iret C hQ (by dsimp only [gO]) ⟨by decide, by decide⟩ dX4_move_108
    · replace h := (if_neg cd1).symm.trans h
      refine g_aload_n C 0 rfl rfl dX4_move_87 ?_
      refine g_aload_n C 3 rfl rfl dX4_move_88 ?_
      refine g_aload_n C 1 rfl rfl dX4_move_89 ?_
      refine g_X1_queueN C i_X4_move_X1 (by decide +kernel) 22 rfl dX4_move_90 ?_
      refine g_iload_n C 2 rfl rfl dX4_move_93 ?_
      obtain ⟨g2, eg2, h⟩ := Option.bind_eq_some_iff.mp h
      refine g_cVr (As := [.int v2]) (n9 := 1) (st := [.ref (a j), .ref (a 0)]) (w2 := (wB E a ++ (wX2 E a 2 lt ls lw lhc lxc ++ (wX1 E a j nu2 z2 q2c u2 t2 c2 ++ wX1 E a i nu z g2.2 u t c)))) C (c_X3_remove E (a (i + 1)) (a (i + 2)) 48 qc v2 g2 eg2) gX4_move_X3_remove rfl (by decide +kernel) rfl ⟨by decide, by decide, by decide, by decide, Nat.le_of_ble_eq_true rfl⟩ 0 rfl rfl (gSub.idx [23, 24] rfl rfl) rfl dX4_move_94 ?_
      obtain ⟨g3, eg3, h⟩ := Option.bind_eq_some_iff.mp h
      refine g_cVv (As := [.ref (a j), .int g2.1]) (n9 := 2) (st := []) (w2 := (wB E a ++ (wX2 E a 2 lt ls lw g3.1 g3.2.1 ++ (wX1 E a j nu2 z2 g3.2.2 u2 t2 c2 ++ wX1 E a i nu z g2.2 u t c)))) C (c_X4_enqueue E a j lt ls lw lhc lxc nu2 z2 q2c u2 t2 c2 g2.1 g3 eg3) gX4_move_X4_enqueue rfl (by decide +kernel) rfl ⟨by decide, by decide, by decide, by decide, Nat.le_of_ble_eq_true rfl⟩ 0 rfl rfl (gSub.pre (S := (wX1 E a i nu z g2.2 u t c)) (by simp only [List.append_assoc])) (by simp only [List.append_assoc]) dX4_move_97 ?_
      refine g_iinc C (v := v5 + 1) 5 rfl rfl (lv2 := [(5, .int (v5 + 1)), (0, .ref (a 0)), (1, .ref (a i)), (2, .int v2), (3, .ref (a j)), (4, .int v4)]) rfl (by decide) dX4_move_100 ?_
      refine g_goto C (tgt := 80) dX4_move_103 (by decide) ?_
      refine g_lv [1, 2, 3, 4, 5, 0] (lv2 := [(0, .ref (a 0)), (1, .ref (a i)), (2, .int v2), (3, .ref (a j)), (4, .int v4), (5, .int (v5 + 1))]) rfl ?_
      exact ih (v5 + 1) g3.1 g3.2.1 g3.2.2 g2.2 h
set_option maxHeartbeats 4000000 in
set_option maxRecDepth 100000 in
theorem v_X4_move_52 {E : gE} {X : gX} {a : Nat → Nat} {i : Nat} {j : Nat} {lt : RS} {ls : RS} {lw : RS} {lh : RS} {lx : RS} {nu : Int32} {z : Int32} {q : RS} {u : RS} {t : RS} {c : RS} {nu2 : Int32} {z2 : Int32} {q2 : RS} {u2 : RS} {t2 : RS} {c2 : RS} {v2 : Int32} {v4 : Int32} {o : (String ⊕ (Int32 × RS × RS × RS × RS))} (C : Cx E X cX4_move 6 RX4 wsX4_move r_X4_move ((some .int)) []) (hQ : gQ E X (wB E a ++ (wX2 E a 2 lt ls lw lh lx ++ (wX1 E a j nu2 z2 q2 u2 t2 c2 ++ wX1 E a i nu z q u t c))) r_X4_move (gO (fun u9 => some (.int u9.1)) (fun u9 => (wB E a ++ (wX2 E a 2 lt ls lw u9.2.1 u9.2.2.1 ++ (wX1 E a j nu2 z2 u9.2.2.2.1 u2 t2 c2 ++ wX1 E a i nu z u9.2.2.2.2 u t c)))) o)) (h : b_X4_move_52 lt lh lx q nu2 q2 v2 v4 = some o) : Gx E X (wB E a ++ (wX2 E a 2 lt ls lw lh lx ++ (wX1 E a j nu2 z2 q2 u2 t2 c2 ++ wX1 E a i nu z q u t c))) 6 [(0, .ref (a 0)), (1, .ref (a i)), (2, .int v2), (3, .ref (a j)), (4, .int v4)] [] 52 0 0 := by
  rw [b_X4_move_52] at h
  refine g_aload_n C 3 rfl rfl dX4_move_52 ?_
  refine g_X1_queueN C i_X4_move_X1 (by decide +kernel) 12 rfl dX4_move_53 ?_
  obtain ⟨g1, eg1, h⟩ := Option.bind_eq_some_iff.mp h
  refine g_cVr (As := []) (n9 := 0) (st := []) (w2 := (wB E a ++ (wX2 E a 2 lt ls lw lh lx ++ (wX1 E a j nu2 z2 q2 u2 t2 c2 ++ wX1 E a i nu z q u t c)))) C (c_X3_size E (a (j + 1)) (a (j + 2)) 48 q2 g1 eg1) gX4_move_X3_size rfl (by decide +kernel) rfl ⟨by decide, by decide, by decide, by decide, Nat.le_of_ble_eq_true rfl⟩ 0 rfl rfl (gSub.idx [13, 14] rfl rfl) rfl dX4_move_56 ?_
  refine g_iload C 4 rfl dX4_move_59 ?_
  refine g_iadd C dX4_move_61 ?_
  refine g_bipush C (v := 48) (by decide) dX4_move_62 ?_
  refine g_icmp_le C (tgt := 77) dX4_move_64 (by decide) (fun cd2 => ?_) (fun cd2 => ?_)
  · replace h := (if_pos cd2).symm.trans h
    refine g_iconst C (v := 0) (by decide) dX4_move_77 ?_
    refine g_istore C (lv2 := [(5, .int 0), (0, .ref (a 0)), (1, .ref (a i)), (2, .int v2), (3, .ref (a j)), (4, .int v4)]) rfl (by decide) dX4_move_78 ?_
    refine g_lv [1, 2, 3, 4, 5, 0] (lv2 := [(0, .ref (a 0)), (1, .ref (a i)), (2, .int v2), (3, .ref (a j)), (4, .int v4), (5, .int 0)]) rfl ?_
    exact w_X4_move_80 (v2 := v2) (v4 := v4) C hQ FU 0 lh lx q2 q h
  · replace h := (if_neg cd2).symm.trans h
    obtain rfl := Option.some.inj h
    exact g_throwS C hQ rfl rfl tf_X4_move_105 (text := "more than 48 would wait in the house") (is9 := 144) (by decide +kernel) ⟨by decide, Nat.le_of_ble_eq_true rfl, by decide, by decide, by decide, by decide⟩ dX4_move_67 dX4_move_70 dX4_move_71 dX4_move_73 dX4_move_76
set_option maxHeartbeats 4000000 in
set_option maxRecDepth 100000 in
theorem c_X4_move (E : gE) (a : Nat → Nat) (i : Nat) (j : Nat) (lt : RS) (ls : RS) (lw : RS) (lh : RS) (lx : RS) (nu : Int32) (z : Int32) (q : RS) (u : RS) (t : RS) (c : RS) (nu2 : Int32) (z2 : Int32) (q2 : RS) (u2 : RS) (t2 : RS) (c2 : RS) (p2 : Int32) (o : (String ⊕ (Int32 × RS × RS × RS × RS))) (h : f_X4_move lt lh lx q nu2 z2 q2 p2 = some o) : Ct E yX4_move wsX4_move r_X4_move [.ref (a 0), .ref (a i), .int p2, .ref (a j)] (wB E a ++ (wX2 E a 2 lt ls lw lh lx ++ (wX1 E a j nu2 z2 q2 u2 t2 c2 ++ wX1 E a i nu z q u t c))) (gO (fun u9 => some (.int u9.1)) (fun u9 => (wB E a ++ (wX2 E a 2 lt ls lw u9.2.1 u9.2.2.1 ++ (wX1 E a j nu2 z2 u9.2.2.2.1 u2 t2 c2 ++ wX1 E a i nu z u9.2.2.2.2 u t c)))) o) := by
  refine Ct.of (cc := cX4_move) (nL := 6) (ret := ((some .int))) (own := RX4) (by decide) rfl rfl (Nat.le_of_ble_eq_true rfl) rfl ?_ ?_
  · intro v w1 hh
    cases o <;> cases hh <;> rfl
  · intro X C hQ
    rw [f_X4_move] at h
    refine g_aload_n C 1 rfl rfl dX4_move_0 ?_
    refine g_X1_queueN C i_X4_move_X1 (by decide +kernel) 22 rfl dX4_move_1 ?_
    obtain ⟨g1, eg1, h⟩ := Option.bind_eq_some_iff.mp h
    refine g_cVr (As := []) (n9 := 0) (st := []) (w2 := (wB E a ++ (wX2 E a 2 lt ls lw lh lx ++ (wX1 E a j nu2 z2 q2 u2 t2 c2 ++ wX1 E a i nu z q u t c)))) C (c_X3_size E (a (i + 1)) (a (i + 2)) 48 q g1 eg1) gX4_move_X3_size rfl (by decide +kernel) rfl ⟨by decide, by decide, by decide, by decide, Nat.le_of_ble_eq_true rfl⟩ 0 rfl rfl (gSub.idx [23, 24] rfl rfl) rfl dX4_move_4 ?_
    refine g_iload_n C 2 rfl rfl dX4_move_7 ?_
    refine g_isub C dX4_move_8 ?_
    refine g_istore C (lv2 := [(4, .int (g1 - p2)), (0, .ref (a 0)), (1, .ref (a i)), (2, .int p2), (3, .ref (a j))]) rfl (by decide) dX4_move_9 ?_
    refine g_iload C 0 rfl dX4_move_11 ?_
    refine g_if_le C (tgt := 52) dX4_move_13 (by decide) (fun cd2 => ?_) (fun cd2 => ?_)
    · replace h := (if_pos cd2).symm.trans h
      refine g_lv [1, 2, 3, 4, 0] (lv2 := [(0, .ref (a 0)), (1, .ref (a i)), (2, .int p2), (3, .ref (a j)), (4, .int (g1 - p2))]) rfl ?_
      exact v_X4_move_52 (v2 := p2) (v4 := (g1 - p2)) C hQ h
    · replace h := (if_neg cd2).symm.trans h
      refine g_aload_n C 1 rfl rfl dX4_move_16 ?_
      refine g_X4_ledger C i_X4_move_X4 m_X4_move_1 0 rfl dX4_move_17 ?_
      refine g_X2_timesN C i_X4_move_X2 (by decide +kernel) 1 rfl dX4_move_20 ?_
      refine g_aload_n C 2 rfl rfl dX4_move_23 ?_
      refine g_X1_queueN C i_X4_move_X1 (by decide +kernel) 22 rfl dX4_move_24 ?_
      refine g_iload_n C 3 rfl rfl dX4_move_27 ?_
      obtain ⟨g3, eg3, h⟩ := Option.bind_eq_some_iff.mp h
      refine g_cVr (As := [.int p2]) (n9 := 1) (st := [.ref (a 3)]) (w2 := (wB E a ++ (wX2 E a 2 lt ls lw lh lx ++ (wX1 E a j nu2 z2 q2 u2 t2 c2 ++ wX1 E a i nu z q u t c)))) C (c_X3_get E (a (i + 1)) (a (i + 2)) 48 q p2 g3 eg3) gX4_move_X3_get rfl (by decide +kernel) rfl ⟨by decide, by decide, by decide, by decide, Nat.le_of_ble_eq_true rfl⟩ 0 rfl rfl (gSub.idx [23, 24] rfl rfl) rfl dX4_move_28 ?_
      obtain ⟨g4, eg4, h⟩ := Option.bind_eq_some_iff.mp h
      refine g_cVr (As := [.int g3]) (n9 := 1) (st := []) (w2 := (wB E a ++ (wX2 E a 2 lt ls lw lh lx ++ (wX1 E a j nu2 z2 q2 u2 t2 c2 ++ wX1 E a i nu z q u t c)))) C (c_X3_get E (a 3) (a 4) 120 lt g3 g4 eg4) gX4_move_X3_get rfl (by decide +kernel) rfl ⟨by decide, by decide, by decide, by decide, Nat.le_of_ble_eq_true rfl⟩ 0 rfl rfl (gSub.idx [2, 3] rfl rfl) rfl dX4_move_31 ?_
      refine g_aload_n C 4 rfl rfl dX4_move_34 ?_
      refine g_X1_nowN C i_X4_move_X1 (by decide +kernel) 12 rfl dX4_move_35 ?_
      refine g_icmp_ge C (tgt := 52) dX4_move_38 (by decide) (fun cd5 => ?_) (fun cd5 => ?_)
      · replace h := (if_pos cd5).symm.trans h
        refine g_lv [1, 2, 3, 4, 0] (lv2 := [(0, .ref (a 0)), (1, .ref (a i)), (2, .int p2), (3, .ref (a j)), (4, .int (g1 - p2))]) rfl ?_
        exact v_X4_move_52 (v2 := p2) (v4 := (g1 - p2)) C hQ h
      · replace h := (if_neg cd5).symm.trans h
        obtain rfl := Option.some.inj h
        exact g_throwSW C hQ rfl rfl tf_X4_move_105 (text := "a time is below the clock of the house") (is9 := 286) (by decide +kernel) ⟨by decide, Nat.le_of_ble_eq_true rfl, by decide, by decide, by decide, by decide⟩ dX4_move_41 dX4_move_44 dX4_move_45 dX4_move_48 dX4_move_51
