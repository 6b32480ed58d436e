/-! bd: pure functions, printed by wip/whole/gen.py out of the bytecode, and their walks -/
def b_X4_standInSequence_122 (ko19 : Int32 → Int32 → Int32 → Option (Bool)) (v3 : Int32) (v4 : Int32) (v6 : Int32) (v8 : Bool) (v9 : Int32) : Option (Bool) := (if (bI v8) = 0 then ko19 (v4 + 0) v9 (v6 + 1) else ko19 (v4 + 1) v9 (v6 + 1))
def b_X4_standInSequence_99 (lt : RS) (ko19 : Int32 → Int32 → Int32 → Option (Bool)) (v3 : Int32) (v4 : Int32) (v5 : Int32) (v6 : Int32) (v8 : Bool) (s0 : Int32) : Option (Bool) := (if v5 < 0 then b_X4_standInSequence_122 ko19 v3 v4 v6 v8 s0 else ((f_X2_isAhead lt v5 s0).bind fun g2 => (if (bI g2) = 0 then some false else b_X4_standInSequence_122 ko19 v3 v4 v6 v8 s0)))
def b_X4_standInSequence_77 (lt : RS) (q : RS) (q2 : RS) (ko19 : Int32 → Int32 → Int32 → Option (Bool)) (v3 : Int32) (v4 : Int32) (v5 : Int32) (v6 : Int32) (v7 : Int32) (s0 : Bool) : Option (Bool) := (if (bI s0) = 0 then ((f_X3_get 48 q2 v7).bind fun g2 => b_X4_standInSequence_99 lt ko19 v3 v4 v5 v6 s0 g2) else ((f_X3_get 48 q v4).bind fun g3 => b_X4_standInSequence_99 lt ko19 v3 v4 v5 v6 s0 g3))
def l_X4_standInSequence_19 (lt : RS) (q : RS) (q2 : RS) (v3 : Int32) : Nat → Int32 → Int32 → Int32 → Option (Bool)
  | 0, _, _, _ => none
  | F + 1, v4, v5, v6 => (if v3 ≤ v6 then some true else ((f_X3_size q2).bind fun g2 => (if g2 ≤ (v6 - v4) then b_X4_standInSequence_77 lt q q2 (fun qv4 qv5 qv6 => l_X4_standInSequence_19 lt q q2 v3 F qv4 qv5 qv6) v3 v4 v5 v6 (v6 - v4) true else ((f_X3_size q).bind fun g4 => (if g4 ≤ v4 then b_X4_standInSequence_77 lt q q2 (fun qv4 qv5 qv6 => l_X4_standInSequence_19 lt q q2 v3 F qv4 qv5 qv6) v3 v4 v5 v6 (v6 - v4) false else ((f_X3_get 48 q v4).bind fun g6 => ((f_X3_get 48 q2 (v6 - v4)).bind fun g7 => ((f_X2_isAhead lt g6 g7).bind fun g8 => (if (bI g8) = 0 then b_X4_standInSequence_77 lt q q2 (fun qv4 qv5 qv6 => l_X4_standInSequence_19 lt q q2 v3 F qv4 qv5 qv6) v3 v4 v5 v6 (v6 - v4) false else b_X4_standInSequence_77 lt q q2 (fun qv4 qv5 qv6 => l_X4_standInSequence_19 lt q q2 v3 F qv4 qv5 qv6) v3 v4 v5 v6 (v6 - v4) true)))))))))
def f_X4_standInSequence (lt : RS) (q : RS) (q2 : RS) : Option (Bool) := ((f_X3_size q).bind fun g1 => ((f_X3_size q2).bind fun g2 => l_X4_standInSequence_19 lt q q2 (g1 + g2) FU 0 (-1) 0))
abbrev r_X4_standInSequence : Room := { frames := 4, cells := 0, slots := 0, locals := 86 }
theorem m_X4_standInSequence_0 : Cond.fieldLink RX4 10 "Bookinghouse" "ledger" "LBookinghouse$Ledger;" ∈ wsX4_standInSequence := by decide +kernel
theorem i_X4_standInSequence_X4 : ∀ w ∈ wsX40, w ∈ wsX4_standInSequence := by decide +kernel
set_option maxHeartbeats 4000000 in
set_option maxRecDepth 100000 in
theorem v_X4_standInSequence_122 {E : gE} {X : gX} {a : Nat → Nat} {i : Nat} {j : Nat} {lt : RS} {ls : RS} {lw : RS} {lh : RS} {lx : RS} {nu : Int32} {z : Int32} {q : RS} {u : RS} {t : RS} {c : RS} {nu2 : Int32} {z2 : Int32} {q2 : RS} {u2 : RS} {t2 : RS} {c2 : RS} {v3 : Int32} {v4 : Int32} {v6 : Int32} {v8 : Bool} {v9 : Int32} {ko19 : Int32 → Int32 → Int32 → Option (Bool)} {o : (Bool)} (C : Cx E X cX4_standInSequence 10 RX4 wsX4_standInSequence r_X4_standInSequence ((some .boolean)) []) (hQ : gQ E X (wB E a ++ (wX2 E a 2 lt ls lw lh lx ++ (wX1 E a i nu z q u t c ++ wX1 E a j nu2 z2 q2 u2 t2 c2))) r_X4_standInSequence (gO (fun u9 => some (.int (bI u9))) (fun u9 => (wB E a ++ (wX2 E a 2 lt ls lw lh lx ++ (wX1 E a i nu z q u t c ++ wX1 E a j nu2 z2 q2 u2 t2 c2)))) (.inr o))) (Hko19 : ∀ (qv4 : Int32) (qv5 : Int32) (qv6 : Int32), ko19 qv4 qv5 qv6 = some o → Gx E X (wB E a ++ (wX2 E a 2 lt ls lw lh lx ++ (wX1 E a i nu z q u t c ++ wX1 E a j nu2 z2 q2 u2 t2 c2))) 10 [(0, .ref (a 0)), (1, .ref (a (i + 1))), (2, .ref (a (j + 1))), (3, .int v3), (4, .int qv4), (5, .int qv5), (6, .int qv6)] [] 19 0 0) (h : b_X4_standInSequence_122 ko19 v3 v4 v6 v8 v9 = some o) : Gx E X (wB E a ++ (wX2 E a 2 lt ls lw lh lx ++ (wX1 E a i nu z q u t c ++ wX1 E a j nu2 z2 q2 u2 t2 c2))) 10 [(0, .ref (a 0)), (1, .ref (a (i + 1))), (2, .ref (a (j + 1))), (3, .int v3), (4, .int v4), (6, .int v6), (8, .int (bI v8)), (9, .int v9)] [] 122 0 0 := by
  rw [b_X4_standInSequence_122] at h
  refine g_iload C 7 rfl dX4_standInSequence_122 ?_
  refine g_istore C (lv2 := [(5, .int v9), (0, .ref (a 0)), (1, .ref (a (i + 1))), (2, .ref (a (j + 1))), (3, .int v3), (4, .int v4), (6, .int v6), (8, .int (bI v8)), (9, .int v9)]) rfl (by decide) dX4_standInSequence_124 ?_
  refine g_iload C 5 rfl dX4_standInSequence_126 ?_
  refine g_iload C 7 rfl dX4_standInSequence_128 ?_
  refine g_if_eq C (tgt := 137) dX4_standInSequence_130 (by decide) (fun cd1 => ?_) (fun cd1 => ?_)
  · replace h := (if_pos cd1).symm.trans h
    refine g_iconst C (v := 0) (by decide) dX4_standInSequence_137 ?_
    refine g_iadd C dX4_standInSequence_138 ?_
    refine g_istore C (lv2 := [(4, .int (v4 + 0)), (5, .int v9), (0, .ref (a 0)), (1, .ref (a (i + 1))), (2, .ref (a (j + 1))), (3, .int v3), (6, .int v6), (8, .int (bI v8)), (9, .int v9)]) rfl (by decide) dX4_standInSequence_139 ?_
    refine g_iinc C (v := v6 + 1) 6 rfl rfl (lv2 := [(6, .int (v6 + 1)), (4, .int (v4 + 0)), (5, .int v9), (0, .ref (a 0)), (1, .ref (a (i + 1))), (2, .ref (a (j + 1))), (3, .int v3), (8, .int (bI v8)), (9, .int v9)]) rfl (by decide) dX4_standInSequence_141 ?_
    refine g_goto C (tgt := 19) dX4_standInSequence_144 (by decide) ?_
    refine g_lv [3, 4, 5, 6, 1, 2, 0] (lv2 := [(0, .ref (a 0)), (1, .ref (a (i + 1))), (2, .ref (a (j + 1))), (3, .int v3), (4, .int (v4 + 0)), (5, .int v9), (6, .int (v6 + 1))]) rfl ?_
    exact Hko19 (v4 + 0) v9 (v6 + 1) h
  · replace h := (if_neg cd1).symm.trans h
    refine g_iconst C (v := 1) (by decide) dX4_standInSequence_133 ?_
    refine g_goto C (tgt := 138) dX4_standInSequence_134 (by decide) ?_
    refine g_iadd C dX4_standInSequence_138 ?_
    refine g_istore C (lv2 := [(4, .int (v4 + 1)), (5, .int v9), (0, .ref (a 0)), (1, .ref (a (i + 1))), (2, .ref (a (j + 1))), (3, .int v3), (6, .int v6), (8, .int (bI v8)), (9, .int v9)]) rfl (by decide) dX4_standInSequence_139 ?_
    refine g_iinc C (v := v6 + 1) 6 rfl rfl (lv2 := [(6, .int (v6 + 1)), (4, .int (v4 + 1)), (5, .int v9), (0, .ref (a 0)), (1, .ref (a (i + 1))), (2, .ref (a (j + 1))), (3, .int v3), (8, .int (bI v8)), (9, .int v9)]) rfl (by decide) dX4_standInSequence_141 ?_
    refine g_goto C (tgt := 19) dX4_standInSequence_144 (by decide) ?_
    refine g_lv [3, 4, 5, 6, 1, 2, 0] (lv2 := [(0, .ref (a 0)), (1, .ref (a (i + 1))), (2, .ref (a (j + 1))), (3, .int v3), (4, .int (v4 + 1)), (5, .int v9), (6, .int (v6 + 1))]) rfl ?_
    exact Hko19 (v4 + 1) v9 (v6 + 1) h
set_option maxHeartbeats 4000000 in
set_option maxRecDepth 100000 in
theorem v_X4_standInSequence_99 {E : gE} {X : gX} {a : Nat → Nat} {i : Nat} {j : Nat} {lt : RS} {ls : RS} {lw : RS} {lh : RS} {lx : RS} {nu : Int32} {z : Int32} {q : RS} {u : RS} {t : RS} {c : RS} {nu2 : Int32} {z2 : Int32} {q2 : RS} {u2 : RS} {t2 : RS} {c2 : RS} {v3 : Int32} {v4 : Int32} {v5 : Int32} {v6 : Int32} {v8 : Bool} {s0 : Int32} {ko19 : Int32 → Int32 → Int32 → Option (Bool)} {o : (Bool)} (C : Cx E X cX4_standInSequence 10 RX4 wsX4_standInSequence r_X4_standInSequence ((some .boolean)) []) (hQ : gQ E X (wB E a ++ (wX2 E a 2 lt ls lw lh lx ++ (wX1 E a i nu z q u t c ++ wX1 E a j nu2 z2 q2 u2 t2 c2))) r_X4_standInSequence (gO (fun u9 => some (.int (bI u9))) (fun u9 => (wB E a ++ (wX2 E a 2 lt ls lw lh lx ++ (wX1 E a i nu z q u t c ++ wX1 E a j nu2 z2 q2 u2 t2 c2)))) (.inr o))) (Hko19 : ∀ (qv4 : Int32) (qv5 : Int32) (qv6 : Int32), ko19 qv4 qv5 qv6 = some o → Gx E X (wB E a ++ (wX2 E a 2 lt ls lw lh lx ++ (wX1 E a i nu z q u t c ++ wX1 E a j nu2 z2 q2 u2 t2 c2))) 10 [(0, .ref (a 0)), (1, .ref (a (i + 1))), (2, .ref (a (j + 1))), (3, .int v3), (4, .int qv4), (5, .int qv5), (6, .int qv6)] [] 19 0 0) (h : b_X4_standInSequence_99 lt ko19 v3 v4 v5 v6 v8 s0 = some o) : Gx E X (wB E a ++ (wX2 E a 2 lt ls lw lh lx ++ (wX1 E a i nu z q u t c ++ wX1 E a j nu2 z2 q2 u2 t2 c2))) 10 [(0, .ref (a 0)), (1, .ref (a (i + 1))), (2, .ref (a (j + 1))), (3, .int v3), (4, .int v4), (5, .int v5), (6, .int v6), (8, .int (bI v8))] [.int s0] 99 0 0 := by
  rw [b_X4_standInSequence_99] at h
  refine g_istore C (lv2 := [(9, .int s0), (0, .ref (a 0)), (1, .ref (a (i + 1))), (2, .ref (a (j + 1))), (3, .int v3), (4, .int v4), (5, .int v5), (6, .int v6), (8, .int (bI v8))]) rfl (by decide) dX4_standInSequence_99 ?_
  refine g_iload C 6 rfl dX4_standInSequence_101 ?_
  refine g_if_lt C (tgt := 122) dX4_standInSequence_103 (by decide) (fun cd1 => ?_) (fun cd1 => ?_)
  · replace h := (if_pos cd1).symm.trans h
    refine g_lv [1, 2, 3, 4, 5, 7, 8, 0] (lv2 := [(0, .ref (a 0)), (1, .ref (a (i + 1))), (2, .ref (a (j + 1))), (3, .int v3), (4, .int v4), (6, .int v6), (8, .int (bI v8)), (9, .int s0)]) rfl ?_
    exact v_X4_standInSequence_122 (v3 := v3) (v4 := v4) (v6 := v6) (v8 := v8) (v9 := s0) C hQ Hko19 h
  · replace h := (if_neg cd1).symm.trans h
    refine g_aload_n C 1 rfl rfl dX4_standInSequence_106 ?_
    refine g_X4_ledger C i_X4_standInSequence_X4 m_X4_standInSequence_0 0 rfl dX4_standInSequence_107 ?_
    refine g_iload C 6 rfl dX4_standInSequence_110 ?_
    refine g_iload C 0 rfl dX4_standInSequence_112 ?_
    refine g_perm (ws2 := (wX2 E a 2 lt ls lw lh lx ++ (wB E a ++ (wX1 E a i nu z q u t c ++ wX1 E a j nu2 z2 q2 u2 t2 c2)))) (List.perm_append_comm_assoc _ _ _) ?_
    obtain ⟨g2, eg2, h⟩ := Option.bind_eq_some_iff.mp h
    refine g_cVr (As := [.int v5, .int s0]) (n9 := 2) (st := []) (w2 := (wX2 E a 2 lt ls lw lh lx ++ (wB E a ++ (wX1 E a i nu z q u t c ++ wX1 E a j nu2 z2 q2 u2 t2 c2)))) C (c_X2_isAhead E a 2 lt ls lw lh lx v5 s0 g2 eg2) gX4_standInSequence_X2_isAhead rfl (by decide +kernel) rfl ⟨by decide, by decide, by decide, by decide, Nat.le_of_ble_eq_true rfl⟩ 0 rfl rfl (gSub.pre (S := (wB E a ++ (wX1 E a i nu z q u t c ++ wX1 E a j nu2 z2 q2 u2 t2 c2))) rfl) rfl dX4_standInSequence_114 ?_
    refine g_perm (ws2 := (wB E a ++ (wX2 E a 2 lt ls lw lh lx ++ (wX1 E a i nu z q u t c ++ wX1 E a j nu2 z2 q2 u2 t2 c2)))) (List.perm_append_comm_assoc _ _ _) ?_
    refine g_if_ne C (tgt := 122) dX4_standInSequence_117 (by decide) (fun cd3 => ?_) (fun cd3 => ?_)
    · replace h := (if_neg cd3).symm.trans h
      refine g_lv [1, 2, 3, 4, 5, 7, 8, 0] (lv2 := [(0, .ref (a 0)), (1, .ref (a (i + 1))), (2, .ref (a (j + 1))), (3, .int v3), (4, .int v4), (6, .int v6), (8, .int (bI v8)), (9, .int s0)]) rfl ?_
      exact v_X4_standInSequence_122 (v3 := v3) (v4 := v4) (v6 := v6) (v8 := v8) (v9 := s0) C hQ Hko19 h
    · replace h := (if_pos cd3).symm.trans h
      refine g_iconst C (v := 0) (by decide) dX4_standInSequence_120 ?_
      obtain rfl := Option.some.inj h
      exact g_zret C hQ rfl rfl ⟨by decide, by decide⟩ dX4_standInSequence_121
set_option maxHeartbeats 4000000 in
set_option maxRecDepth 100000 in
theorem v_X4_standInSequence_77 {E : gE} {X : gX} {a : Nat → Nat} {i : Nat} {j : Nat} {lt : RS} {ls : RS} {lw : RS} {lh : RS} {lx : RS} {nu : Int32} {z : Int32} {q : RS} {u : RS} {t : RS} {c : RS} {nu2 : Int32} {z2 : Int32} {q2 : RS} {u2 : RS} {t2 : RS} {c2 : RS} {v3 : Int32} {v4 : Int32} {v5 : Int32} {v6 : Int32} {v7 : Int32} {s0 : Bool} {ko19 : Int32 → Int32 → Int32 → Option (Bool)} {o : (Bool)} (C : Cx E X cX4_standInSequence 10 RX4 wsX4_standInSequence r_X4_standInSequence ((some .boolean)) []) (hQ : gQ E X (wB E a ++ (wX2 E a 2 lt ls lw lh lx ++ (wX1 E a i nu z q u t c ++ wX1 E a j nu2 z2 q2 u2 t2 c2))) r_X4_standInSequence (gO (fun u9 => some (.int (bI u9))) (fun u9 => (wB E a ++ (wX2 E a 2 lt ls lw lh lx ++ (wX1 E a i nu z q u t c ++ wX1 E a j nu2 z2 q2 u2 t2 c2)))) (.inr o))) (Hko19 : ∀ (qv4 : Int32) (qv5 : Int32) (qv6 : Int32), ko19 qv4 qv5 qv6 = some o → Gx E X (wB E a ++ (wX2 E a 2 lt ls lw lh lx ++ (wX1 E a i nu z q u t c ++ wX1 E a j nu2 z2 q2 u2 t2 c2))) 10 [(0, .ref (a 0)), (1, .ref (a (i + 1))), (2, .ref (a (j + 1))), (3, .int v3), (4, .int qv4), (5, .int qv5), (6, .int qv6)] [] 19 0 0) (h : b_X4_standInSequence_77 lt q q2 ko19 v3 v4 v5 v6 v7 s0 = some o) : Gx E X (wB E a ++ (wX2 E a 2 lt ls lw lh lx ++ (wX1 E a i nu z q u t c ++ wX1 E a j nu2 z2 q2 u2 t2 c2))) 10 [(0, .ref (a 0)), (1, .ref (a (i + 1))), (2, .ref (a (j + 1))), (3, .int v3), (4, .int v4), (5, .int v5), (6, .int v6), (7, .int v7)] [.int (bI s0)] 77 0 0 := by
  rw [b_X4_standInSequence_77] at h
  refine g_istore C (lv2 := [(8, .int (bI s0)), (0, .ref (a 0)), (1, .ref (a (i + 1))), (2, .ref (a (j + 1))), (3, .int v3), (4, .int v4), (5, .int v5), (6, .int v6), (7, .int v7)]) rfl (by decide) dX4_standInSequence_77 ?_
  refine g_iload C 0 rfl dX4_standInSequence_79 ?_
  refine g_if_eq C (tgt := 93) dX4_standInSequence_81 (by decide) (fun cd1 => ?_) (fun cd1 => ?_)
  · replace h := (if_pos cd1).symm.trans h
    refine g_aload_n C 3 rfl rfl dX4_standInSequence_93 ?_
    refine g_iload C 8 rfl dX4_standInSequence_94 ?_
    obtain ⟨g2, eg2, h⟩ := Option.bind_eq_some_iff.mp h
    refine g_cVr (As := [.int v7]) (n9 := 1) (st := []) (w2 := (wB E a ++ (wX2 E a 2 lt ls lw lh lx ++ (wX1 E a i nu z q u t c ++ wX1 E a j nu2 z2 q2 u2 t2 c2)))) C (c_X3_get E (a (j + 1)) (a (j + 2)) 48 q2 v7 g2 eg2) gX4_standInSequence_X3_get rfl (by decide +kernel) rfl ⟨by decide, by decide, by decide, by decide, Nat.le_of_ble_eq_true rfl⟩ 0 rfl rfl (gSub.idx [23, 24] rfl rfl) rfl dX4_standInSequence_96 ?_
    refine g_lv [1, 2, 3, 4, 5, 6, 7, 0] (lv2 := [(0, .ref (a 0)), (1, .ref (a (i + 1))), (2, .ref (a (j + 1))), (3, .int v3), (4, .int v4), (5, .int v5), (6, .int v6), (8, .int (bI s0))]) rfl ?_
    exact v_X4_standInSequence_99 (v3 := v3) (v4 := v4) (v5 := v5) (v6 := v6) (v8 := s0) (s0 := g2) C hQ Hko19 h
  · replace h := (if_neg cd1).symm.trans h
    refine g_aload_n C 2 rfl rfl dX4_standInSequence_84 ?_
    refine g_iload C 5 rfl dX4_standInSequence_85 ?_
    obtain ⟨g3, eg3, h⟩ := Option.bind_eq_some_iff.mp h
    refine g_cVr (As := [.int v4]) (n9 := 1) (st := []) (w2 := (wB E a ++ (wX2 E a 2 lt ls lw lh lx ++ (wX1 E a i nu z q u t c ++ wX1 E a j nu2 z2 q2 u2 t2 c2)))) C (c_X3_get E (a (i + 1)) (a (i + 2)) 48 q v4 g3 eg3) gX4_standInSequence_X3_get rfl (by decide +kernel) rfl ⟨by decide, by decide, by decide, by decide, Nat.le_of_ble_eq_true rfl⟩ 0 rfl rfl (gSub.idx [13, 14] rfl rfl) rfl dX4_standInSequence_87 ?_
    refine g_goto C (tgt := 99) dX4_standInSequence_90 (by decide) ?_
    refine g_lv [1, 2, 3, 4, 5, 6, 7, 0] (lv2 := [(0, .ref (a 0)), (1, .ref (a (i + 1))), (2, .ref (a (j + 1))), (3, .int v3), (4, .int v4), (5, .int v5), (6, .int v6), (8, .int (bI s0))]) rfl ?_
    exact v_X4_standInSequence_99 (v3 := v3) (v4 := v4) (v5 := v5) (v6 := v6) (v8 := s0) (s0 := g3) C hQ Hko19 h
set_option maxHeartbeats 4000000 in
set_option maxRecDepth 100000 in
theorem w_X4_standInSequence_19 {E : gE} {X : gX} {a : Nat → Nat} {i : Nat} {j : Nat} {lt : RS} {ls : RS} {lw : RS} {lh : RS} {lx : RS} {nu : Int32} {z : Int32} {q : RS} {u : RS} {t : RS} {c : RS} {nu2 : Int32} {z2 : Int32} {q2 : RS} {u2 : RS} {t2 : RS} {c2 : RS} {v3 : Int32} {o : (Bool)} (C : Cx E X cX4_standInSequence 10 RX4 wsX4_standInSequence r_X4_standInSequence ((some .boolean)) []) (hQ : gQ E X (wB E a ++ (wX2 E a 2 lt ls lw lh lx ++ (wX1 E a i nu z q u t c ++ wX1 E a j nu2 z2 q2 u2 t2 c2))) r_X4_standInSequence (gO (fun u9 => some (.int (bI u9))) (fun u9 => (wB E a ++ (wX2 E a 2 lt ls lw lh lx ++ (wX1 E a i nu z q u t c ++ wX1 E a j nu2 z2 q2 u2 t2 c2)))) (.inr o))) : ∀ (F : Nat) (v4 : Int32) (v5 : Int32) (v6 : Int32), l_X4_standInSequence_19 lt q q2 v3 F v4 v5 v6 = some o → Gx E X (wB E a ++ (wX2 E a 2 lt ls lw lh lx ++ (wX1 E a i nu z q u t c ++ wX1 E a j nu2 z2 q2 u2 t2 c2))) 10 [(0, .ref (a 0)), (1, .ref (a (i + 1))), (2, .ref (a (j + 1))), (3, .int v3), (4, .int v4), (5, .int v5), (6, .int v6)] [] 19 0 0 := by
  intro F
  induction F with
  | zero => intro v4 v5 v6 h; exact absurd h (by simp [l_X4_standInSequence_19])
  | succ F ih =>
    intro v4 v5 v6 h
    rw [l_X4_standInSequence_19] at h
    refine g_iload C 6 rfl dX4_standInSequence_19 ?_
    refine g_iload_n C 3 rfl rfl dX4_standInSequence_21 ?_
    refine g_icmp_ge C (tgt := 147) dX4_standInSequence_22 (by decide) (fun cd1 => ?_) (fun cd1 => ?_)
    · replace h := (if_pos cd1).symm.trans h
      refine g_iconst C (v := 1) (by decide) dX4_standInSequence_147 ?_
      obtain rfl := Option.some.inj h
      exact g_zret C hQ rfl rfl ⟨by decide, by decide⟩ dX4_standInSequence_148
    · replace h := (if_neg cd1).symm.trans h
      refine g_iload C 6 rfl dX4_standInSequence_25 ?_
      refine g_iload C 4 rfl dX4_standInSequence_27 ?_
      refine g_isub C dX4_standInSequence_29 ?_
      refine g_istore C (lv2 := [(7, .int (v6 - v4)), (0, .ref (a 0)), (1, .ref (a (i + 1))), (2, .ref (a (j + 1))), (3, .int v3), (4, .int v4), (5, .int v5), (6, .int v6)]) rfl (by decide) dX4_standInSequence_30 ?_
      refine g_iload C 0 rfl dX4_standInSequence_32 ?_
      refine g_aload_n C 3 rfl rfl dX4_standInSequence_34 ?_
      obtain ⟨g2, eg2, h⟩ := Option.bind_eq_some_iff.mp h
      refine g_cVr (As := []) (n9 := 0) (st := [.int (v6 - v4)]) (w2 := (wB E a ++ (wX2 E a 2 lt ls lw lh lx ++ (wX1 E a i nu z q u t c ++ wX1 E a j nu2 z2 q2 u2 t2 c2)))) C (c_X3_size E (a (j + 1)) (a (j + 2)) 48 q2 g2 eg2) gX4_standInSequence_X3_size rfl (by decide +kernel) rfl ⟨by decide, by decide, by decide, by decide, Nat.le_of_ble_eq_true rfl⟩ 0 rfl rfl (gSub.idx [23, 24] rfl rfl) rfl dX4_standInSequence_35 ?_
      refine g_icmp_ge C (tgt := 72) dX4_standInSequence_38 (by decide) (fun cd3 => ?_) (fun cd3 => ?_)
      · replace h := (if_pos cd3).symm.trans h
        refine g_iconst C (v := 1) (by decide) dX4_standInSequence_72 ?_
        refine g_goto C (tgt := 77) dX4_standInSequence_73 (by decide) ?_
        refine g_lv [1, 2, 3, 4, 5, 6, 7, 0] (lv2 := [(0, .ref (a 0)), (1, .ref (a (i + 1))), (2, .ref (a (j + 1))), (3, .int v3), (4, .int v4), (5, .int v5), (6, .int v6), (7, .int (v6 - v4))]) rfl ?_
        exact v_X4_standInSequence_77 (v3 := v3) (v4 := v4) (v5 := v5) (v6 := v6) (v7 := (v6 - v4)) (s0 := true) C hQ (fun qv4 qv5 qv6 hh => ih qv4 qv5 qv6 hh) h
      · replace h := (if_neg cd3).symm.trans h
        refine g_iload C 5 rfl dX4_standInSequence_41 ?_
        refine g_aload_n C 2 rfl rfl dX4_standInSequence_43 ?_
        obtain ⟨g4, eg4, h⟩ := Option.bind_eq_some_iff.mp h
        refine g_cVr (As := []) (n9 := 0) (st := [.int v4]) (w2 := (wB E a ++ (wX2 E a 2 lt ls lw lh lx ++ (wX1 E a i nu z q u t c ++ wX1 E a j nu2 z2 q2 u2 t2 c2)))) C (c_X3_size E (a (i + 1)) (a (i + 2)) 48 q g4 eg4) gX4_standInSequence_X3_size rfl (by decide +kernel) rfl ⟨by decide, by decide, by decide, by decide, Nat.le_of_ble_eq_true rfl⟩ 0 rfl rfl (gSub.idx [13, 14] rfl rfl) rfl dX4_standInSequence_44 ?_
        refine g_icmp_ge C (tgt := 76) dX4_standInSequence_47 (by decide) (fun cd5 => ?_) (fun cd5 => ?_)
        · replace h := (if_pos cd5).symm.trans h
          refine g_iconst C (v := 0) (by decide) dX4_standInSequence_76 ?_
          refine g_lv [1, 2, 3, 4, 5, 6, 7, 0] (lv2 := [(0, .ref (a 0)), (1, .ref (a (i + 1))), (2, .ref (a (j + 1))), (3, .int v3), (4, .int v4), (5, .int v5), (6, .int v6), (7, .int (v6 - v4))]) rfl ?_
          exact v_X4_standInSequence_77 (v3 := v3) (v4 := v4) (v5 := v5) (v6 := v6) (v7 := (v6 - v4)) (s0 := false) C hQ (fun qv4 qv5 qv6 hh => ih qv4 qv5 qv6 hh) h
        · replace h := (if_neg cd5).symm.trans h
          refine g_aload_n C 1 rfl rfl dX4_standInSequence_50 ?_
          refine g_X4_ledger C i_X4_standInSequence_X4 m_X4_standInSequence_0 0 rfl dX4_standInSequence_51 ?_
          refine g_aload_n C 2 rfl rfl dX4_standInSequence_54 ?_
          refine g_iload C 5 rfl dX4_standInSequence_55 ?_
          obtain ⟨g6, eg6, h⟩ := Option.bind_eq_some_iff.mp h
          refine g_cVr (As := [.int v4]) (n9 := 1) (st := [.ref (a 2)]) (w2 := (wB E a ++ (wX2 E a 2 lt ls lw lh lx ++ (wX1 E a i nu z q u t c ++ wX1 E a j nu2 z2 q2 u2 t2 c2)))) C (c_X3_get E (a (i + 1)) (a (i + 2)) 48 q v4 g6 eg6) gX4_standInSequence_X3_get rfl (by decide +kernel) rfl ⟨by decide, by decide, by decide, by decide, Nat.le_of_ble_eq_true rfl⟩ 0 rfl rfl (gSub.idx [13, 14] rfl rfl) rfl dX4_standInSequence_57 ?_
          refine g_aload_n C 3 rfl rfl dX4_standInSequence_60 ?_
          refine g_iload C 0 rfl dX4_standInSequence_61 ?_
          obtain ⟨g7, eg7, h⟩ := Option.bind_eq_some_iff.mp h
          refine g_cVr (As := [.int (v6 - v4)]) (n9 := 1) (st := [.int g6, .ref (a 2)]) (w2 := (wB E a ++ (wX2 E a 2 lt ls lw lh lx ++ (wX1 E a i nu z q u t c ++ wX1 E a j nu2 z2 q2 u2 t2 c2)))) C (c_X3_get E (a (j + 1)) (a (j + 2)) 48 q2 (v6 - v4) g7 eg7) gX4_standInSequence_X3_get rfl (by decide +kernel) rfl ⟨by decide, by decide, by decide, by decide, Nat.le_of_ble_eq_true rfl⟩ 0 rfl rfl (gSub.idx [23, 24] rfl rfl) rfl dX4_standInSequence_63 ?_
          refine g_perm (ws2 := (wX2 E a 2 lt ls lw lh lx ++ (wB E a ++ (wX1 E a i nu z q u t c ++ wX1 E a j nu2 z2 q2 u2 t2 c2)))) (List.perm_append_comm_assoc _ _ _) ?_
          obtain ⟨g8, eg8, h⟩ := Option.bind_eq_some_iff.mp h
          refine g_cVr (As := [.int g6, .int g7]) (n9 := 2) (st := []) (w2 := (wX2 E a 2 lt ls lw lh lx ++ (wB E a ++ (wX1 E a i nu z q u t c ++ wX1 E a j nu2 z2 q2 u2 t2 c2)))) C (c_X2_isAhead E a 2 lt ls lw lh lx g6 g7 g8 eg8) gX4_standInSequence_X2_isAhead rfl (by decide +kernel) rfl ⟨by decide, by decide, by decide, by decide, Nat.le_of_ble_eq_true rfl⟩ 0 rfl rfl (gSub.pre (S := (wB E a ++ (wX1 E a i nu z q u t c ++ wX1 E a j nu2 z2 q2 u2 t2 c2))) rfl) rfl dX4_standInSequence_66 ?_
          refine g_perm (ws2 := (wB E a ++ (wX2 E a 2 lt ls lw lh lx ++ (wX1 E a i nu z q u t c ++ wX1 E a j nu2 z2 q2 u2 t2 c2)))) (List.perm_append_comm_assoc _ _ _) ?_
          refine g_if_eq C (tgt := 76) dX4_standInSequence_69 (by decide) (fun cd9 => ?_) (fun cd9 => ?_)
          · replace h := (if_pos cd9).symm.trans h
            refine g_iconst C (v := 0) (by decide) dX4_standInSequence_76 ?_
            refine g_lv [1, 2, 3, 4, 5, 6, 7, 0] (lv2 := [(0, .ref (a 0)), (1, .ref (a (i + 1))), (2, .ref (a (j + 1))), (3, .int v3), (4, .int v4), (5, .int v5), (6, .int v6), (7, .int (v6 - v4))]) rfl ?_
            exact v_X4_standInSequence_77 (v3 := v3) (v4 := v4) (v5 := v5) (v6 := v6) (v7 := (v6 - v4)) (s0 := false) C hQ (fun qv4 qv5 qv6 hh => ih qv4 qv5 qv6 hh) h
          · replace h := (if_neg cd9).symm.trans h
            refine g_iconst C (v := 1) (by decide) dX4_standInSequence_72 ?_
            refine g_goto C (tgt := 77) dX4_standInSequence_73 (by decide) ?_
            refine g_lv [1, 2, 3, 4, 5, 6, 7, 0] (lv2 := [(0, .ref (a 0)), (1, .ref (a (i + 1))), (2, .ref (a (j + 1))), (3, .int v3), (4, .int v4), (5, .int v5), (6, .int v6), (7, .int (v6 - v4))]) rfl ?_
            exact v_X4_standInSequence_77 (v3 := v3) (v4 := v4) (v5 := v5) (v6 := v6) (v7 := (v6 - v4)) (s0 := true) C hQ (fun qv4 qv5 qv6 hh => ih qv4 qv5 qv6 hh) h
set_option maxHeartbeats 4000000 in
set_option maxRecDepth 100000 in
theorem c_X4_standInSequence (E : gE) (a : Nat → Nat) (i : Nat) (j : Nat) (lt : RS) (ls : RS) (lw : RS) (lh : RS) (lx : RS) (nu : Int32) (z : Int32) (q : RS) (u : RS) (t : RS) (c : RS) (nu2 : Int32) (z2 : Int32) (q2 : RS) (u2 : RS) (t2 : RS) (c2 : RS) (o : (Bool)) (h : f_X4_standInSequence lt q q2 = some o) : Ct E yX4_standInSequence wsX4_standInSequence r_X4_standInSequence [.ref (a 0), .ref (a (i + 1)), .ref (a (j + 1))] (wB E a ++ (wX2 E a 2 lt ls lw lh lx ++ (wX1 E a i nu z q u t c ++ wX1 E a j nu2 z2 q2 u2 t2 c2))) (gO (fun u9 => some (.int (bI u9))) (fun u9 => (wB E a ++ (wX2 E a 2 lt ls lw lh lx ++ (wX1 E a i nu z q u t c ++ wX1 E a j nu2 z2 q2 u2 t2 c2)))) (.inr o)) := by
  refine Ct.of (cc := cX4_standInSequence) (nL := 10) (ret := ((some .boolean))) (own := RX4) (by decide) rfl rfl (Nat.le_of_ble_eq_true rfl) rfl ?_ ?_
  · intro v w1 hh
    cases hh; rfl
  · intro X C hQ
    rw [f_X4_standInSequence] at h
    refine g_aload_n C 1 rfl rfl dX4_standInSequence_0 ?_
    obtain ⟨g1, eg1, h⟩ := Option.bind_eq_some_iff.mp h
    refine g_cVr (As := []) (n9 := 0) (st := []) (w2 := (wB E a ++ (wX2 E a 2 lt ls lw lh lx ++ (wX1 E a i nu z q u t c ++ wX1 E a j nu2 z2 q2 u2 t2 c2)))) C (c_X3_size E (a (i + 1)) (a (i + 2)) 48 q g1 eg1) gX4_standInSequence_X3_size rfl (by decide +kernel) rfl ⟨by decide, by decide, by decide, by decide, Nat.le_of_ble_eq_true rfl⟩ 0 rfl rfl (gSub.idx [13, 14] rfl rfl) rfl dX4_standInSequence_1 ?_
    refine g_aload_n C 2 rfl rfl dX4_standInSequence_4 ?_
    obtain ⟨g2, eg2, h⟩ := Option.bind_eq_some_iff.mp h
    refine g_cVr (As := []) (n9 := 0) (st := [.int g1]) (w2 := (wB E a ++ (wX2 E a 2 lt ls lw lh lx ++ (wX1 E a i nu z q u t c ++ wX1 E a j nu2 z2 q2 u2 t2 c2)))) C (c_X3_size E (a (j + 1)) (a (j + 2)) 48 q2 g2 eg2) gX4_standInSequence_X3_size rfl (by decide +kernel) rfl ⟨by decide, by decide, by decide, by decide, Nat.le_of_ble_eq_true rfl⟩ 0 rfl rfl (gSub.idx [23, 24] rfl rfl) rfl dX4_standInSequence_5 ?_
    refine g_iadd C dX4_standInSequence_8 ?_
    refine g_istore_n C (lv2 := [(3, .int (g1 + g2)), (0, .ref (a 0)), (1, .ref (a (i + 1))), (2, .ref (a (j + 1)))]) rfl (by decide) rfl dX4_standInSequence_9 ?_
    refine g_iconst C (v := 0) (by decide) dX4_standInSequence_10 ?_
    refine g_istore C (lv2 := [(4, .int 0), (3, .int (g1 + g2)), (0, .ref (a 0)), (1, .ref (a (i + 1))), (2, .ref (a (j + 1)))]) rfl (by decide) dX4_standInSequence_11 ?_
    refine g_iconst C (v := (-1)) (by decide) dX4_standInSequence_13 ?_
    refine g_istore C (lv2 := [(5, .int (-1)), (4, .int 0), (3, .int (g1 + g2)), (0, .ref (a 0)), (1, .ref (a (i + 1))), (2, .ref (a (j + 1)))]) rfl (by decide) dX4_standInSequence_14 ?_
    refine g_iconst C (v := 0) (by decide) dX4_standInSequence_16 ?_
    refine g_istore C (lv2 := [(6, .int 0), (5, .int (-1)), (4, .int 0), (3, .int (g1 + g2)), (0, .ref (a 0)), (1, .ref (a (i + 1))), (2, .ref (a (j + 1)))]) rfl (by decide) dX4_standInSequence_17 ?_
    refine g_lv [4, 5, 6, 3, 2, 1, 0] (lv2 := [(0, .ref (a 0)), (1, .ref (a (i + 1))), (2, .ref (a (j + 1))), (3, .int (g1 + g2)), (4, .int 0), (5, .int (-1)), (6, .int 0)]) rfl ?_
    exact w_X4_standInSequence_19 (v3 := (g1 + g2)) C hQ FU 0 (-1) 0 h
