/-! bb: pure functions, printed by wip/whole/gen.py out of the bytecode, and their walks -/
def f_X4_make (lt : RS) (ls : RS) (lw : RS) (lh : RS) (lx : RS) (nu : Int32) (q : RS) (p2 : Int32) (p3 : Int32) (p4 : Int32) : Option (Int32 × RS × RS × RS × RS × RS × RS) := ((f_X2_enter lt ls lw lh lx p2 p3 p4).bind fun g1 => ((f_X4_enqueue g1.2.1 g1.2.2.2.2.1 g1.2.2.2.2.2 nu q g1.1).bind fun g2 => some (g1.1, g1.2.1, g1.2.2.1, g1.2.2.2.1, g2.1, g2.2.1, g2.2.2)))
def f_X4_letFirstCome (lt : RS) (ls : RS) (lw : RS) (lx : RS) (q : RS) (u : RS) (t : RS) (c : RS) : Option (Int32 × RS × Int32 × RS × RS × RS × RS) := ((f_X3_remove 48 q 0).bind fun g1 => ((f_X3_add 120 u g1.1).bind fun g2 => ((f_X3_get 120 lt g1.1).bind fun g3 => ((f_X2_end lt ls g1.1).bind fun g4 => ((f_X3_get 120 lw g1.1).bind fun g5 => ((f_X0_enter t c g3 g4 g5).bind fun g6 => ((f_X3_set 120 lx g1.1 1).bind fun g7 => some (g1.1, g7, g3, g1.2, g2, g6.1, g6.2))))))))
def f_X4_bringLastBack (lt : RS) (ls : RS) (lw : RS) (lh : RS) (lx : RS) (nu : Int32) (q : RS) (u : RS) (t : RS) (c : RS) : Option (RS × RS × RS × RS × RS × RS) := ((f_X3_size u).bind fun g1 => ((f_X3_remove 120 u (g1 - 1)).bind fun g2 => ((f_X3_get 120 lt g2.1).bind fun g3 => ((f_X2_end lt ls g2.1).bind fun g4 => ((f_X3_get 120 lw g2.1).bind fun g5 => ((f_X0_enter t c g3 g4 (-g5)).bind fun g6 => ((f_X4_enqueue lt lh lx nu q g2.1).bind fun g7 => some (g7.1, g7.2.1, g7.2.2, g2.2, g6.1, g6.2))))))))
def l_X4_isSplitByClock_68 (lt : RS) (lh : RS) (nu : Int32) (z : Int32) (q : RS) (u : RS) : Nat → Int32 → Option (Bool)
  | 0, _ => none
  | F + 1, v2 => ((f_X3_size u).bind fun g1 => (if g1 ≤ v2 then ((f_X3_size q).bind fun g3 => (if 48 < g3 then some false else some true)) else ((f_X3_get 120 u v2).bind fun g5 => ((f_X3_get 120 lt g5).bind fun g6 => (if z < g6 then some false else ((f_X3_get 120 lh g5).bind fun g8 => (if g8 = nu then l_X4_isSplitByClock_68 lt lh nu z q u F (v2 + 1) else some false)))))))
def l_X4_isSplitByClock_2 (lt : RS) (lh : RS) (nu : Int32) (z : Int32) (q : RS) (u : RS) : Nat → Int32 → Option (Bool)
  | 0, _ => none
  | F + 1, v2 => ((f_X3_size q).bind fun g1 => (if g1 ≤ v2 then l_X4_isSplitByClock_68 lt lh nu z q u FU 0 else ((f_X3_get 48 q v2).bind fun g3 => ((f_X3_get 120 lt g3).bind fun g4 => (if g4 < z then some false else ((f_X3_get 120 lh g3).bind fun g6 => (if g6 = nu then l_X4_isSplitByClock_2 lt lh nu z q u F (v2 + 1) else some false)))))))
def f_X4_isSplitByClock (lt : RS) (lh : RS) (nu : Int32) (z : Int32) (q : RS) (u : RS) : Option (Bool) := l_X4_isSplitByClock_2 lt lh nu z q u FU 0
abbrev r_X4_make : Room := { frames := 5, cells := 0, slots := 0, locals := 126 }
theorem m_X4_make_0 : Cond.fieldLink RX4 10 "Bookinghouse" "ledger" "LBookinghouse$Ledger;" ∈ wsX4_make := by decide +kernel
theorem i_X4_make_X4 : ∀ w ∈ wsX40, w ∈ wsX4_make := by decide +kernel
set_option maxHeartbeats 4000000 in
set_option maxRecDepth 100000 in
theorem c_X4_make (E : gE) (a : Nat → Nat) (i : Nat) (lt : RS) (ls : RS) (lw : RS) (lh : RS) (lx : RS) (nu : Int32) (z : Int32) (q : RS) (u : RS) (t : RS) (c : RS) (p2 : Int32) (p3 : Int32) (p4 : Int32) (o : (Int32 × RS × RS × RS × RS × RS × RS)) (h : f_X4_make lt ls lw lh lx nu q p2 p3 p4 = some o) : Ct E yX4_make wsX4_make r_X4_make [.ref (a 0), .ref (a i), .int p2, .int p3, .int p4] (wB E a ++ (wX2 E a 2 lt ls lw lh lx ++ wX1 E a i nu z q u t c)) (gO (fun u9 => some (.int u9.1)) (fun u9 => (wB E a ++ (wX2 E a 2 u9.2.1 u9.2.2.1 u9.2.2.2.1 u9.2.2.2.2.1 u9.2.2.2.2.2.1 ++ wX1 E a i nu z u9.2.2.2.2.2.2 u t c))) (.inr o)) := by
  refine Ct.of (cc := cX4_make) (nL := 6) (ret := ((some .int))) (own := RX4) (by decide) rfl rfl (Nat.le_of_ble_eq_true rfl) rfl ?_ ?_
  · intro v w1 hh
    cases hh; rfl
  · intro X C hQ
    rw [f_X4_make] at h
    refine g_aload_n C 0 rfl rfl dX4_make_0 ?_
    refine g_X4_ledger C i_X4_make_X4 m_X4_make_0 0 rfl dX4_make_1 ?_
    refine g_iload_n C 2 rfl rfl dX4_make_4 ?_
    refine g_iload_n C 3 rfl rfl dX4_make_5 ?_
    refine g_iload C 4 rfl dX4_make_6 ?_
    refine g_perm (ws2 := (wX2 E a 2 lt ls lw lh lx ++ (wB E a ++ wX1 E a i nu z q u t c))) (List.perm_append_comm_assoc _ _ _) ?_
    obtain ⟨g1, eg1, h⟩ := Option.bind_eq_some_iff.mp h
    refine g_cVr (As := [.int p2, .int p3, .int p4]) (n9 := 3) (st := []) (w2 := (wX2 E a 2 g1.2.1 g1.2.2.1 g1.2.2.2.1 g1.2.2.2.2.1 g1.2.2.2.2.2 ++ (wB E a ++ wX1 E a i nu z q u t c))) C (c_X2_enter E a 2 lt ls lw lh lx p2 p3 p4 g1 eg1) gX4_make_X2_enter rfl (by decide +kernel) rfl ⟨by decide, by decide, by decide, by decide, Nat.le_of_ble_eq_true rfl⟩ 0 rfl rfl (gSub.pre (S := (wB E a ++ wX1 E a i nu z q u t c)) rfl) rfl dX4_make_8 ?_
    refine g_perm (ws2 := (wB E a ++ (wX2 E a 2 g1.2.1 g1.2.2.1 g1.2.2.2.1 g1.2.2.2.2.1 g1.2.2.2.2.2 ++ wX1 E a i nu z q u t c))) (List.perm_append_comm_assoc _ _ _) ?_
    refine g_istore C (lv2 := [(5, .int g1.1), (0, .ref (a 0)), (1, .ref (a i)), (2, .int p2), (3, .int p3), (4, .int p4)]) rfl (by decide) dX4_make_11 ?_
    refine g_aload_n C 1 rfl rfl dX4_make_13 ?_
    refine g_aload_n C 2 rfl rfl dX4_make_14 ?_
    refine g_iload C 0 rfl dX4_make_15 ?_
    obtain ⟨g2, eg2, h⟩ := Option.bind_eq_some_iff.mp h
    refine g_cVv (As := [.ref (a i), .int g1.1]) (n9 := 2) (st := []) (w2 := (wB E a ++ (wX2 E a 2 g1.2.1 g1.2.2.1 g1.2.2.2.1 g2.1 g2.2.1 ++ wX1 E a i nu z g2.2.2 u t c))) C (c_X4_enqueue E a i g1.2.1 g1.2.2.1 g1.2.2.2.1 g1.2.2.2.2.1 g1.2.2.2.2.2 nu z q u t c g1.1 g2 eg2) gX4_make_X4_enqueue rfl (by decide +kernel) rfl ⟨by decide, by decide, by decide, by decide, Nat.le_of_ble_eq_true rfl⟩ 0 rfl rfl gSub.all rfl dX4_make_17 ?_
    refine g_iload C 0 rfl dX4_make_20 ?_
    obtain rfl := Option.some.inj h
    exact g_iret C hQ (by dsimp only [gO]) ⟨by decide, by decide⟩ dX4_make_22
abbrev r_X4_letFirstCome : Room := { frames := 5, cells := 0, slots := 0, locals := 128 }
theorem i_X4_letFirstCome_X1 : ∀ w ∈ wsX10, w ∈ wsX4_letFirstCome := by decide +kernel
theorem m_X4_letFirstCome_1 : Cond.fieldLink RX4 10 "Bookinghouse" "ledger" "LBookinghouse$Ledger;" ∈ wsX4_letFirstCome := by decide +kernel
theorem i_X4_letFirstCome_X4 : ∀ w ∈ wsX40, w ∈ wsX4_letFirstCome := by decide +kernel
theorem i_X4_letFirstCome_X2 : ∀ w ∈ wsX20, w ∈ wsX4_letFirstCome := by decide +kernel
set_option maxHeartbeats 4000000 in
set_option maxRecDepth 100000 in
theorem c_X4_letFirstCome (E : gE) (a : Nat → Nat) (i : Nat) (lt : RS) (ls : RS) (lw : RS) (lh : RS) (lx : RS) (nu : Int32) (z : Int32) (q : RS) (u : RS) (t : RS) (c : RS) (o : (Int32 × RS × Int32 × RS × RS × RS × RS)) (h : f_X4_letFirstCome lt ls lw lx q u t c = some o) : Ct E yX4_letFirstCome wsX4_letFirstCome r_X4_letFirstCome [.ref (a 0), .ref (a i)] (wB E a ++ (wX2 E a 2 lt ls lw lh lx ++ wX1 E a i nu z q u t c)) (gO (fun u9 => some (.int u9.1)) (fun u9 => (wB E a ++ (wX2 E a 2 lt ls lw lh u9.2.1 ++ wX1 E a i nu u9.2.2.1 u9.2.2.2.1 u9.2.2.2.2.1 u9.2.2.2.2.2.1 u9.2.2.2.2.2.2))) (.inr o)) := by
  refine Ct.of (cc := cX4_letFirstCome) (nL := 3) (ret := ((some .int))) (own := RX4) (by decide) rfl rfl (Nat.le_of_ble_eq_true rfl) rfl ?_ ?_
  · intro v w1 hh
    cases hh; rfl
  · intro X C hQ
    rw [f_X4_letFirstCome] at h
    refine g_aload_n C 1 rfl rfl dX4_letFirstCome_0 ?_
    refine g_X1_queueN C i_X4_letFirstCome_X1 (by decide +kernel) 12 rfl dX4_letFirstCome_1 ?_
    refine g_iconst C (v := 0) (by decide) dX4_letFirstCome_4 ?_
    obtain ⟨g1, eg1, h⟩ := Option.bind_eq_some_iff.mp h
    refine g_cVr (As := [.int 0]) (n9 := 1) (st := []) (w2 := (wB E a ++ (wX2 E a 2 lt ls lw lh lx ++ wX1 E a i nu z g1.2 u t c))) C (c_X3_remove E (a (i + 1)) (a (i + 2)) 48 q 0 g1 eg1) gX4_letFirstCome_X3_remove rfl (by decide +kernel) rfl ⟨by decide, by decide, by decide, by decide, Nat.le_of_ble_eq_true rfl⟩ 0 rfl rfl (gSub.idx [13, 14] rfl rfl) rfl dX4_letFirstCome_5 ?_
    refine g_istore_n C (lv2 := [(2, .int g1.1), (0, .ref (a 0)), (1, .ref (a i))]) rfl (by decide) rfl dX4_letFirstCome_8 ?_
    refine g_aload_n C 2 rfl rfl dX4_letFirstCome_9 ?_
    refine g_X1_pastN C i_X4_letFirstCome_X1 (by decide +kernel) 12 rfl dX4_letFirstCome_10 ?_
    refine g_iload_n C 0 rfl rfl dX4_letFirstCome_13 ?_
    obtain ⟨g2, eg2, h⟩ := Option.bind_eq_some_iff.mp h
    refine g_cVv (As := [.int g1.1]) (n9 := 1) (st := []) (w2 := (wB E a ++ (wX2 E a 2 lt ls lw lh lx ++ wX1 E a i nu z g1.2 g2 t c))) C (c_X3_add E (a (i + 3)) (a (i + 4)) 120 u g1.1 g2 eg2) gX4_letFirstCome_X3_add rfl (by decide +kernel) rfl ⟨by decide, by decide, by decide, by decide, Nat.le_of_ble_eq_true rfl⟩ 0 rfl rfl (gSub.idx [15, 16] rfl rfl) rfl dX4_letFirstCome_14 ?_
    refine g_aload_n C 2 rfl rfl dX4_letFirstCome_17 ?_
    refine g_aload_n C 1 rfl rfl dX4_letFirstCome_18 ?_
    refine g_X4_ledger C i_X4_letFirstCome_X4 m_X4_letFirstCome_1 0 rfl dX4_letFirstCome_19 ?_
    refine g_X2_timesN C i_X4_letFirstCome_X2 (by decide +kernel) 1 rfl dX4_letFirstCome_22 ?_
    refine g_iload_n C 0 rfl rfl dX4_letFirstCome_25 ?_
    obtain ⟨g3, eg3, h⟩ := Option.bind_eq_some_iff.mp h
    refine g_cVr (As := [.int g1.1]) (n9 := 1) (st := [.ref (a i)]) (w2 := (wB E a ++ (wX2 E a 2 lt ls lw lh lx ++ wX1 E a i nu z g1.2 g2 t c))) C (c_X3_get E (a 3) (a 4) 120 lt g1.1 g3 eg3) gX4_letFirstCome_X3_get rfl (by decide +kernel) rfl ⟨by decide, by decide, by decide, by decide, Nat.le_of_ble_eq_true rfl⟩ 0 rfl rfl (gSub.idx [2, 3] rfl rfl) rfl dX4_letFirstCome_26 ?_
    refine g_X1_set_nowN C i_X4_letFirstCome_X1 (by decide +kernel) 12 rfl (ws2 := (wB E a ++ (wX2 E a 2 lt ls lw lh lx ++ wX1 E a i nu g3 g1.2 g2 t c))) rfl dX4_letFirstCome_29 ?_
    refine g_aload_n C 2 rfl rfl dX4_letFirstCome_32 ?_
    refine g_X1_crowdN C i_X4_letFirstCome_X1 (by decide +kernel) 12 rfl dX4_letFirstCome_33 ?_
    refine g_aload_n C 2 rfl rfl dX4_letFirstCome_36 ?_
    refine g_X1_nowN C i_X4_letFirstCome_X1 (by decide +kernel) 12 rfl dX4_letFirstCome_37 ?_
    refine g_aload_n C 1 rfl rfl dX4_letFirstCome_40 ?_
    refine g_X4_ledger C i_X4_letFirstCome_X4 m_X4_letFirstCome_1 0 rfl dX4_letFirstCome_41 ?_
    refine g_iload_n C 0 rfl rfl dX4_letFirstCome_44 ?_
    refine g_perm (ws2 := (wX2 E a 2 lt ls lw lh lx ++ (wB E a ++ wX1 E a i nu g3 g1.2 g2 t c))) (List.perm_append_comm_assoc _ _ _) ?_
    obtain ⟨g4, eg4, h⟩ := Option.bind_eq_some_iff.mp h
    refine g_cVr (As := [.int g1.1]) (n9 := 1) (st := [.int g3, .ref (a (i + 5))]) (w2 := (wX2 E a 2 lt ls lw lh lx ++ (wB E a ++ wX1 E a i nu g3 g1.2 g2 t c))) C (c_X2_end E a 2 lt ls lw lh lx g1.1 g4 eg4) gX4_letFirstCome_X2_end rfl (by decide +kernel) rfl ⟨by decide, by decide, by decide, by decide, Nat.le_of_ble_eq_true rfl⟩ 0 rfl rfl (gSub.pre (S := (wB E a ++ wX1 E a i nu g3 g1.2 g2 t c)) rfl) rfl dX4_letFirstCome_45 ?_
    refine g_perm (ws2 := (wB E a ++ (wX2 E a 2 lt ls lw lh lx ++ wX1 E a i nu g3 g1.2 g2 t c))) (List.perm_append_comm_assoc _ _ _) ?_
    refine g_aload_n C 1 rfl rfl dX4_letFirstCome_48 ?_
    refine g_X4_ledger C i_X4_letFirstCome_X4 m_X4_letFirstCome_1 0 rfl dX4_letFirstCome_49 ?_
    refine g_X2_weightsN C i_X4_letFirstCome_X2 (by decide +kernel) 1 rfl dX4_letFirstCome_52 ?_
    refine g_iload_n C 0 rfl rfl dX4_letFirstCome_55 ?_
    obtain ⟨g5, eg5, h⟩ := Option.bind_eq_some_iff.mp h
    refine g_cVr (As := [.int g1.1]) (n9 := 1) (st := [.int g4, .int g3, .ref (a (i + 5))]) (w2 := (wB E a ++ (wX2 E a 2 lt ls lw lh lx ++ wX1 E a i nu g3 g1.2 g2 t c))) C (c_X3_get E (a 7) (a 8) 120 lw g1.1 g5 eg5) gX4_letFirstCome_X3_get rfl (by decide +kernel) rfl ⟨by decide, by decide, by decide, by decide, Nat.le_of_ble_eq_true rfl⟩ 0 rfl rfl (gSub.idx [6, 7] rfl rfl) rfl dX4_letFirstCome_56 ?_
    obtain ⟨g6, eg6, h⟩ := Option.bind_eq_some_iff.mp h
    refine g_cVv (As := [.int g3, .int g4, .int g5]) (n9 := 3) (st := []) (w2 := (wB E a ++ (wX2 E a 2 lt ls lw lh lx ++ wX1 E a i nu g3 g1.2 g2 g6.1 g6.2))) C (c_X0_enter E a (i + 5) t c g3 g4 g5 g6 eg6) gX4_letFirstCome_X0_enter rfl (by decide +kernel) rfl ⟨by decide, by decide, by decide, by decide, Nat.le_of_ble_eq_true rfl⟩ 0 rfl rfl (gSub.idx [17, 18, 19, 20, 21] rfl rfl) rfl dX4_letFirstCome_59 ?_
    refine g_aload_n C 1 rfl rfl dX4_letFirstCome_62 ?_
    refine g_X4_ledger C i_X4_letFirstCome_X4 m_X4_letFirstCome_1 0 rfl dX4_letFirstCome_63 ?_
    refine g_X2_statesN C i_X4_letFirstCome_X2 (by decide +kernel) 1 rfl dX4_letFirstCome_66 ?_
    refine g_iload_n C 0 rfl rfl dX4_letFirstCome_69 ?_
    refine g_iconst C (v := 1) (by decide) dX4_letFirstCome_70 ?_
    obtain ⟨g7, eg7, h⟩ := Option.bind_eq_some_iff.mp h
    refine g_cVv (As := [.int g1.1, .int 1]) (n9 := 2) (st := []) (w2 := (wB E a ++ (wX2 E a 2 lt ls lw lh g7 ++ wX1 E a i nu g3 g1.2 g2 g6.1 g6.2))) C (c_X3_set E (a 11) (a 12) 120 lx g1.1 1 g7 eg7) gX4_letFirstCome_X3_set rfl (by decide +kernel) rfl ⟨by decide, by decide, by decide, by decide, Nat.le_of_ble_eq_true rfl⟩ 0 rfl rfl (gSub.idx [10, 11] rfl rfl) rfl dX4_letFirstCome_71 ?_
    refine g_iload_n C 0 rfl rfl dX4_letFirstCome_74 ?_
    obtain rfl := Option.some.inj h
    exact g_iret C hQ (by dsimp only [gO]) ⟨by decide, by decide⟩ dX4_letFirstCome_75
abbrev r_X4_bringLastBack : Room := { frames := 5, cells := 0, slots := 0, locals := 128 }
theorem i_X4_bringLastBack_X1 : ∀ w ∈ wsX10, w ∈ wsX4_bringLastBack := by decide +kernel
theorem m_X4_bringLastBack_1 : Cond.fieldLink RX4 10 "Bookinghouse" "ledger" "LBookinghouse$Ledger;" ∈ wsX4_bringLastBack := by decide +kernel
theorem i_X4_bringLastBack_X4 : ∀ w ∈ wsX40, w ∈ wsX4_bringLastBack := by decide +kernel
theorem i_X4_bringLastBack_X2 : ∀ w ∈ wsX20, w ∈ wsX4_bringLastBack := by decide +kernel
set_option maxHeartbeats 4000000 in
set_option maxRecDepth 100000 in
theorem c_X4_bringLastBack (E : gE) (a : Nat → Nat) (i : Nat) (lt : RS) (ls : RS) (lw : RS) (lh : RS) (lx : RS) (nu : Int32) (z : Int32) (q : RS) (u : RS) (t : RS) (c : RS) (o : (RS × RS × RS × RS × RS × RS)) (h : f_X4_bringLastBack lt ls lw lh lx nu q u t c = some o) : Ct E yX4_bringLastBack wsX4_bringLastBack r_X4_bringLastBack [.ref (a 0), .ref (a i)] (wB E a ++ (wX2 E a 2 lt ls lw lh lx ++ wX1 E a i nu z q u t c)) (gO (fun u9 => none) (fun u9 => (wB E a ++ (wX2 E a 2 lt ls lw u9.1 u9.2.1 ++ wX1 E a i nu z u9.2.2.1 u9.2.2.2.1 u9.2.2.2.2.1 u9.2.2.2.2.2))) (.inr o)) := by
  refine Ct.of (cc := cX4_bringLastBack) (nL := 3) (ret := (none)) (own := RX4) (by decide) rfl rfl (Nat.le_of_ble_eq_true rfl) rfl ?_ ?_
  · intro v w1 hh
    cases hh; rfl
  · intro X C hQ
    rw [f_X4_bringLastBack] at h
    refine g_aload_n C 1 rfl rfl dX4_bringLastBack_0 ?_
    refine g_X1_pastN C i_X4_bringLastBack_X1 (by decide +kernel) 12 rfl dX4_bringLastBack_1 ?_
    refine g_aload_n C 1 rfl rfl dX4_bringLastBack_4 ?_
    refine g_X1_pastN C i_X4_bringLastBack_X1 (by decide +kernel) 12 rfl dX4_bringLastBack_5 ?_
    obtain ⟨g1, eg1, h⟩ := Option.bind_eq_some_iff.mp h
    refine g_cVr (As := []) (n9 := 0) (st := [.ref (a (i + 3))]) (w2 := (wB E a ++ (wX2 E a 2 lt ls lw lh lx ++ wX1 E a i nu z q u t c))) C (c_X3_size E (a (i + 3)) (a (i + 4)) 120 u g1 eg1) gX4_bringLastBack_X3_size rfl (by decide +kernel) rfl ⟨by decide, by decide, by decide, by decide, Nat.le_of_ble_eq_true rfl⟩ 0 rfl rfl (gSub.idx [15, 16] rfl rfl) rfl dX4_bringLastBack_8 ?_
    refine g_iconst C (v := 1) (by decide) dX4_bringLastBack_11 ?_
    refine g_isub C dX4_bringLastBack_12 ?_
    obtain ⟨g2, eg2, h⟩ := Option.bind_eq_some_iff.mp h
    refine g_cVr (As := [.int (g1 - 1)]) (n9 := 1) (st := []) (w2 := (wB E a ++ (wX2 E a 2 lt ls lw lh lx ++ wX1 E a i nu z q g2.2 t c))) C (c_X3_remove E (a (i + 3)) (a (i + 4)) 120 u (g1 - 1) g2 eg2) gX4_bringLastBack_X3_remove rfl (by decide +kernel) rfl ⟨by decide, by decide, by decide, by decide, Nat.le_of_ble_eq_true rfl⟩ 0 rfl rfl (gSub.idx [15, 16] rfl rfl) rfl dX4_bringLastBack_13 ?_
    refine g_istore_n C (lv2 := [(2, .int g2.1), (0, .ref (a 0)), (1, .ref (a i))]) rfl (by decide) rfl dX4_bringLastBack_16 ?_
    refine g_aload_n C 2 rfl rfl dX4_bringLastBack_17 ?_
    refine g_X1_crowdN C i_X4_bringLastBack_X1 (by decide +kernel) 12 rfl dX4_bringLastBack_18 ?_
    refine g_aload_n C 1 rfl rfl dX4_bringLastBack_21 ?_
    refine g_X4_ledger C i_X4_bringLastBack_X4 m_X4_bringLastBack_1 0 rfl dX4_bringLastBack_22 ?_
    refine g_X2_timesN C i_X4_bringLastBack_X2 (by decide +kernel) 1 rfl dX4_bringLastBack_25 ?_
    refine g_iload_n C 0 rfl rfl dX4_bringLastBack_28 ?_
    obtain ⟨g3, eg3, h⟩ := Option.bind_eq_some_iff.mp h
    refine g_cVr (As := [.int g2.1]) (n9 := 1) (st := [.ref (a (i + 5))]) (w2 := (wB E a ++ (wX2 E a 2 lt ls lw lh lx ++ wX1 E a i nu z q g2.2 t c))) C (c_X3_get E (a 3) (a 4) 120 lt g2.1 g3 eg3) gX4_bringLastBack_X3_get rfl (by decide +kernel) rfl ⟨by decide, by decide, by decide, by decide, Nat.le_of_ble_eq_true rfl⟩ 0 rfl rfl (gSub.idx [2, 3] rfl rfl) rfl dX4_bringLastBack_29 ?_
    refine g_aload_n C 1 rfl rfl dX4_bringLastBack_32 ?_
    refine g_X4_ledger C i_X4_bringLastBack_X4 m_X4_bringLastBack_1 0 rfl dX4_bringLastBack_33 ?_
    refine g_iload_n C 0 rfl rfl dX4_bringLastBack_36 ?_
    refine g_perm (ws2 := (wX2 E a 2 lt ls lw lh lx ++ (wB E a ++ wX1 E a i nu z q g2.2 t c))) (List.perm_append_comm_assoc _ _ _) ?_
    obtain ⟨g4, eg4, h⟩ := Option.bind_eq_some_iff.mp h
    refine g_cVr (As := [.int g2.1]) (n9 := 1) (st := [.int g3, .ref (a (i + 5))]) (w2 := (wX2 E a 2 lt ls lw lh lx ++ (wB E a ++ wX1 E a i nu z q g2.2 t c))) C (c_X2_end E a 2 lt ls lw lh lx g2.1 g4 eg4) gX4_bringLastBack_X2_end rfl (by decide +kernel) rfl ⟨by decide, by decide, by decide, by decide, Nat.le_of_ble_eq_true rfl⟩ 0 rfl rfl (gSub.pre (S := (wB E a ++ wX1 E a i nu z q g2.2 t c)) rfl) rfl dX4_bringLastBack_37 ?_
    refine g_perm (ws2 := (wB E a ++ (wX2 E a 2 lt ls lw lh lx ++ wX1 E a i nu z q g2.2 t c))) (List.perm_append_comm_assoc _ _ _) ?_
    refine g_aload_n C 1 rfl rfl dX4_bringLastBack_40 ?_
    refine g_X4_ledger C i_X4_bringLastBack_X4 m_X4_bringLastBack_1 0 rfl dX4_bringLastBack_41 ?_
    refine g_X2_weightsN C i_X4_bringLastBack_X2 (by decide +kernel) 1 rfl dX4_bringLastBack_44 ?_
    refine g_iload_n C 0 rfl rfl dX4_bringLastBack_47 ?_
    obtain ⟨g5, eg5, h⟩ := Option.bind_eq_some_iff.mp h
    refine g_cVr (As := [.int g2.1]) (n9 := 1) (st := [.int g4, .int g3, .ref (a (i + 5))]) (w2 := (wB E a ++ (wX2 E a 2 lt ls lw lh lx ++ wX1 E a i nu z q g2.2 t c))) C (c_X3_get E (a 7) (a 8) 120 lw g2.1 g5 eg5) gX4_bringLastBack_X3_get rfl (by decide +kernel) rfl ⟨by decide, by decide, by decide, by decide, Nat.le_of_ble_eq_true rfl⟩ 0 rfl rfl (gSub.idx [6, 7] rfl rfl) rfl dX4_bringLastBack_48 ?_
    refine g_ineg C dX4_bringLastBack_51 ?_
    obtain ⟨g6, eg6, h⟩ := Option.bind_eq_some_iff.mp h
    refine g_cVv (As := [.int g3, .int g4, .int (-g5)]) (n9 := 3) (st := []) (w2 := (wB E a ++ (wX2 E a 2 lt ls lw lh lx ++ wX1 E a i nu z q g2.2 g6.1 g6.2))) C (c_X0_enter E a (i + 5) t c g3 g4 (-g5) g6 eg6) gX4_bringLastBack_X0_enter rfl (by decide +kernel) rfl ⟨by decide, by decide, by decide, by decide, Nat.le_of_ble_eq_true rfl⟩ 0 rfl rfl (gSub.idx [17, 18, 19, 20, 21] rfl rfl) rfl dX4_bringLastBack_52 ?_
    refine g_aload_n C 1 rfl rfl dX4_bringLastBack_55 ?_
    refine g_aload_n C 2 rfl rfl dX4_bringLastBack_56 ?_
    refine g_iload_n C 0 rfl rfl dX4_bringLastBack_57 ?_
    obtain ⟨g7, eg7, h⟩ := Option.bind_eq_some_iff.mp h
    refine g_cVv (As := [.ref (a i), .int g2.1]) (n9 := 2) (st := []) (w2 := (wB E a ++ (wX2 E a 2 lt ls lw g7.1 g7.2.1 ++ wX1 E a i nu z g7.2.2 g2.2 g6.1 g6.2))) C (c_X4_enqueue E a i lt ls lw lh lx nu z q g2.2 g6.1 g6.2 g2.1 g7 eg7) gX4_bringLastBack_X4_enqueue rfl (by decide +kernel) rfl ⟨by decide, by decide, by decide, by decide, Nat.le_of_ble_eq_true rfl⟩ 0 rfl rfl gSub.all rfl dX4_bringLastBack_58 ?_
    obtain rfl := Option.some.inj h
    exact g_vret C hQ (by dsimp only [gO]) ⟨by decide, by decide⟩ dX4_bringLastBack_61
abbrev r_X4_isSplitByClock : Room := { frames := 3, cells := 0, slots := 0, locals := 62 }
theorem i_X4_isSplitByClock_X1 : ∀ w ∈ wsX10, w ∈ wsX4_isSplitByClock := by decide +kernel
theorem m_X4_isSplitByClock_1 : Cond.fieldLink RX4 10 "Bookinghouse" "ledger" "LBookinghouse$Ledger;" ∈ wsX4_isSplitByClock := by decide +kernel
theorem i_X4_isSplitByClock_X4 : ∀ w ∈ wsX40, w ∈ wsX4_isSplitByClock := by decide +kernel
theorem i_X4_isSplitByClock_X2 : ∀ w ∈ wsX20, w ∈ wsX4_isSplitByClock := by decide +kernel
set_option maxHeartbeats 4000000 in
set_option maxRecDepth 100000 in
theorem w_X4_isSplitByClock_68 {E : gE} {X : gX} {a : Nat → Nat} {i : Nat} {lt : RS} {ls : RS} {lw : RS} {lh : RS} {lx : RS} {nu : Int32} {z : Int32} {q : RS} {u : RS} {t : RS} {c : RS} {o : (Bool)} (C : Cx E X cX4_isSplitByClock 4 RX4 wsX4_isSplitByClock r_X4_isSplitByClock ((some .boolean)) []) (hQ : gQ E X (wB E a ++ (wX2 E a 2 lt ls lw lh lx ++ wX1 E a i nu z q u t c)) r_X4_isSplitByClock (gO (fun u9 => some (.int (bI u9))) (fun u9 => (wB E a ++ (wX2 E a 2 lt ls lw lh lx ++ wX1 E a i nu z q u t c))) (.inr o))) : ∀ (F : Nat) (v2 : Int32), l_X4_isSplitByClock_68 lt lh nu z q u F v2 = some o → Gx E X (wB E a ++ (wX2 E a 2 lt ls lw lh lx ++ wX1 E a i nu z q u t c)) 4 [(0, .ref (a 0)), (1, .ref (a i)), (2, .int v2)] [] 68 0 0 := by
  intro F
  induction F with
  | zero => intro v2 h; exact absurd h (by simp [l_X4_isSplitByClock_68])
  | succ F ih =>
    intro v2 h
    rw [l_X4_isSplitByClock_68] at h
    refine g_iload_n C 2 rfl rfl dX4_isSplitByClock_68 ?_
    refine g_aload_n C 1 rfl rfl dX4_isSplitByClock_69 ?_
    refine g_X1_pastN C i_X4_isSplitByClock_X1 (by decide +kernel) 12 rfl dX4_isSplitByClock_70 ?_
    obtain ⟨g1, eg1, h⟩ := Option.bind_eq_some_iff.mp h
    refine g_cVr (As := []) (n9 := 0) (st := [.int v2]) (w2 := (wB E a ++ (wX2 E a 2 lt ls lw lh lx ++ wX1 E a i nu z q u t c))) C (c_X3_size E (a (i + 3)) (a (i + 4)) 120 u g1 eg1) gX4_isSplitByClock_X3_size rfl (by decide +kernel) rfl ⟨by decide, by decide, by decide, by decide, Nat.le_of_ble_eq_true rfl⟩ 0 rfl rfl (gSub.idx [15, 16] rfl rfl) rfl dX4_isSplitByClock_73 ?_
    refine g_icmp_ge C (tgt := 132) dX4_isSplitByClock_76 (by decide) (fun cd2 => ?_) (fun cd2 => ?_)
    · replace h := (if_pos cd2).symm.trans h
      refine g_aload_n C 1 rfl rfl dX4_isSplitByClock_132 ?_
      refine g_X1_queueN C i_X4_isSplitByClock_X1 (by decide +kernel) 12 rfl dX4_isSplitByClock_133 ?_
      obtain ⟨g3, eg3, h⟩ := Option.bind_eq_some_iff.mp h
      refine g_cVr (As := []) (n9 := 0) (st := []) (w2 := (wB E a ++ (wX2 E a 2 lt ls lw lh lx ++ wX1 E a i nu z q u t c))) C (c_X3_size E (a (i + 1)) (a (i + 2)) 48 q g3 eg3) gX4_isSplitByClock_X3_size rfl (by decide +kernel) rfl ⟨by decide, by decide, by decide, by decide, Nat.le_of_ble_eq_true rfl⟩ 0 rfl rfl (gSub.idx [13, 14] rfl rfl) rfl dX4_isSplitByClock_136 ?_
      refine g_bipush C (v := 48) (by decide) dX4_isSplitByClock_139 ?_
      refine g_icmp_gt C (tgt := 148) dX4_isSplitByClock_141 (by decide) (fun cd4 => ?_) (fun cd4 => ?_)
      · replace h := (if_pos cd4).symm.trans h
        refine g_iconst C (v := 0) (by decide) dX4_isSplitByClock_148 ?_
        obtain rfl := Option.some.inj h
        exact g_zret C hQ rfl rfl ⟨by decide, by decide⟩ dX4_isSplitByClock_149
      · replace h := (if_neg cd4).symm.trans h
        refine g_iconst C (v := 1) (by decide) dX4_isSplitByClock_144 ?_
        refine g_goto C (tgt := 149) dX4_isSplitByClock_145 (by decide) ?_
        obtain rfl := Option.some.inj h
        exact g_zret C hQ rfl rfl ⟨by decide, by decide⟩ dX4_isSplitByClock_149
    · replace h := (if_neg cd2).symm.trans h
      refine g_aload_n C 1 rfl rfl dX4_isSplitByClock_79 ?_
      refine g_X1_pastN C i_X4_isSplitByClock_X1 (by decide +kernel) 12 rfl dX4_isSplitByClock_80 ?_
      refine g_iload_n C 2 rfl rfl dX4_isSplitByClock_83 ?_
      obtain ⟨g5, eg5, h⟩ := Option.bind_eq_some_iff.mp h
      refine g_cVr (As := [.int v2]) (n9 := 1) (st := []) (w2 := (wB E a ++ (wX2 E a 2 lt ls lw lh lx ++ wX1 E a i nu z q u t c))) C (c_X3_get E (a (i + 3)) (a (i + 4)) 120 u v2 g5 eg5) gX4_isSplitByClock_X3_get rfl (by decide +kernel) rfl ⟨by decide, by decide, by decide, by decide, Nat.le_of_ble_eq_true rfl⟩ 0 rfl rfl (gSub.idx [15, 16] rfl rfl) rfl dX4_isSplitByClock_84 ?_
      refine g_istore_n C (lv2 := [(3, .int g5), (0, .ref (a 0)), (1, .ref (a i)), (2, .int v2)]) rfl (by decide) rfl dX4_isSplitByClock_87 ?_
      refine g_aload_n C 1 rfl rfl dX4_isSplitByClock_88 ?_
      refine g_X4_ledger C i_X4_isSplitByClock_X4 m_X4_isSplitByClock_1 0 rfl dX4_isSplitByClock_89 ?_
      refine g_X2_timesN C i_X4_isSplitByClock_X2 (by decide +kernel) 1 rfl dX4_isSplitByClock_92 ?_
      refine g_iload_n C 0 rfl rfl dX4_isSplitByClock_95 ?_
      obtain ⟨g6, eg6, h⟩ := Option.bind_eq_some_iff.mp h
      refine g_cVr (As := [.int g5]) (n9 := 1) (st := []) (w2 := (wB E a ++ (wX2 E a 2 lt ls lw lh lx ++ wX1 E a i nu z q u t c))) C (c_X3_get E (a 3) (a 4) 120 lt g5 g6 eg6) gX4_isSplitByClock_X3_get rfl (by decide +kernel) rfl ⟨by decide, by decide, by decide, by decide, Nat.le_of_ble_eq_true rfl⟩ 0 rfl rfl (gSub.idx [2, 3] rfl rfl) rfl dX4_isSplitByClock_96 ?_
      refine g_aload_n C 2 rfl rfl dX4_isSplitByClock_99 ?_
      refine g_X1_nowN C i_X4_isSplitByClock_X1 (by decide +kernel) 12 rfl dX4_isSplitByClock_100 ?_
      refine g_icmp_gt C (tgt := 124) dX4_isSplitByClock_103 (by decide) (fun cd7 => ?_) (fun cd7 => ?_)
      · replace h := (if_pos cd7).symm.trans h
        refine g_iconst C (v := 0) (by decide) dX4_isSplitByClock_124 ?_
        obtain rfl := Option.some.inj h
        exact g_zret C hQ rfl rfl ⟨by decide, by decide⟩ dX4_isSplitByClock_125
      · replace h := (if_neg cd7).symm.trans h
        refine g_aload_n C 1 rfl rfl dX4_isSplitByClock_106 ?_
        refine g_X4_ledger C i_X4_isSplitByClock_X4 m_X4_isSplitByClock_1 0 rfl dX4_isSplitByClock_107 ?_
        refine g_X2_homesN C i_X4_isSplitByClock_X2 (by decide +kernel) 1 rfl dX4_isSplitByClock_110 ?_
        refine g_iload_n C 0 rfl rfl dX4_isSplitByClock_113 ?_
        obtain ⟨g8, eg8, h⟩ := Option.bind_eq_some_iff.mp h
        refine g_cVr (As := [.int g5]) (n9 := 1) (st := []) (w2 := (wB E a ++ (wX2 E a 2 lt ls lw lh lx ++ wX1 E a i nu z q u t c))) C (c_X3_get E (a 9) (a 10) 120 lh g5 g8 eg8) gX4_isSplitByClock_X3_get rfl (by decide +kernel) rfl ⟨by decide, by decide, by decide, by decide, Nat.le_of_ble_eq_true rfl⟩ 0 rfl rfl (gSub.idx [8, 9] rfl rfl) rfl dX4_isSplitByClock_114 ?_
        refine g_aload_n C 2 rfl rfl dX4_isSplitByClock_117 ?_
        refine g_X1_numberN C i_X4_isSplitByClock_X1 (by decide +kernel) 12 rfl dX4_isSplitByClock_118 ?_
        refine g_icmp_eq C (tgt := 126) dX4_isSplitByClock_121 (by decide) (fun cd9 => ?_) (fun cd9 => ?_)
        · replace h := (if_pos cd9).symm.trans h
          refine g_iinc C (v := v2 + 1) 3 rfl rfl (lv2 := [(2, .int (v2 + 1)), (3, .int g5), (0, .ref (a 0)), (1, .ref (a i))]) rfl (by decide) dX4_isSplitByClock_126 ?_
          refine g_goto C (tgt := 68) dX4_isSplitByClock_129 (by decide) ?_
          refine g_lv [2, 3, 0] (lv2 := [(0, .ref (a 0)), (1, .ref (a i)), (2, .int (v2 + 1))]) rfl ?_
          exact ih (v2 + 1) h
        · replace h := (if_neg cd9).symm.trans h
          refine g_iconst C (v := 0) (by decide) dX4_isSplitByClock_124 ?_
          obtain rfl := Option.some.inj h
          exact g_zret C hQ rfl rfl ⟨by decide, by decide⟩ dX4_isSplitByClock_125
set_option maxHeartbeats 4000000 in
set_option maxRecDepth 100000 in
theorem w_X4_isSplitByClock_2 {E : gE} {X : gX} {a : Nat → Nat} {i : Nat} {lt : RS} {ls : RS} {lw : RS} {lh : RS} {lx : RS} {nu : Int32} {z : Int32} {q : RS} {u : RS} {t : RS} {c : RS} {o : (Bool)} (C : Cx E X cX4_isSplitByClock 4 RX4 wsX4_isSplitByClock r_X4_isSplitByClock ((some .boolean)) []) (hQ : gQ E X (wB E a ++ (wX2 E a 2 lt ls lw lh lx ++ wX1 E a i nu z q u t c)) r_X4_isSplitByClock (gO (fun u9 => some (.int (bI u9))) (fun u9 => (wB E a ++ (wX2 E a 2 lt ls lw lh lx ++ wX1 E a i nu z q u t c))) (.inr o))) : ∀ (F : Nat) (v2 : Int32), l_X4_isSplitByClock_2 lt lh nu z q u F v2 = some o → Gx E X (wB E a ++ (wX2 E a 2 lt ls lw lh lx ++ wX1 E a i nu z q u t c)) 4 [(0, .ref (a 0)), (1, .ref (a i)), (2, .int v2)] [] 2 0 0 := by
  intro F
  induction F with
  | zero => intro v2 h; exact absurd h (by simp [l_X4_isSplitByClock_2])
  | succ F ih =>
    intro v2 h
    rw [l_X4_isSplitByClock_2] at h
    refine g_iload_n C 2 rfl rfl dX4_isSplitByClock_2 ?_
    refine g_aload_n C 1 rfl rfl dX4_isSplitByClock_3 ?_
    refine g_X1_queueN C i_X4_isSplitByClock_X1 (by decide +kernel) 12 rfl dX4_isSplitByClock_4 ?_
    obtain ⟨g1, eg1, h⟩ := Option.bind_eq_some_iff.mp h
    refine g_cVr (As := []) (n9 := 0) (st := [.int v2]) (w2 := (wB E a ++ (wX2 E a 2 lt ls lw lh lx ++ wX1 E a i nu z q u t c))) C (c_X3_size E (a (i + 1)) (a (i + 2)) 48 q g1 eg1) gX4_isSplitByClock_X3_size rfl (by decide +kernel) rfl ⟨by decide, by decide, by decide, by decide, Nat.le_of_ble_eq_true rfl⟩ 0 rfl rfl (gSub.idx [13, 14] rfl rfl) rfl dX4_isSplitByClock_7 ?_
    refine g_icmp_ge C (tgt := 66) dX4_isSplitByClock_10 (by decide) (fun cd2 => ?_) (fun cd2 => ?_)
    · replace h := (if_pos cd2).symm.trans h
      refine g_iconst C (v := 0) (by decide) dX4_isSplitByClock_66 ?_
      refine g_istore_n C (lv2 := [(2, .int 0), (0, .ref (a 0)), (1, .ref (a i))]) rfl (by decide) rfl dX4_isSplitByClock_67 ?_
      refine g_lv [1, 2, 0] (lv2 := [(0, .ref (a 0)), (1, .ref (a i)), (2, .int 0)]) rfl ?_
      exact w_X4_isSplitByClock_68 C hQ FU 0 h
    · replace h := (if_neg cd2).symm.trans h
      refine g_aload_n C 1 rfl rfl dX4_isSplitByClock_13 ?_
      refine g_X1_queueN C i_X4_isSplitByClock_X1 (by decide +kernel) 12 rfl dX4_isSplitByClock_14 ?_
      refine g_iload_n C 2 rfl rfl dX4_isSplitByClock_17 ?_
      obtain ⟨g3, eg3, h⟩ := Option.bind_eq_some_iff.mp h
      refine g_cVr (As := [.int v2]) (n9 := 1) (st := []) (w2 := (wB E a ++ (wX2 E a 2 lt ls lw lh lx ++ wX1 E a i nu z q u t c))) C (c_X3_get E (a (i + 1)) (a (i + 2)) 48 q v2 g3 eg3) gX4_isSplitByClock_X3_get rfl (by decide +kernel) rfl ⟨by decide, by decide, by decide, by decide, Nat.le_of_ble_eq_true rfl⟩ 0 rfl rfl (gSub.idx [13, 14] rfl rfl) rfl dX4_isSplitByClock_18 ?_
      refine g_istore_n C (lv2 := [(3, .int g3), (0, .ref (a 0)), (1, .ref (a i)), (2, .int v2)]) rfl (by decide) rfl dX4_isSplitByClock_21 ?_
      refine g_aload_n C 1 rfl rfl dX4_isSplitByClock_22 ?_
      refine g_X4_ledger C i_X4_isSplitByClock_X4 m_X4_isSplitByClock_1 0 rfl dX4_isSplitByClock_23 ?_
      refine g_X2_timesN C i_X4_isSplitByClock_X2 (by decide +kernel) 1 rfl dX4_isSplitByClock_26 ?_
      refine g_iload_n C 0 rfl rfl dX4_isSplitByClock_29 ?_
      obtain ⟨g4, eg4, h⟩ := Option.bind_eq_some_iff.mp h
      refine g_cVr (As := [.int g3]) (n9 := 1) (st := []) (w2 := (wB E a ++ (wX2 E a 2 lt ls lw lh lx ++ wX1 E a i nu z q u t c))) C (c_X3_get E (a 3) (a 4) 120 lt g3 g4 eg4) gX4_isSplitByClock_X3_get rfl (by decide +kernel) rfl ⟨by decide, by decide, by decide, by decide, Nat.le_of_ble_eq_true rfl⟩ 0 rfl rfl (gSub.idx [2, 3] rfl rfl) rfl dX4_isSplitByClock_30 ?_
      refine g_aload_n C 2 rfl rfl dX4_isSplitByClock_33 ?_
      refine g_X1_nowN C i_X4_isSplitByClock_X1 (by decide +kernel) 12 rfl dX4_isSplitByClock_34 ?_
      refine g_icmp_lt C (tgt := 58) dX4_isSplitByClock_37 (by decide) (fun cd5 => ?_) (fun cd5 => ?_)
      · replace h := (if_pos cd5).symm.trans h
        refine g_iconst C (v := 0) (by decide) dX4_isSplitByClock_58 ?_
        obtain rfl := Option.some.inj h
        exact g_zret C hQ rfl rfl ⟨by decide, by decide⟩ dX4_isSplitByClock_59
      · replace h := (if_neg cd5).symm.trans h
        refine g_aload_n C 1 rfl rfl dX4_isSplitByClock_40 ?_
        refine g_X4_ledger C i_X4_isSplitByClock_X4 m_X4_isSplitByClock_1 0 rfl dX4_isSplitByClock_41 ?_
        refine g_X2_homesN C i_X4_isSplitByClock_X2 (by decide +kernel) 1 rfl dX4_isSplitByClock_44 ?_
        refine g_iload_n C 0 rfl rfl dX4_isSplitByClock_47 ?_
        obtain ⟨g6, eg6, h⟩ := Option.bind_eq_some_iff.mp h
        refine g_cVr (As := [.int g3]) (n9 := 1) (st := []) (w2 := (wB E a ++ (wX2 E a 2 lt ls lw lh lx ++ wX1 E a i nu z q u t c))) C (c_X3_get E (a 9) (a 10) 120 lh g3 g6 eg6) gX4_isSplitByClock_X3_get rfl (by decide +kernel) rfl ⟨by decide, by decide, by decide, by decide, Nat.le_of_ble_eq_true rfl⟩ 0 rfl rfl (gSub.idx [8, 9] rfl rfl) rfl dX4_isSplitByClock_48 ?_
        refine g_aload_n C 2 rfl rfl dX4_isSplitByClock_51 ?_
        refine g_X1_numberN C i_X4_isSplitByClock_X1 (by decide +kernel) 12 rfl dX4_isSplitByClock_52 ?_
        refine g_icmp_eq C (tgt := 60) dX4_isSplitByClock_55 (by decide) (fun cd7 => ?_) (fun cd7 => ?_)
        · replace h := (if_pos cd7).symm.trans h
          refine g_iinc C (v := v2 + 1) 3 rfl rfl (lv2 := [(2, .int (v2 + 1)), (3, .int g3), (0, .ref (a 0)), (1, .ref (a i))]) rfl (by decide) dX4_isSplitByClock_60 ?_
          refine g_goto C (tgt := 2) dX4_isSplitByClock_63 (by decide) ?_
          refine g_lv [2, 3, 0] (lv2 := [(0, .ref (a 0)), (1, .ref (a i)), (2, .int (v2 + 1))]) rfl ?_
          exact ih (v2 + 1) h
        · replace h := (if_neg cd7).symm.trans h
          refine g_iconst C (v := 0) (by decide) dX4_isSplitByClock_58 ?_
          obtain rfl := Option.some.inj h
          exact g_zret C hQ rfl rfl ⟨by decide, by decide⟩ dX4_isSplitByClock_59
set_option maxHeartbeats 4000000 in
set_option maxRecDepth 100000 in
theorem c_X4_isSplitByClock (E : gE) (a : Nat → Nat) (i : Nat) (lt : RS) (ls : RS) (lw : RS) (lh : RS) (lx : RS) (nu : Int32) (z : Int32) (q : RS) (u : RS) (t : RS) (c : RS) (o : (Bool)) (h : f_X4_isSplitByClock lt lh nu z q u = some o) : Ct E yX4_isSplitByClock wsX4_isSplitByClock r_X4_isSplitByClock [.ref (a 0), .ref (a i)] (wB E a ++ (wX2 E a 2 lt ls lw lh lx ++ wX1 E a i nu z q u t c)) (gO (fun u9 => some (.int (bI u9))) (fun u9 => (wB E a ++ (wX2 E a 2 lt ls lw lh lx ++ wX1 E a i nu z q u t c))) (.inr o)) := by
  refine Ct.of (cc := cX4_isSplitByClock) (nL := 4) (ret := ((some .boolean))) (own := RX4) (by decide) rfl rfl (Nat.le_of_ble_eq_true rfl) rfl ?_ ?_
  · intro v w1 hh
    cases hh; rfl
  · intro X C hQ
    rw [f_X4_isSplitByClock] at h
    refine g_iconst C (v := 0) (by decide) dX4_isSplitByClock_0 ?_
    refine g_istore_n C (lv2 := [(2, .int 0), (0, .ref (a 0)), (1, .ref (a i))]) rfl (by decide) rfl dX4_isSplitByClock_1 ?_
    refine g_lv [1, 2, 0] (lv2 := [(0, .ref (a 0)), (1, .ref (a i)), (2, .int 0)]) rfl ?_
    exact w_X4_isSplitByClock_2 C hQ FU 0 h
