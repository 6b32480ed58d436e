/-! ledger: pure functions, printed by wip/whole/gen.py out of the bytecode, and their walks -/
def f_X2_size (lt : RS) : Option (Int32) := ((f_X3_size lt).bind fun g1 => some g1)
def f_X2_enter (lt : RS) (ls : RS) (lw : RS) (lh : RS) (lx : RS) (p1 : Int32) (p2 : Int32) (p3 : Int32) : Option (Int32 × RS × RS × RS × RS × RS) := ((f_X3_add 120 lt p1).bind fun g1 => ((f_X3_add 120 ls p2).bind fun g2 => ((f_X3_add 120 lw p3).bind fun g3 => ((f_X3_add 120 lh 0).bind fun g4 => ((f_X3_add 120 lx 0).bind fun g5 => ((f_X3_size g1).bind fun g6 => some ((g6 - 1), g1, g2, g3, g4, g5)))))))
def f_X2_end (lt : RS) (ls : RS) (p1 : Int32) : Option (Int32) := ((f_X3_get 120 lt p1).bind fun g1 => ((f_X3_get 120 ls p1).bind fun g2 => some (g1 + g2)))
def f_X2_isAhead (lt : RS) (p1 : Int32) (p2 : Int32) : Option (Bool) := ((f_X3_get 120 lt p1).bind fun g1 => ((f_X3_get 120 lt p2).bind fun g2 => (if g1 < g2 then some true else (if g1 = g2 then (if p2 ≤ p1 then some false else some true) else some false))))
abbrev r_X2_size : Room := { frames := 2, cells := 0, slots := 0, locals := 40 }
theorem m_X2_size_0 : Cond.fieldLink RX2 14 "Bookinghouse$Ledger" "times" "LBookinghouse$Row;" ∈ wsX2_size := by decide +kernel
theorem i_X2_size_X2 : ∀ w ∈ wsX20, w ∈ wsX2_size := by decide +kernel
set_option maxHeartbeats 4000000 in
set_option maxRecDepth 100000 in
theorem c_X2_size (E : gE) (a : Nat → Nat) (i : Nat) (lt : RS) (ls : RS) (lw : RS) (lh : RS) (lx : RS) (o : (Int32)) (h : f_X2_size lt = some o) : Ct E yX2_size wsX2_size r_X2_size [.ref (a i)] (wX2 E a i lt ls lw lh lx) (gO (fun u9 => some (.int u9)) (fun u9 => (wX2 E a i lt ls lw lh lx)) (.inr o)) := by
  refine Ct.of (cc := cX2_size) (nL := 1) (ret := ((some .int))) (own := RX2) (by decide) rfl rfl (Nat.le_of_ble_eq_true rfl) rfl ?_ ?_
  · intro v w1 hh
    cases hh; rfl
  · intro X C hQ
    rw [f_X2_size] at h
    refine g_aload_n C 0 rfl rfl dX2_size_0 ?_
    refine g_X2_times C i_X2_size_X2 m_X2_size_0 0 rfl dX2_size_1 ?_
    obtain ⟨g1, eg1, h⟩ := Option.bind_eq_some_iff.mp h
    refine g_cVr (As := []) (n9 := 0) (st := []) (w2 := (wX2 E a i lt ls lw lh lx)) C (c_X3_size E (a (i + 1)) (a (i + 2)) 120 lt g1 eg1) gX2_size_X3_size rfl (by decide +kernel) rfl ⟨by decide, by decide, by decide, by decide, Nat.le_of_ble_eq_true rfl⟩ 0 rfl rfl (gSub.idx [1, 2] rfl rfl) rfl dX2_size_4 ?_
    obtain rfl := Option.some.inj h
    exact g_iret C hQ rfl ⟨by decide, by decide⟩ dX2_size_7
abbrev r_X2_enter : Room := { frames := 4, cells := 0, slots := 0, locals := 103 }
theorem m_X2_enter_0 : Cond.fieldLink RX2 14 "Bookinghouse$Ledger" "times" "LBookinghouse$Row;" ∈ wsX2_enter := by decide +kernel
theorem i_X2_enter_X2 : ∀ w ∈ wsX20, w ∈ wsX2_enter := by decide +kernel
theorem m_X2_enter_2 : Cond.fieldLink RX2 20 "Bookinghouse$Ledger" "spans" "LBookinghouse$Row;" ∈ wsX2_enter := by decide +kernel
theorem m_X2_enter_3 : Cond.fieldLink RX2 23 "Bookinghouse$Ledger" "weights" "LBookinghouse$Row;" ∈ wsX2_enter := by decide +kernel
theorem m_X2_enter_4 : Cond.fieldLink RX2 26 "Bookinghouse$Ledger" "homes" "LBookinghouse$Row;" ∈ wsX2_enter := by decide +kernel
theorem m_X2_enter_5 : Cond.fieldLink RX2 29 "Bookinghouse$Ledger" "states" "LBookinghouse$Row;" ∈ wsX2_enter := by decide +kernel
set_option maxHeartbeats 4000000 in
set_option maxRecDepth 100000 in
theorem c_X2_enter (E : gE) (a : Nat → Nat) (i : Nat) (lt : RS) (ls : RS) (lw : RS) (lh : RS) (lx : RS) (p1 : Int32) (p2 : Int32) (p3 : Int32) (o : (Int32 × RS × RS × RS × RS × RS)) (h : f_X2_enter lt ls lw lh lx p1 p2 p3 = some o) : Ct E yX2_enter wsX2_enter r_X2_enter [.ref (a i), .int p1, .int p2, .int p3] (wX2 E a i lt ls lw lh lx) (gO (fun u9 => some (.int u9.1)) (fun u9 => (wX2 E a i u9.2.1 u9.2.2.1 u9.2.2.2.1 u9.2.2.2.2.1 u9.2.2.2.2.2)) (.inr o)) := by
  refine Ct.of (cc := cX2_enter) (nL := 4) (ret := ((some .int))) (own := RX2) (by decide) rfl rfl (Nat.le_of_ble_eq_true rfl) rfl ?_ ?_
  · intro v w1 hh
    cases hh; rfl
  · intro X C hQ
    rw [f_X2_enter] at h
    refine g_aload_n C 0 rfl rfl dX2_enter_0 ?_
    refine g_X2_times C i_X2_enter_X2 m_X2_enter_0 0 rfl dX2_enter_1 ?_
    refine g_iload_n C 1 rfl rfl dX2_enter_4 ?_
    obtain ⟨g1, eg1, h⟩ := Option.bind_eq_some_iff.mp h
    refine g_cVv (As := [.int p1]) (n9 := 1) (st := []) (w2 := (wX2 E a i g1 ls lw lh lx)) C (c_X3_add E (a (i + 1)) (a (i + 2)) 120 lt p1 g1 eg1) gX2_enter_X3_add rfl (by decide +kernel) rfl ⟨by decide, by decide, by decide, by decide, Nat.le_of_ble_eq_true rfl⟩ 0 rfl rfl (gSub.idx [1, 2] rfl rfl) rfl dX2_enter_5 ?_
    refine g_aload_n C 0 rfl rfl dX2_enter_8 ?_
    refine g_X2_spans C i_X2_enter_X2 m_X2_enter_2 0 rfl dX2_enter_9 ?_
    refine g_iload_n C 2 rfl rfl dX2_enter_12 ?_
    obtain ⟨g2, eg2, h⟩ := Option.bind_eq_some_iff.mp h
    refine g_cVv (As := [.int p2]) (n9 := 1) (st := []) (w2 := (wX2 E a i g1 g2 lw lh lx)) C (c_X3_add E (a (i + 3)) (a (i + 4)) 120 ls p2 g2 eg2) gX2_enter_X3_add rfl (by decide +kernel) rfl ⟨by decide, by decide, by decide, by decide, Nat.le_of_ble_eq_true rfl⟩ 0 rfl rfl (gSub.idx [3, 4] rfl rfl) rfl dX2_enter_13 ?_
    refine g_aload_n C 0 rfl rfl dX2_enter_16 ?_
    refine g_X2_weights C i_X2_enter_X2 m_X2_enter_3 0 rfl dX2_enter_17 ?_
    refine g_iload_n C 3 rfl rfl dX2_enter_20 ?_
    obtain ⟨g3, eg3, h⟩ := Option.bind_eq_some_iff.mp h
    refine g_cVv (As := [.int p3]) (n9 := 1) (st := []) (w2 := (wX2 E a i g1 g2 g3 lh lx)) C (c_X3_add E (a (i + 5)) (a (i + 6)) 120 lw p3 g3 eg3) gX2_enter_X3_add rfl (by decide +kernel) rfl ⟨by decide, by decide, by decide, by decide, Nat.le_of_ble_eq_true rfl⟩ 0 rfl rfl (gSub.idx [5, 6] rfl rfl) rfl dX2_enter_21 ?_
    refine g_aload_n C 0 rfl rfl dX2_enter_24 ?_
    refine g_X2_homes C i_X2_enter_X2 m_X2_enter_4 0 rfl dX2_enter_25 ?_
    refine g_iconst C (v := 0) (by decide) dX2_enter_28 ?_
    obtain ⟨g4, eg4, h⟩ := Option.bind_eq_some_iff.mp h
    refine g_cVv (As := [.int 0]) (n9 := 1) (st := []) (w2 := (wX2 E a i g1 g2 g3 g4 lx)) C (c_X3_add E (a (i + 7)) (a (i + 8)) 120 lh 0 g4 eg4) gX2_enter_X3_add rfl (by decide +kernel) rfl ⟨by decide, by decide, by decide, by decide, Nat.le_of_ble_eq_true rfl⟩ 0 rfl rfl (gSub.idx [7, 8] rfl rfl) rfl dX2_enter_29 ?_
    refine g_aload_n C 0 rfl rfl dX2_enter_32 ?_
    refine g_X2_states C i_X2_enter_X2 m_X2_enter_5 0 rfl dX2_enter_33 ?_
    refine g_iconst C (v := 0) (by decide) dX2_enter_36 ?_
    obtain ⟨g5, eg5, h⟩ := Option.bind_eq_some_iff.mp h
    refine g_cVv (As := [.int 0]) (n9 := 1) (st := []) (w2 := (wX2 E a i g1 g2 g3 g4 g5)) C (c_X3_add E (a (i + 9)) (a (i + 10)) 120 lx 0 g5 eg5) gX2_enter_X3_add rfl (by decide +kernel) rfl ⟨by decide, by decide, by decide, by decide, Nat.le_of_ble_eq_true rfl⟩ 0 rfl rfl (gSub.idx [9, 10] rfl rfl) rfl dX2_enter_37 ?_
    refine g_aload_n C 0 rfl rfl dX2_enter_40 ?_
    refine g_X2_times C i_X2_enter_X2 m_X2_enter_0 0 rfl dX2_enter_41 ?_
    obtain ⟨g6, eg6, h⟩ := Option.bind_eq_some_iff.mp h
    refine g_cVr (As := []) (n9 := 0) (st := []) (w2 := (wX2 E a i g1 g2 g3 g4 g5)) C (c_X3_size E (a (i + 1)) (a (i + 2)) 120 g1 g6 eg6) gX2_enter_X3_size rfl (by decide +kernel) rfl ⟨by decide, by decide, by decide, by decide, Nat.le_of_ble_eq_true rfl⟩ 0 rfl rfl (gSub.idx [1, 2] rfl rfl) rfl dX2_enter_44 ?_
    refine g_iconst C (v := 1) (by decide) dX2_enter_47 ?_
    refine g_isub C dX2_enter_48 ?_
    obtain rfl := Option.some.inj h
    exact g_iret C hQ (by dsimp only [gO]) ⟨by decide, by decide⟩ dX2_enter_49
abbrev r_X2_end : Room := { frames := 3, cells := 0, slots := 0, locals := 62 }
theorem m_X2_end_0 : Cond.fieldLink RX2 14 "Bookinghouse$Ledger" "times" "LBookinghouse$Row;" ∈ wsX2_end := by decide +kernel
theorem i_X2_end_X2 : ∀ w ∈ wsX20, w ∈ wsX2_end := by decide +kernel
theorem m_X2_end_2 : Cond.fieldLink RX2 20 "Bookinghouse$Ledger" "spans" "LBookinghouse$Row;" ∈ wsX2_end := by decide +kernel
set_option maxHeartbeats 4000000 in
set_option maxRecDepth 100000 in
theorem c_X2_end (E : gE) (a : Nat → Nat) (i : Nat) (lt : RS) (ls : RS) (lw : RS) (lh : RS) (lx : RS) (p1 : Int32) (o : (Int32)) (h : f_X2_end lt ls p1 = some o) : Ct E yX2_end wsX2_end r_X2_end [.ref (a i), .int p1] (wX2 E a i lt ls lw lh lx) (gO (fun u9 => some (.int u9)) (fun u9 => (wX2 E a i lt ls lw lh lx)) (.inr o)) := by
  refine Ct.of (cc := cX2_end) (nL := 2) (ret := ((some .int))) (own := RX2) (by decide) rfl rfl (Nat.le_of_ble_eq_true rfl) rfl ?_ ?_
  · intro v w1 hh
    cases hh; rfl
  · intro X C hQ
    rw [f_X2_end] at h
    refine g_aload_n C 0 rfl rfl dX2_end_0 ?_
    refine g_X2_times C i_X2_end_X2 m_X2_end_0 0 rfl dX2_end_1 ?_
    refine g_iload_n C 1 rfl rfl dX2_end_4 ?_
    obtain ⟨g1, eg1, h⟩ := Option.bind_eq_some_iff.mp h
    refine g_cVr (As := [.int p1]) (n9 := 1) (st := []) (w2 := (wX2 E a i lt ls lw lh lx)) C (c_X3_get E (a (i + 1)) (a (i + 2)) 120 lt p1 g1 eg1) gX2_end_X3_get rfl (by decide +kernel) rfl ⟨by decide, by decide, by decide, by decide, Nat.le_of_ble_eq_true rfl⟩ 0 rfl rfl (gSub.idx [1, 2] rfl rfl) rfl dX2_end_5 ?_
    refine g_aload_n C 0 rfl rfl dX2_end_8 ?_
    refine g_X2_spans C i_X2_end_X2 m_X2_end_2 0 rfl dX2_end_9 ?_
    refine g_iload_n C 1 rfl rfl dX2_end_12 ?_
    obtain ⟨g2, eg2, h⟩ := Option.bind_eq_some_iff.mp h
    refine g_cVr (As := [.int p1]) (n9 := 1) (st := [.int g1]) (w2 := (wX2 E a i lt ls lw lh lx)) C (c_X3_get E (a (i + 3)) (a (i + 4)) 120 ls p1 g2 eg2) gX2_end_X3_get rfl (by decide +kernel) rfl ⟨by decide, by decide, by decide, by decide, Nat.le_of_ble_eq_true rfl⟩ 0 rfl rfl (gSub.idx [3, 4] rfl rfl) rfl dX2_end_13 ?_
    refine g_iadd C dX2_end_16 ?_
    obtain rfl := Option.some.inj h
    exact g_iret C hQ rfl ⟨by decide, by decide⟩ dX2_end_17
abbrev r_X2_isAhead : Room := { frames := 3, cells := 0, slots := 0, locals := 62 }
theorem m_X2_isAhead_0 : Cond.fieldLink RX2 14 "Bookinghouse$Ledger" "times" "LBookinghouse$Row;" ∈ wsX2_isAhead := by decide +kernel
theorem i_X2_isAhead_X2 : ∀ w ∈ wsX20, w ∈ wsX2_isAhead := by decide +kernel
set_option maxHeartbeats 4000000 in
set_option maxRecDepth 100000 in
theorem c_X2_isAhead (E : gE) (a : Nat → Nat) (i : Nat) (lt : RS) (ls : RS) (lw : RS) (lh : RS) (lx : RS) (p1 : Int32) (p2 : Int32) (o : (Bool)) (h : f_X2_isAhead lt p1 p2 = some o) : Ct E yX2_isAhead wsX2_isAhead r_X2_isAhead [.ref (a i), .int p1, .int p2] (wX2 E a i lt ls lw lh lx) (gO (fun u9 => some (.int (bI u9))) (fun u9 => (wX2 E a i lt ls lw lh lx)) (.inr o)) := by
  refine Ct.of (cc := cX2_isAhead) (nL := 5) (ret := ((some .boolean))) (own := RX2) (by decide) rfl rfl (Nat.le_of_ble_eq_true rfl) rfl ?_ ?_
  · intro v w1 hh
    cases hh; rfl
  · intro X C hQ
    rw [f_X2_isAhead] at h
    refine g_aload_n C 0 rfl rfl dX2_isAhead_0 ?_
    refine g_X2_times C i_X2_isAhead_X2 m_X2_isAhead_0 0 rfl dX2_isAhead_1 ?_
    refine g_iload_n C 1 rfl rfl dX2_isAhead_4 ?_
    obtain ⟨g1, eg1, h⟩ := Option.bind_eq_some_iff.mp h
    refine g_cVr (As := [.int p1]) (n9 := 1) (st := []) (w2 := (wX2 E a i lt ls lw lh lx)) C (c_X3_get E (a (i + 1)) (a (i + 2)) 120 lt p1 g1 eg1) gX2_isAhead_X3_get rfl (by decide +kernel) rfl ⟨by decide, by decide, by decide, by decide, Nat.le_of_ble_eq_true rfl⟩ 0 rfl rfl (gSub.idx [1, 2] rfl rfl) rfl dX2_isAhead_5 ?_
    refine g_istore_n C (lv2 := [(3, .int g1), (0, .ref (a i)), (1, .int p1), (2, .int p2)]) rfl (by decide) rfl dX2_isAhead_8 ?_
    refine g_aload_n C 1 rfl rfl dX2_isAhead_9 ?_
    refine g_X2_times C i_X2_isAhead_X2 m_X2_isAhead_0 0 rfl dX2_isAhead_10 ?_
    refine g_iload_n C 3 rfl rfl dX2_isAhead_13 ?_
    obtain ⟨g2, eg2, h⟩ := Option.bind_eq_some_iff.mp h
    refine g_cVr (As := [.int p2]) (n9 := 1) (st := []) (w2 := (wX2 E a i lt ls lw lh lx)) C (c_X3_get E (a (i + 1)) (a (i + 2)) 120 lt p2 g2 eg2) gX2_isAhead_X3_get rfl (by decide +kernel) rfl ⟨by decide, by decide, by decide, by decide, Nat.le_of_ble_eq_true rfl⟩ 0 rfl rfl (gSub.idx [1, 2] rfl rfl) rfl dX2_isAhead_14 ?_
    refine g_istore C (lv2 := [(4, .int g2), (3, .int g1), (0, .ref (a i)), (1, .int p1), (2, .int p2)]) rfl (by decide) dX2_isAhead_17 ?_
    refine g_iload_n C 1 rfl rfl dX2_isAhead_19 ?_
    refine g_iload C 0 rfl dX2_isAhead_20 ?_
    refine g_icmp_lt C (tgt := 36) dX2_isAhead_22 (by decide) (fun cd3 => ?_) (fun cd3 => ?_)
    · replace h := (if_pos cd3).symm.trans h
      refine g_iconst C (v := 1) (by decide) dX2_isAhead_36 ?_
      refine g_goto C (tgt := 41) dX2_isAhead_37 (by decide) ?_
      obtain rfl := Option.some.inj h
      exact g_zret C hQ rfl rfl ⟨by decide, by decide⟩ dX2_isAhead_41
    · replace h := (if_neg cd3).symm.trans h
      refine g_iload_n C 1 rfl rfl dX2_isAhead_25 ?_
      refine g_iload C 0 rfl dX2_isAhead_26 ?_
      refine g_icmp_ne C (tgt := 40) dX2_isAhead_28 (by decide) (fun cd4 => ?_) (fun cd4 => ?_)
      · replace h := (if_neg cd4).symm.trans h
        refine g_iconst C (v := 0) (by decide) dX2_isAhead_40 ?_
        obtain rfl := Option.some.inj h
        exact g_zret C hQ rfl rfl ⟨by decide, by decide⟩ dX2_isAhead_41
      · replace h := (if_pos cd4).symm.trans h
        refine g_iload_n C 3 rfl rfl dX2_isAhead_31 ?_
        refine g_iload_n C 4 rfl rfl dX2_isAhead_32 ?_
        refine g_icmp_ge C (tgt := 40) dX2_isAhead_33 (by decide) (fun cd5 => ?_) (fun cd5 => ?_)
        · replace h := (if_pos cd5).symm.trans h
          refine g_iconst C (v := 0) (by decide) dX2_isAhead_40 ?_
          obtain rfl := Option.some.inj h
          exact g_zret C hQ rfl rfl ⟨by decide, by decide⟩ dX2_isAhead_41
        · replace h := (if_neg cd5).symm.trans h
          refine g_iconst C (v := 1) (by decide) dX2_isAhead_36 ?_
          refine g_goto C (tgt := 41) dX2_isAhead_37 (by decide) ?_
          obtain rfl := Option.some.inj h
          exact g_zret C hQ rfl rfl ⟨by decide, by decide⟩ dX2_isAhead_41
