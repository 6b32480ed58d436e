/-! bpub: pure functions, printed by wip/whole/gen.py out of the bytecode, and their walks -/
def l_X4_isSound_2 (lt : RS) (ls : RS) (lw : RS) (lh : RS) (lx : RS) (rt : RS) (rc : RS) (z0 : Int32) (q0 : RS) (u0 : RS) (t0 : RS) (c0 : RS) (z1 : Int32) (q1 : RS) (u1 : RS) (t1 : RS) (c1 : RS) (z2 : Int32) (q2 : RS) (u2 : RS) (t2 : RS) (c2 : RS) (z3 : Int32) (q3 : RS) (u3 : RS) (t3 : RS) (c3 : RS) : Nat → Int32 → Option (Bool × RS × RS)
  | 0, _ => none
  | F + 1, v1 => ((f_X2_size lt).bind fun g1 => (if g1 ≤ v1 then ((f_X4_isSplitByClock lt lh 0 z0 q0 u0).bind fun g4 => (if (bI g4) = 0 then some (false, rt, rc) else ((f_X4_crowdIsOfThoseThatCame lt ls lw rt rc u0 t0 c0).bind fun g6 => (if (bI g6.1) = 0 then some (false, g6.2.1, g6.2.2) else ((f_X4_standsWithAllOthers_0 lt q0 q1 q2 q3).bind fun g8 => (if (bI g8) = 0 then some (false, g6.2.1, g6.2.2) else ((f_X4_isSplitByClock lt lh 1 z1 q1 u1).bind fun g11 => (if (bI g11) = 0 then some (false, g6.2.1, g6.2.2) else ((f_X4_crowdIsOfThoseThatCame lt ls lw g6.2.1 g6.2.2 u1 t1 c1).bind fun g13 => (if (bI g13.1) = 0 then some (false, g13.2.1, g13.2.2) else ((f_X4_standsWithAllOthers_1 lt q1 q2 q3).bind fun g15 => (if (bI g15) = 0 then some (false, g13.2.1, g13.2.2) else ((f_X4_isSplitByClock lt lh 2 z2 q2 u2).bind fun g18 => (if (bI g18) = 0 then some (false, g13.2.1, g13.2.2) else ((f_X4_crowdIsOfThoseThatCame lt ls lw g13.2.1 g13.2.2 u2 t2 c2).bind fun g20 => (if (bI g20.1) = 0 then some (false, g20.2.1, g20.2.2) else ((f_X4_standsWithAllOthers_2 lt q2 q3).bind fun g22 => (if (bI g22) = 0 then some (false, g20.2.1, g20.2.2) else ((f_X4_isSplitByClock lt lh 3 z3 q3 u3).bind fun g25 => (if (bI g25) = 0 then some (false, g20.2.1, g20.2.2) else ((f_X4_crowdIsOfThoseThatCame lt ls lw g20.2.1 g20.2.2 u3 t3 c3).bind fun g27 => (if (bI g27.1) = 0 then some (false, g27.2.1, g27.2.2) else ((f_X4_standsWithAllOthers_3).bind fun g29 => (if (bI g29) = 0 then some (false, g27.2.1, g27.2.2) else some (true, g27.2.1, g27.2.2))))))))))))))))))))))))) else ((f_X4_isOneThingOnce lx q0 u0 q1 u1 q2 u2 q3 u3 v1).bind fun g32 => (if (bI g32) = 0 then some (false, rt, rc) else l_X4_isSound_2 lt ls lw lh lx rt rc z0 q0 u0 t0 c0 z1 q1 u1 t1 c1 z2 q2 u2 t2 c2 z3 q3 u3 t3 c3 F (v1 + 1)))))
def f_X4_isSound (lt : RS) (ls : RS) (lw : RS) (lh : RS) (lx : RS) (rt : RS) (rc : RS) (z0 : Int32) (q0 : RS) (u0 : RS) (t0 : RS) (c0 : RS) (z1 : Int32) (q1 : RS) (u1 : RS) (t1 : RS) (c1 : RS) (z2 : Int32) (q2 : RS) (u2 : RS) (t2 : RS) (c2 : RS) (z3 : Int32) (q3 : RS) (u3 : RS) (t3 : RS) (c3 : RS) : Option (Bool × RS × RS) := l_X4_isSound_2 lt ls lw lh lx rt rc z0 q0 u0 t0 c0 z1 q1 u1 t1 c1 z2 q2 u2 t2 c2 z3 q3 u3 t3 c3 FU 0
def f_X4_checksum (z0 : Int32) (q0 : RS) (u0 : RS) (t0 : RS) (c0 : RS) (z1 : Int32) (q1 : RS) (u1 : RS) (t1 : RS) (c1 : RS) (z2 : Int32) (q2 : RS) (u2 : RS) (t2 : RS) (c2 : RS) (z3 : Int32) (q3 : RS) (u3 : RS) (t3 : RS) (c3 : RS) : Option (Int64) := ((f_X4_withHouse z0 q0 u0 t0 c0 7).bind fun g2 => ((f_X4_withHouse z1 q1 u1 t1 c1 g2).bind fun g4 => ((f_X4_withHouse z2 q2 u2 t2 c2 g4).bind fun g6 => ((f_X4_withHouse z3 q3 u3 t3 c3 g6).bind fun g8 => some g8))))
def f_X4_book (lt : RS) (ls : RS) (lw : RS) (lh : RS) (lx : RS) (nu : Int32) (z : Int32) (q : RS) (p1 : Int32) (p2 : Int32) (p3 : Int32) (p4 : Int32) : Option (String ⊕ (Int32 × RS × RS × RS × RS × RS × RS)) := (tB (f_X4_houseAt p1) fun g1 => ((f_X4_isTime p2).bind fun g5 => (if (bI g5) = 0 then some (.inl "java/lang/IllegalArgumentException") else ((f_X4_isSpan p3).bind fun g7 => (if (bI g7) = 0 then some (.inl "java/lang/IllegalArgumentException") else ((f_X4_isWeight p4).bind fun g9 => (if (bI g9) = 0 then some (.inl "java/lang/IllegalArgumentException") else (tB (f_X4_refuseIfNoRoom lt z q p2 1) fun g11 => ((f_X4_make lt ls lw lh lx nu q p2 p3 p4).bind fun g15 => some (.inr (g15.1, g15.2.1, g15.2.2.1, g15.2.2.2.1, g15.2.2.2.2.1, g15.2.2.2.2.2.1, g15.2.2.2.2.2.2)))))))))))
def f_X4_book_bad (p1 : Int32) : Option (String ⊕ (Int32)) := (tB (f_X4_houseAt p1) fun g1 => none)
def l_X4_series_97 (nu : Int32) (v2 : Int32) (v3 : Int32) (v4 : Int32) (v5 : Int32) (v6 : Int32) (v8 : Int32) : Nat → Int32 → RS → RS → RS → RS → RS → RS → Option (String ⊕ (Int32 × RS × RS × RS × RS × RS × RS))
  | 0, _, _, _, _, _, _, _ => none
  | F + 1, v9, ltc, lsc, lwc, lhc, lxc, qc => (if v4 ≤ v9 then some (.inr (v8, ltc, lsc, lwc, lhc, lxc, qc)) else ((f_X4_make ltc lsc lwc lhc lxc nu qc (v2 + (v9 * v3)) v5 v6).bind fun g2 => l_X4_series_97 nu v2 v3 v4 v5 v6 v8 F (v9 + 1) g2.2.1 g2.2.2.1 g2.2.2.2.1 g2.2.2.2.2.1 g2.2.2.2.2.2.1 g2.2.2.2.2.2.2))
def f_X4_series (lt : RS) (ls : RS) (lw : RS) (lh : RS) (lx : RS) (nu : Int32) (z : Int32) (q : RS) (p1 : Int32) (p2 : Int32) (p3 : Int32) (p4 : Int32) (p5 : Int32) (p6 : Int32) : Option (String ⊕ (Int32 × RS × RS × RS × RS × RS × RS)) := (tB (f_X4_houseAt p1) fun g1 => ((f_X4_isTime p2).bind fun g5 => (if (bI g5) = 0 then some (.inl "java/lang/IllegalArgumentException") else ((f_X4_isIn p3 0 500).bind fun g7 => (if (bI g7) = 0 then some (.inl "java/lang/IllegalArgumentException") else ((f_X4_isIn p4 1 12).bind fun g9 => (if (bI g9) = 0 then some (.inl "java/lang/IllegalArgumentException") else ((f_X4_isSpan p5).bind fun g11 => (if (bI g11) = 0 then some (.inl "java/lang/IllegalArgumentException") else ((f_X4_isWeight p6).bind fun g13 => (if (bI g13) = 0 then some (.inl "java/lang/IllegalArgumentException") else ((f_X4_isTime (p2 + (p3 * (p4 - 1)))).bind fun g15 => (if (bI g15) = 0 then some (.inl "java/lang/IllegalArgumentException") else (tB (f_X4_refuseIfNoRoom lt z q p2 p4) fun g17 => ((f_X2_size lt).bind fun g21 => l_X4_series_97 nu p2 p3 p4 p5 p6 g21 FU 0 lt ls lw lh lx q)))))))))))))))
def f_X4_series_bad (p1 : Int32) : Option (String ⊕ (Int32)) := (tB (f_X4_houseAt p1) fun g1 => none)
def f_X4_callOff (lx : RS) (q : RS) (p1 : Int32) (p2 : Int32) : Option (String ⊕ (Bool × RS × RS)) := (tB (f_X4_houseAt p1) fun g1 => ((f_X3_placeOf 48 q p2).bind fun g5 => (if 0 ≤ g5 then ((f_X4_callOffPlace lx q g5).bind fun g7 => some (.inr (true, g7.1, g7.2))) else some (.inr (false, lx, q)))))
def f_X4_callOff_bad (p1 : Int32) : Option (String ⊕ (Bool)) := (tB (f_X4_houseAt p1) fun g1 => none)
def l_X4_callOffAll_36 (v5 : Int32) (v6 : Int32) : Nat → Int32 → RS → RS → Option (String ⊕ (Int32 × RS × RS))
  | 0, _, _, _ => none
  | F + 1, v7, lxc, qc => (if v6 ≤ v7 then some (.inr (v6, lxc, qc)) else ((f_X4_callOffPlace lxc qc v5).bind fun g2 => l_X4_callOffAll_36 v5 v6 F (v7 + 1) g2.1 g2.2))
def f_X4_callOffAll (lt : RS) (lx : RS) (q : RS) (p1 : Int32) (p2 : Int32) (p3 : Int32) : Option (String ⊕ (Int32 × RS × RS)) := (tB (f_X4_houseAt p1) fun g1 => (tB (f_X4_refuseIfTurned p2 p3) fun g5 => ((f_X4_waitingAheadOf lt q p2).bind fun g9 => ((f_X4_waitingAheadOf lt q p3).bind fun g10 => l_X4_callOffAll_36 g9 (g10 - g9) FU 0 lx q))))
def f_X4_callOffAll_bad (p1 : Int32) : Option (String ⊕ (Int32)) := (tB (f_X4_houseAt p1) fun g1 => none)
def f_X4_put (lt : RS) (lh : RS) (lx : RS) (nu : Int32) (z : Int32) (q : RS) (p1 : Int32) (p2 : Int32) (p3 : Int32) : Option (String ⊕ (Int32 × RS × RS × RS × RS)) := (tB (f_X4_houseAt p1) fun g1 => (tB (f_X4_refuseIfNoTime p3) fun g5 => ((f_X3_placeOf 48 q p2).bind fun g9 => (if 0 ≤ g9 then (if z ≤ p3 then ((f_X3_get 120 lt p2).bind fun g12 => ((f_X3_remove 48 q g9).bind fun g13 => ((f_X3_set 120 lt p2 p3).bind fun g14 => ((f_X4_enqueue g14 lh lx nu g13.2 p2).bind fun g15 => some (.inr (g12, g14, g15.1, g15.2.1, g15.2.2)))))) else some (.inl "java/lang/IllegalStateException")) else some (.inl "java/util/NoSuchElementException")))))
def f_X4_put_bad (p1 : Int32) : Option (String ⊕ (Int32)) := (tB (f_X4_houseAt p1) fun g1 => none)
def f_X4_next (lt : RS) (ls : RS) (lw : RS) (lx : RS) (q : RS) (u : RS) (t : RS) (c : RS) (p1 : Int32) : Option (String ⊕ (Int32 × RS × Int32 × RS × RS × RS × RS)) := (tB (f_X4_houseAt p1) fun g1 => ((f_X3_size q).bind fun g5 => (if g5 = 0 then some (.inl "java/util/NoSuchElementException") else ((f_X4_letFirstCome lt ls lw lx q u t c).bind fun g7 => some (.inr (g7.1, g7.2.1, g7.2.2.1, g7.2.2.2.1, g7.2.2.2.2.1, g7.2.2.2.2.2.1, g7.2.2.2.2.2.2))))))
def f_X4_next_bad (p1 : Int32) : Option (String ⊕ (Int32)) := (tB (f_X4_houseAt p1) fun g1 => none)
def l_X4_run_41 (lt : RS) (ls : RS) (lw : RS) (v2 : Int32) (v4 : Int32) : Nat → Int32 → RS → Int32 → RS → RS → RS → RS → Option (String ⊕ (Int32 × RS × Int32 × RS × RS × RS × RS))
  | 0, _, _, _, _, _, _, _ => none
  | F + 1, v5, lxc, zc, qc, uc, tc, cc => (if v4 ≤ v5 then some (.inr (v4, lxc, v2, qc, uc, tc, cc)) else ((f_X4_letFirstCome lt ls lw lxc qc uc tc cc).bind fun g2 => l_X4_run_41 lt ls lw v2 v4 F (v5 + 1) g2.2.1 g2.2.2.1 g2.2.2.2.1 g2.2.2.2.2.1 g2.2.2.2.2.2.1 g2.2.2.2.2.2.2))
def f_X4_run (lt : RS) (ls : RS) (lw : RS) (lx : RS) (z : Int32) (q : RS) (u : RS) (t : RS) (c : RS) (p1 : Int32) (p2 : Int32) : Option (String ⊕ (Int32 × RS × Int32 × RS × RS × RS × RS)) := (tB (f_X4_houseAt p1) fun g1 => (tB (f_X4_refuseIfNoTime p2) fun g5 => (if z ≤ p2 then ((f_X4_waitingAheadOf lt q (p2 + 1)).bind fun g10 => l_X4_run_41 lt ls lw p2 g10 FU 0 lx z q u t c) else some (.inl "java/lang/IllegalStateException"))))
def f_X4_run_bad (p1 : Int32) : Option (String ⊕ (Int32)) := (tB (f_X4_houseAt p1) fun g1 => none)
def l_X4_back_64 (lt : RS) (ls : RS) (lw : RS) (nu : Int32) (v2 : Int32) (v4 : Int32) : Nat → Int32 → RS → RS → RS → RS → RS → RS → Option (String ⊕ (Int32 × RS × RS × Int32 × RS × RS × RS × RS))
  | 0, _, _, _, _, _, _, _ => none
  | F + 1, v5, lhc, lxc, qc, uc, tc, cc => (if v4 ≤ v5 then some (.inr (v4, lhc, lxc, v2, qc, uc, tc, cc)) else ((f_X4_bringLastBack lt ls lw lhc lxc nu qc uc tc cc).bind fun g2 => l_X4_back_64 lt ls lw nu v2 v4 F (v5 + 1) g2.1 g2.2.1 g2.2.2.1 g2.2.2.2.1 g2.2.2.2.2.1 g2.2.2.2.2.2))
def f_X4_back (lt : RS) (ls : RS) (lw : RS) (lh : RS) (lx : RS) (nu : Int32) (z : Int32) (q : RS) (u : RS) (t : RS) (c : RS) (p1 : Int32) (p2 : Int32) : Option (String ⊕ (Int32 × RS × RS × Int32 × RS × RS × RS × RS)) := (tB (f_X4_houseAt p1) fun g1 => (tB (f_X4_refuseIfNoTime p2) fun g5 => (if p2 ≤ z then ((f_X4_cameBehind lt u p2).bind fun g10 => ((f_X3_size q).bind fun g11 => (if (g11 + g10) ≤ 48 then l_X4_back_64 lt ls lw nu p2 g10 FU 0 lh lx q u t c else some (.inl "java/lang/IllegalStateException")))) else some (.inl "java/lang/IllegalStateException"))))
def f_X4_back_bad (p1 : Int32) : Option (String ⊕ (Int32)) := (tB (f_X4_houseAt p1) fun g1 => none)
def f_X4_clock (z : Int32) (p1 : Int32) : Option (String ⊕ (Int32)) := (tB (f_X4_houseAt p1) fun g1 => some (.inr z))
def f_X4_clock_bad (p1 : Int32) : Option (String ⊕ (Int32)) := (tB (f_X4_houseAt p1) fun g1 => none)
def f_X4_waiting (q : RS) (p1 : Int32) : Option (String ⊕ (Int32)) := (tB (f_X4_houseAt p1) fun g1 => ((f_X3_size q).bind fun g5 => some (.inr g5)))
def f_X4_waiting_bad (p1 : Int32) : Option (String ⊕ (Int32)) := (tB (f_X4_houseAt p1) fun g1 => none)
def f_X4_came (u : RS) (p1 : Int32) : Option (String ⊕ (Int32)) := (tB (f_X4_houseAt p1) fun g1 => ((f_X3_size u).bind fun g5 => some (.inr g5)))
def f_X4_came_bad (p1 : Int32) : Option (String ⊕ (Int32)) := (tB (f_X4_houseAt p1) fun g1 => none)
def f_X4_waits (q : RS) (p1 : Int32) (p2 : Int32) : Option (String ⊕ (Int32)) := (tB (f_X4_houseAt p1) fun g1 => (tB (f_X4_itemAt 48 q p2) fun g5 => some (.inr g5)))
def f_X4_waits_bad (p1 : Int32) : Option (String ⊕ (Int32)) := (tB (f_X4_houseAt p1) fun g1 => none)
def f_X4_cameAt (u : RS) (p1 : Int32) (p2 : Int32) : Option (String ⊕ (Int32)) := (tB (f_X4_houseAt p1) fun g1 => (tB (f_X4_itemAt 120 u p2) fun g5 => some (.inr g5)))
def f_X4_cameAt_bad (p1 : Int32) : Option (String ⊕ (Int32)) := (tB (f_X4_houseAt p1) fun g1 => none)
def f_X4_nextTime (lt : RS) (q : RS) (p1 : Int32) (p2 : Int32) : Option (String ⊕ (Int32)) := (tB (f_X4_houseAt p1) fun g1 => ((f_X4_waitingAheadOf lt q p2).bind fun g5 => ((f_X3_size q).bind fun g6 => (if g5 < g6 then ((f_X3_get 48 q g5).bind fun g8 => ((f_X3_get 120 lt g8).bind fun g9 => some (.inr g9))) else some (.inl "java/util/NoSuchElementException")))))
def f_X4_nextTime_bad (p1 : Int32) : Option (String ⊕ (Int32)) := (tB (f_X4_houseAt p1) fun g1 => none)
def f_X4_crowd (t : RS) (c : RS) (p1 : Int32) (p2 : Int32) : Option (String ⊕ (Int32)) := (tB (f_X4_houseAt p1) fun g1 => ((f_X0_at t c p2).bind fun g5 => some (.inr g5)))
def f_X4_crowd_bad (p1 : Int32) : Option (String ⊕ (Int32)) := (tB (f_X4_houseAt p1) fun g1 => none)
def f_X4_change (t : RS) (c : RS) (p1 : Int32) (p2 : Int32) : Option (String ⊕ (Int32)) := (tB (f_X4_houseAt p1) fun g1 => ((f_X0_changeAt t c p2).bind fun g5 => some (.inr g5)))
def f_X4_change_bad (p1 : Int32) : Option (String ⊕ (Int32)) := (tB (f_X4_houseAt p1) fun g1 => none)
def f_X4_greatest (t : RS) (c : RS) (p1 : Int32) : Option (String ⊕ (Int32)) := (tB (f_X4_houseAt p1) fun g1 => ((f_X0_highest t c).bind fun g5 => some (.inr g5)))
def f_X4_greatest_bad (p1 : Int32) : Option (String ⊕ (Int32)) := (tB (f_X4_houseAt p1) fun g1 => none)
def f_X4_greatestFrom (t : RS) (c : RS) (p1 : Int32) : Option (String ⊕ (Int32)) := (tB (f_X4_houseAt p1) fun g1 => ((f_X0_isEmpty t).bind fun g5 => (if (bI g5) = 0 then ((f_X0_highestFrom t c).bind fun g7 => some (.inr g7)) else some (.inl "java/util/NoSuchElementException"))))
def f_X4_greatestFrom_bad (p1 : Int32) : Option (String ⊕ (Int32)) := (tB (f_X4_houseAt p1) fun g1 => none)
def f_X4_busy (t : RS) (c : RS) (p1 : Int32) (p2 : Int32) (p3 : Int32) : Option (String ⊕ (Int32)) := (tB (f_X4_houseAt p1) fun g1 => (tB (f_X4_refuseIfTurned p2 p3) fun g5 => ((f_X0_busyTimes t c p2 p3).bind fun g9 => some (.inr g9))))
def f_X4_busy_bad (p1 : Int32) : Option (String ⊕ (Int32)) := (tB (f_X4_houseAt p1) fun g1 => none)
def f_X4_spans (t : RS) (c : RS) (p1 : Int32) : Option (String ⊕ (Int32)) := (tB (f_X4_houseAt p1) fun g1 => ((f_X0_busySpans t c).bind fun g5 => some (.inr g5)))
def f_X4_spans_bad (p1 : Int32) : Option (String ⊕ (Int32)) := (tB (f_X4_houseAt p1) fun g1 => none)
def b_X4_span_38 (t : RS) (c : RS) (v2 : Int32) (v3 : Int32) : Option (String ⊕ (Int32)) := ((f_X0_firstChangeOf t c v2).bind fun g1 => (if 0 ≤ g1 then (if v3 = 98 then ((f_X3_get 240 t g1).bind fun g7 => some (.inr g7)) else (if v3 = 101 then ((f_X0_endOfSpan t c g1).bind fun g6 => some (.inr g6)) else ((f_X0_highestOfSpan t c g1).bind fun g5 => some (.inr g5)))) else some (.inl "java/util/NoSuchElementException")))
def f_X4_span (t : RS) (c : RS) (p1 : Int32) (p2 : Int32) (p3 : Int32) : Option (String ⊕ (Int32)) := (tB (f_X4_houseAt p1) fun g1 => (if p3 = 98 then b_X4_span_38 t c p2 p3 else (if p3 = 101 then b_X4_span_38 t c p2 p3 else (if p3 = 103 then b_X4_span_38 t c p2 p3 else some (.inl "java/lang/IllegalArgumentException")))))
def f_X4_span_bad (p1 : Int32) : Option (String ⊕ (Int32)) := (tB (f_X4_houseAt p1) fun g1 => none)
def f_X4_free (t : RS) (c : RS) (p1 : Int32) (p2 : Int32) (p3 : Int32) : Option (String ⊕ (Int32)) := (tB (f_X4_houseAt p1) fun g1 => ((f_X4_isIn p2 0 20000).bind fun g5 => (if (bI g5) = 0 then some (.inl "java/lang/IllegalArgumentException") else ((f_X4_isIn p3 1 500).bind fun g7 => (if (bI g7) = 0 then some (.inl "java/lang/IllegalArgumentException") else ((f_X0_freeFrom t c p2 p3).bind fun g9 => some (.inr g9)))))))
def f_X4_free_bad (p1 : Int32) : Option (String ⊕ (Int32)) := (tB (f_X4_houseAt p1) fun g1 => none)
def f_X4_load (t : RS) (c : RS) (p1 : Int32) : Option (String ⊕ (Int64)) := (tB (f_X4_houseAt p1) fun g1 => ((f_X0_total t c).bind fun g5 => some (.inr g5)))
def f_X4_load_bad (p1 : Int32) : Option (String ⊕ (Int64)) := (tB (f_X4_houseAt p1) fun g1 => none)
def f_X4_isQuiet (z : Int32) (q : RS) (t : RS) (p1 : Int32) : Option (String ⊕ (Bool)) := (tB (f_X4_houseAt p1) fun g1 => ((f_X3_size q).bind fun g5 => (if g5 = 0 then ((f_X0_isOverAt t z).bind fun g7 => (if (bI g7) = 0 then some (.inr false) else some (.inr true))) else some (.inr false))))
def f_X4_isQuiet_bad (p1 : Int32) : Option (String ⊕ (Bool)) := (tB (f_X4_houseAt p1) fun g1 => none)
def f_X4_about (lt : RS) (ls : RS) (lw : RS) (lh : RS) (lx : RS) (p1 : Int32) (p2 : Int32) : Option (String ⊕ (Int64)) := ((f_X2_size lt).bind fun g1 => ((f_X4_isIn p1 0 (g1 - 1)).bind fun g2 => (if (bI g2) = 0 then some (.inl "java/lang/IndexOutOfBoundsException") else (if p2 = 116 then ((f_X3_get 120 lt p1).bind fun g13 => some (.inr g13.toInt64)) else (if p2 = 115 then ((f_X3_get 120 ls p1).bind fun g12 => some (.inr g12.toInt64)) else (if p2 = 119 then ((f_X3_get 120 lw p1).bind fun g11 => some (.inr g11.toInt64)) else (if p2 = 104 then ((f_X3_get 120 lh p1).bind fun g10 => some (.inr g10.toInt64)) else (if p2 = 120 then ((f_X3_get 120 lx p1).bind fun g9 => some (.inr g9.toInt64)) else some (.inl "java/lang/IllegalArgumentException")))))))))
def f_X4_join (lt : RS) (lh : RS) (lx : RS) (nu : Int32) (z : Int32) (q : RS) (q2 : RS) (p1 : Int32) (p2 : Int32) : Option (String ⊕ (Int32 × RS × RS × RS × RS)) := (tB (f_X4_houseAt p1) fun g1 => (tB (f_X4_houseAt p2) fun g5 => (tB (f_X4_refuseIfSame p1 p2) fun g9 => (tB (f_X4_move lt lh lx q2 nu z q 0) fun g13 => some (.inr (g13.1, g13.2.1, g13.2.2.1, g13.2.2.2.1, g13.2.2.2.2))))))
def f_X4_join_bad (p1 : Int32) (p2 : Int32) : Option (String ⊕ (Int32)) := (tB (f_X4_houseAt p1) fun g1 => (tB (f_X4_houseAt p2) fun g5 => (tB (f_X4_refuseIfSame p1 p2) fun g9 => none)))
def f_X4_part (lt : RS) (lh : RS) (lx : RS) (q : RS) (nu2 : Int32) (z2 : Int32) (q2 : RS) (p1 : Int32) (p2 : Int32) (p3 : Int32) : Option (String ⊕ (Int32 × RS × RS × RS × RS)) := (tB (f_X4_houseAt p1) fun g1 => (tB (f_X4_houseAt p2) fun g5 => (tB (f_X4_refuseIfSame p1 p2) fun g9 => ((f_X4_waitingAheadOf lt q p3).bind fun g13 => (tB (f_X4_move lt lh lx q nu2 z2 q2 g13) fun g14 => some (.inr (g14.1, g14.2.1, g14.2.2.1, g14.2.2.2.1, g14.2.2.2.2)))))))
def f_X4_part_bad (p1 : Int32) (p2 : Int32) : Option (String ⊕ (Int32)) := (tB (f_X4_houseAt p1) fun g1 => (tB (f_X4_houseAt p2) fun g5 => (tB (f_X4_refuseIfSame p1 p2) fun g9 => none)))
abbrev r_X4_isSound : Room := { frames := 6, cells := 0, slots := 0, locals := 154 }
theorem m_X4_isSound_0 : Cond.fieldLink RX4 10 "Bookinghouse" "ledger" "LBookinghouse$Ledger;" ∈ wsX4_isSound := by decide +kernel
theorem i_X4_isSound_X4 : ∀ w ∈ wsX40, w ∈ wsX4_isSound := by decide +kernel
theorem m_X4_isSound_2 : Cond.fieldLink RX4 18 "Bookinghouse" "houses" "[LBookinghouse$House;" ∈ wsX4_isSound := by decide +kernel
set_option maxHeartbeats 4000000 in
set_option maxRecDepth 100000 in
theorem w_X4_isSound_2 {E : gE} {X : gX} {a : Nat → Nat} {lt : RS} {ls : RS} {lw : RS} {lh : RS} {lx : RS} {rt : RS} {rc : RS} {z0 : Int32} {q0 : RS} {u0 : RS} {t0 : RS} {c0 : RS} {z1 : Int32} {q1 : RS} {u1 : RS} {t1 : RS} {c1 : RS} {z2 : Int32} {q2 : RS} {u2 : RS} {t2 : RS} {c2 : RS} {z3 : Int32} {q3 : RS} {u3 : RS} {t3 : RS} {c3 : RS} {o : (Bool × RS × RS)} (C : Cx E X cX4_isSound 5 RX4 wsX4_isSound r_X4_isSound ((some .boolean)) []) (hQ : gQ E X (wB E a ++ (wX2 E a 2 lt ls lw lh lx ++ (wX1 E a 18 0 z0 q0 u0 t0 c0 ++ (wX1 E a 28 1 z1 q1 u1 t1 c1 ++ (wX1 E a 38 2 z2 q2 u2 t2 c2 ++ (wX1 E a 48 3 z3 q3 u3 t3 c3 ++ (wA E a ++ wX0 E a 13 rt rc))))))) r_X4_isSound (gO (fun u9 => some (.int (bI u9.1))) (fun u9 => (wB E a ++ (wX2 E a 2 lt ls lw lh lx ++ (wX1 E a 18 0 z0 q0 u0 t0 c0 ++ (wX1 E a 28 1 z1 q1 u1 t1 c1 ++ (wX1 E a 38 2 z2 q2 u2 t2 c2 ++ (wX1 E a 48 3 z3 q3 u3 t3 c3 ++ (wA E a ++ wX0 E a 13 u9.2.1 u9.2.2)))))))) (.inr o))) : ∀ (F : Nat) (v1 : Int32), l_X4_isSound_2 lt ls lw lh lx rt rc z0 q0 u0 t0 c0 z1 q1 u1 t1 c1 z2 q2 u2 t2 c2 z3 q3 u3 t3 c3 F v1 = some o → Gx E X (wB E a ++ (wX2 E a 2 lt ls lw lh lx ++ (wX1 E a 18 0 z0 q0 u0 t0 c0 ++ (wX1 E a 28 1 z1 q1 u1 t1 c1 ++ (wX1 E a 38 2 z2 q2 u2 t2 c2 ++ (wX1 E a 48 3 z3 q3 u3 t3 c3 ++ (wA E a ++ wX0 E a 13 rt rc))))))) 5 [(0, .ref (a 0)), (1, .int v1)] [] 2 0 0 := by
  intro F
  induction F with
  | zero => intro v1 h; exact absurd h (by simp [l_X4_isSound_2])
  | succ F ih =>
    intro v1 h
    rw [l_X4_isSound_2] at h
    refine g_iload_n C 1 rfl rfl dX4_isSound_2 ?_
    refine g_aload_n C 0 rfl rfl dX4_isSound_3 ?_
    refine g_X4_ledger C i_X4_isSound_X4 m_X4_isSound_0 0 rfl dX4_isSound_4 ?_
    refine g_perm (ws2 := (wX2 E a 2 lt ls lw lh lx ++ (wB E a ++ (wX1 E a 18 0 z0 q0 u0 t0 c0 ++ (wX1 E a 28 1 z1 q1 u1 t1 c1 ++ (wX1 E a 38 2 z2 q2 u2 t2 c2 ++ (wX1 E a 48 3 z3 q3 u3 t3 c3 ++ (wA E a ++ wX0 E a 13 rt rc)))))))) (List.perm_append_comm_assoc _ _ _) ?_
    obtain ⟨g1, eg1, h⟩ := Option.bind_eq_some_iff.mp h
    refine g_cVr (As := []) (n9 := 0) (st := [.int v1]) (w2 := (wX2 E a 2 lt ls lw lh lx ++ (wB E a ++ (wX1 E a 18 0 z0 q0 u0 t0 c0 ++ (wX1 E a 28 1 z1 q1 u1 t1 c1 ++ (wX1 E a 38 2 z2 q2 u2 t2 c2 ++ (wX1 E a 48 3 z3 q3 u3 t3 c3 ++ (wA E a ++ wX0 E a 13 rt rc)))))))) C (c_X2_size E a 2 lt ls lw lh lx g1 eg1) gX4_isSound_X2_size rfl (by decide +kernel) rfl ⟨by decide, by decide, by decide, by decide, Nat.le_of_ble_eq_true rfl⟩ 0 rfl rfl (gSub.pre (S := (wB E a ++ (wX1 E a 18 0 z0 q0 u0 t0 c0 ++ (wX1 E a 28 1 z1 q1 u1 t1 c1 ++ (wX1 E a 38 2 z2 q2 u2 t2 c2 ++ (wX1 E a 48 3 z3 q3 u3 t3 c3 ++ (wA E a ++ wX0 E a 13 rt rc))))))) rfl) rfl dX4_isSound_7 ?_
    refine g_perm (ws2 := (wB E a ++ (wX2 E a 2 lt ls lw lh lx ++ (wX1 E a 18 0 z0 q0 u0 t0 c0 ++ (wX1 E a 28 1 z1 q1 u1 t1 c1 ++ (wX1 E a 38 2 z2 q2 u2 t2 c2 ++ (wX1 E a 48 3 z3 q3 u3 t3 c3 ++ (wA E a ++ wX0 E a 13 rt rc)))))))) (List.perm_append_comm_assoc _ _ _) ?_
    refine g_icmp_ge C (tgt := 29) dX4_isSound_10 (by decide) (fun cd2 => ?_) (fun cd2 => ?_)
    · replace h := (if_pos cd2).symm.trans h
      refine g_aload_n C 0 rfl rfl dX4_isSound_29 ?_
      refine g_X4_houses C i_X4_isSound_X4 m_X4_isSound_2 0 rfl dX4_isSound_30 ?_
      refine g_astore_n C (lv2 := [(1, .ref (a 1)), (0, .ref (a 0))]) rfl (by decide) rfl dX4_isSound_33 ?_
      refine g_aload_n C 0 rfl rfl dX4_isSound_34 ?_
      refine g_alen4 C 52 rfl dX4_isSound_35 ?_
      refine g_istore_n C (lv2 := [(2, .int 4), (1, .ref (a 1)), (0, .ref (a 0))]) rfl (by decide) rfl dX4_isSound_36 ?_
      refine g_iconst C (v := 0) (by decide) dX4_isSound_37 ?_
      refine g_istore_n C (lv2 := [(3, .int 0), (2, .int 4), (1, .ref (a 1)), (0, .ref (a 0))]) rfl (by decide) rfl dX4_isSound_38 ?_
      refine g_iload_n C 0 rfl rfl dX4_isSound_39 ?_
      refine g_iload_n C 1 rfl rfl dX4_isSound_40 ?_
      refine g_icmp_ge C (tgt := 89) dX4_isSound_41 (by decide) (fun cd3 => absurd cd3 (by decide)) (fun cd3 => ?_)
      refine g_aload_n C 2 rfl rfl dX4_isSound_44 ?_
      refine g_iload_n C 0 rfl rfl dX4_isSound_45 ?_
      refine g_aald4 C (a9 := (a 18)) 52 rfl (inB_in (by decide +kernel)) rfl dX4_isSound_46 ?_
      refine g_astore C (lv2 := [(4, .ref (a 18)), (3, .int 0), (2, .int 4), (1, .ref (a 1)), (0, .ref (a 0))]) rfl (by decide) dX4_isSound_47 ?_
      refine g_aload C 0 rfl dX4_isSound_49 ?_
      refine g_ifnull C dX4_isSound_51 ?_
      refine g_aload_n C 4 rfl rfl dX4_isSound_54 ?_
      refine g_aload C 0 rfl dX4_isSound_55 ?_
      obtain ⟨g4, eg4, h⟩ := Option.bind_eq_some_iff.mp h
      refine g_cVr (As := [.ref (a 18)]) (n9 := 1) (st := []) (w2 := (wB E a ++ (wX2 E a 2 lt ls lw lh lx ++ (wX1 E a 18 0 z0 q0 u0 t0 c0 ++ (wX1 E a 28 1 z1 q1 u1 t1 c1 ++ (wX1 E a 38 2 z2 q2 u2 t2 c2 ++ (wX1 E a 48 3 z3 q3 u3 t3 c3 ++ (wA E a ++ wX0 E a 13 rt rc)))))))) C (c_X4_isSplitByClock E a 18 lt ls lw lh lx 0 z0 q0 u0 t0 c0 g4 eg4) gX4_isSound_X4_isSplitByClock rfl (by decide +kernel) rfl ⟨by decide, by decide, by decide, by decide, Nat.le_of_ble_eq_true rfl⟩ 0 rfl rfl (gSub.pre (S := (wX1 E a 28 1 z1 q1 u1 t1 c1 ++ (wX1 E a 38 2 z2 q2 u2 t2 c2 ++ (wX1 E a 48 3 z3 q3 u3 t3 c3 ++ (wA E a ++ wX0 E a 13 rt rc))))) (by simp only [List.append_assoc])) (by simp only [List.append_assoc]) dX4_isSound_57 ?_
      refine g_if_eq C (tgt := 81) dX4_isSound_60 (by decide) (fun cd5 => ?_) (fun cd5 => ?_)
      · replace h := (if_pos cd5).symm.trans h
        refine g_iconst C (v := 0) (by decide) dX4_isSound_81 ?_
        obtain rfl := Option.some.inj h
        exact g_zret C hQ rfl rfl ⟨by decide, by decide⟩ dX4_isSound_82
      · replace h := (if_neg cd5).symm.trans h
        refine g_aload_n C 4 rfl rfl dX4_isSound_63 ?_
        refine g_aload C 0 rfl dX4_isSound_64 ?_
        refine g_perm (ws2 := (wB E a ++ (wX2 E a 2 lt ls lw lh lx ++ (wX0 E a 13 rt rc ++ (wX1 E a 18 0 z0 q0 u0 t0 c0 ++ (wX1 E a 28 1 z1 q1 u1 t1 c1 ++ (wX1 E a 38 2 z2 q2 u2 t2 c2 ++ (wX1 E a 48 3 z3 q3 u3 t3 c3 ++ wA E a)))))))) (List.Perm.trans (List.Perm.append_left _ (List.Perm.append_left _ (List.Perm.append_left _ (List.Perm.append_left _ (List.Perm.append_left _ (List.Perm.append_left _ List.perm_append_comm)))))) (List.Perm.trans (List.Perm.append_left _ (List.Perm.append_left _ (List.Perm.append_left _ (List.Perm.append_left _ (List.Perm.append_left _ (List.perm_append_comm_assoc _ _ _)))))) (List.Perm.trans (List.Perm.append_left _ (List.Perm.append_left _ (List.Perm.append_left _ (List.Perm.append_left _ (List.perm_append_comm_assoc _ _ _))))) (List.Perm.trans (List.Perm.append_left _ (List.Perm.append_left _ (List.Perm.append_left _ (List.perm_append_comm_assoc _ _ _)))) (List.Perm.append_left _ (List.Perm.append_left _ (List.perm_append_comm_assoc _ _ _))))))) ?_
        obtain ⟨g6, eg6, h⟩ := Option.bind_eq_some_iff.mp h
        refine g_cVr (As := [.ref (a 18)]) (n9 := 1) (st := []) (w2 := (wB E a ++ (wX2 E a 2 lt ls lw lh lx ++ (wX0 E a 13 g6.2.1 g6.2.2 ++ (wX1 E a 18 0 z0 q0 u0 t0 c0 ++ (wX1 E a 28 1 z1 q1 u1 t1 c1 ++ (wX1 E a 38 2 z2 q2 u2 t2 c2 ++ (wX1 E a 48 3 z3 q3 u3 t3 c3 ++ wA E a)))))))) C (c_X4_crowdIsOfThoseThatCame E a 18 lt ls lw lh lx rt rc 0 z0 q0 u0 t0 c0 g6 eg6) gX4_isSound_X4_crowdIsOfThoseThatCame rfl (by decide +kernel) rfl ⟨by decide, by decide, by decide, by decide, Nat.le_of_ble_eq_true rfl⟩ 0 rfl rfl (gSub.pre (S := (wX1 E a 28 1 z1 q1 u1 t1 c1 ++ (wX1 E a 38 2 z2 q2 u2 t2 c2 ++ (wX1 E a 48 3 z3 q3 u3 t3 c3 ++ wA E a)))) (by simp only [List.append_assoc])) (by simp only [List.append_assoc]) dX4_isSound_66 ?_
        refine g_perm (ws2 := (wB E a ++ (wX2 E a 2 lt ls lw lh lx ++ (wX1 E a 18 0 z0 q0 u0 t0 c0 ++ (wX1 E a 28 1 z1 q1 u1 t1 c1 ++ (wX1 E a 38 2 z2 q2 u2 t2 c2 ++ (wX1 E a 48 3 z3 q3 u3 t3 c3 ++ (wA E a ++ wX0 E a 13 g6.2.1 g6.2.2)))))))) (List.Perm.trans (List.Perm.append_left _ (List.Perm.append_left _ (List.perm_append_comm_assoc _ _ _))) (List.Perm.trans (List.Perm.append_left _ (List.Perm.append_left _ (List.Perm.append_left _ (List.perm_append_comm_assoc _ _ _)))) (List.Perm.trans (List.Perm.append_left _ (List.Perm.append_left _ (List.Perm.append_left _ (List.Perm.append_left _ (List.perm_append_comm_assoc _ _ _))))) (List.Perm.trans (List.Perm.append_left _ (List.Perm.append_left _ (List.Perm.append_left _ (List.Perm.append_left _ (List.Perm.append_left _ (List.perm_append_comm_assoc _ _ _)))))) (List.Perm.append_left _ (List.Perm.append_left _ (List.Perm.append_left _ (List.Perm.append_left _ (List.Perm.append_left _ (List.Perm.append_left _ List.perm_append_comm)))))))))) ?_
        refine g_if_eq C (tgt := 81) dX4_isSound_69 (by decide) (fun cd7 => ?_) (fun cd7 => ?_)
        · replace h := (if_pos cd7).symm.trans h
          refine g_iconst C (v := 0) (by decide) dX4_isSound_81 ?_
          obtain rfl := Option.some.inj h
          exact g_zret C hQ rfl rfl ⟨by decide, by decide⟩ dX4_isSound_82
        · replace h := (if_neg cd7).symm.trans h
          refine g_aload_n C 4 rfl rfl dX4_isSound_72 ?_
          refine g_aload C 0 rfl dX4_isSound_73 ?_
          obtain ⟨g8, eg8, h⟩ := Option.bind_eq_some_iff.mp h
          refine g_cVr (As := [.ref (a 18)]) (n9 := 1) (st := []) (w2 := (wB E a ++ (wX2 E a 2 lt ls lw lh lx ++ (wX1 E a 18 0 z0 q0 u0 t0 c0 ++ (wX1 E a 28 1 z1 q1 u1 t1 c1 ++ (wX1 E a 38 2 z2 q2 u2 t2 c2 ++ (wX1 E a 48 3 z3 q3 u3 t3 c3 ++ (wA E a ++ wX0 E a 13 g6.2.1 g6.2.2)))))))) C (c_X4_standsWithAllOthers_0 E a lt ls lw lh lx z0 q0 u0 t0 c0 z1 q1 u1 t1 c1 z2 q2 u2 t2 c2 z3 q3 u3 t3 c3 g8 eg8) gX4_isSound_X4_standsWithAllOthers rfl (by decide +kernel) rfl ⟨by decide, by decide, by decide, by decide, Nat.le_of_ble_eq_true rfl⟩ 0 rfl rfl (gSub.pre (S := (wX0 E a 13 g6.2.1 g6.2.2)) (by simp only [List.append_assoc])) (by simp only [List.append_assoc]) dX4_isSound_75 ?_
          refine g_if_ne C (tgt := 83) dX4_isSound_78 (by decide) (fun cd9 => ?_) (fun cd9 => ?_)
          · replace h := (if_neg cd9).symm.trans h
            refine g_iinc C (v := 1) 1 rfl rfl (lv2 := [(3, .int 1), (4, .ref (a 18)), (2, .int 4), (1, .ref (a 1)), (0, .ref (a 0))]) rfl (by decide) dX4_isSound_83 ?_
            refine g_goto C (tgt := 39) dX4_isSound_86 (by decide) ?_
            refine g_iload_n C 0 rfl rfl dX4_isSound_39 ?_
            refine g_iload_n C 2 rfl rfl dX4_isSound_40 ?_
            refine g_icmp_ge C (tgt := 89) dX4_isSound_41 (by decide) (fun cd10 => absurd cd10 (by decide)) (fun cd10 => ?_)
            refine g_aload_n C 3 rfl rfl dX4_isSound_44 ?_
            refine g_iload_n C 0 rfl rfl dX4_isSound_45 ?_
            refine g_aald4 C (a9 := (a 28)) 52 rfl (inB_in (by decide +kernel)) rfl dX4_isSound_46 ?_
            refine g_astore C (lv2 := [(4, .ref (a 28)), (3, .int 1), (2, .int 4), (1, .ref (a 1)), (0, .ref (a 0))]) rfl (by decide) dX4_isSound_47 ?_
            refine g_aload C 0 rfl dX4_isSound_49 ?_
            refine g_ifnull C dX4_isSound_51 ?_
            refine g_aload_n C 4 rfl rfl dX4_isSound_54 ?_
            refine g_aload C 0 rfl dX4_isSound_55 ?_
            refine g_perm (ws2 := (wB E a ++ (wX2 E a 2 lt ls lw lh lx ++ (wX1 E a 28 1 z1 q1 u1 t1 c1 ++ (wX1 E a 18 0 z0 q0 u0 t0 c0 ++ (wX1 E a 38 2 z2 q2 u2 t2 c2 ++ (wX1 E a 48 3 z3 q3 u3 t3 c3 ++ (wA E a ++ wX0 E a 13 g6.2.1 g6.2.2)))))))) (List.Perm.append_left _ (List.Perm.append_left _ (List.perm_append_comm_assoc _ _ _))) ?_
            obtain ⟨g11, eg11, h⟩ := Option.bind_eq_some_iff.mp h
            refine g_cVr (As := [.ref (a 28)]) (n9 := 1) (st := []) (w2 := (wB E a ++ (wX2 E a 2 lt ls lw lh lx ++ (wX1 E a 28 1 z1 q1 u1 t1 c1 ++ (wX1 E a 18 0 z0 q0 u0 t0 c0 ++ (wX1 E a 38 2 z2 q2 u2 t2 c2 ++ (wX1 E a 48 3 z3 q3 u3 t3 c3 ++ (wA E a ++ wX0 E a 13 g6.2.1 g6.2.2)))))))) C (c_X4_isSplitByClock E a 28 lt ls lw lh lx 1 z1 q1 u1 t1 c1 g11 eg11) gX4_isSound_X4_isSplitByClock rfl (by decide +kernel) rfl ⟨by decide, by decide, by decide, by decide, Nat.le_of_ble_eq_true rfl⟩ 0 rfl rfl (gSub.pre (S := (wX1 E a 18 0 z0 q0 u0 t0 c0 ++ (wX1 E a 38 2 z2 q2 u2 t2 c2 ++ (wX1 E a 48 3 z3 q3 u3 t3 c3 ++ (wA E a ++ wX0 E a 13 g6.2.1 g6.2.2))))) (by simp only [List.append_assoc])) (by simp only [List.append_assoc]) dX4_isSound_57 ?_
            refine g_perm (ws2 := (wB E a ++ (wX2 E a 2 lt ls lw lh lx ++ (wX1 E a 18 0 z0 q0 u0 t0 c0 ++ (wX1 E a 28 1 z1 q1 u1 t1 c1 ++ (wX1 E a 38 2 z2 q2 u2 t2 c2 ++ (wX1 E a 48 3 z3 q3 u3 t3 c3 ++ (wA E a ++ wX0 E a 13 g6.2.1 g6.2.2)))))))) (List.Perm.append_left _ (List.Perm.append_left _ (List.perm_append_comm_assoc _ _ _))) ?_
            refine g_if_eq C (tgt := 81) dX4_isSound_60 (by decide) (fun cd12 => ?_) (fun cd12 => ?_)
            · replace h := (if_pos cd12).symm.trans h
              refine g_iconst C (v := 0) (by decide) dX4_isSound_81 ?_
              obtain rfl := Option.some.inj h
              exact g_zret C hQ rfl rfl ⟨by decide, by decide⟩ dX4_isSound_82
            · replace h := (if_neg cd12).symm.trans h
              refine g_aload_n C 4 rfl rfl dX4_isSound_63 ?_
              refine g_aload C 0 rfl dX4_isSound_64 ?_
              refine g_perm (ws2 := (wB E a ++ (wX2 E a 2 lt ls lw lh lx ++ (wX0 E a 13 g6.2.1 g6.2.2 ++ (wX1 E a 28 1 z1 q1 u1 t1 c1 ++ (wX1 E a 18 0 z0 q0 u0 t0 c0 ++ (wX1 E a 38 2 z2 q2 u2 t2 c2 ++ (wX1 E a 48 3 z3 q3 u3 t3 c3 ++ wA E a)))))))) (List.Perm.trans (List.Perm.append_left _ (List.Perm.append_left _ (List.Perm.append_left _ (List.Perm.append_left _ (List.Perm.append_left _ (List.Perm.append_left _ List.perm_append_comm)))))) (List.Perm.trans (List.Perm.append_left _ (List.Perm.append_left _ (List.Perm.append_left _ (List.Perm.append_left _ (List.Perm.append_left _ (List.perm_append_comm_assoc _ _ _)))))) (List.Perm.trans (List.Perm.append_left _ (List.Perm.append_left _ (List.Perm.append_left _ (List.Perm.append_left _ (List.perm_append_comm_assoc _ _ _))))) (List.Perm.trans (List.Perm.append_left _ (List.Perm.append_left _ (List.Perm.append_left _ (List.perm_append_comm_assoc _ _ _)))) (List.Perm.trans (List.Perm.append_left _ (List.Perm.append_left _ (List.perm_append_comm_assoc _ _ _))) (List.Perm.append_left _ (List.Perm.append_left _ (List.Perm.append_left _ (List.perm_append_comm_assoc _ _ _))))))))) ?_
              obtain ⟨g13, eg13, h⟩ := Option.bind_eq_some_iff.mp h
              refine g_cVr (As := [.ref (a 28)]) (n9 := 1) (st := []) (w2 := (wB E a ++ (wX2 E a 2 lt ls lw lh lx ++ (wX0 E a 13 g13.2.1 g13.2.2 ++ (wX1 E a 28 1 z1 q1 u1 t1 c1 ++ (wX1 E a 18 0 z0 q0 u0 t0 c0 ++ (wX1 E a 38 2 z2 q2 u2 t2 c2 ++ (wX1 E a 48 3 z3 q3 u3 t3 c3 ++ wA E a)))))))) C (c_X4_crowdIsOfThoseThatCame E a 28 lt ls lw lh lx g6.2.1 g6.2.2 1 z1 q1 u1 t1 c1 g13 eg13) gX4_isSound_X4_crowdIsOfThoseThatCame rfl (by decide +kernel) rfl ⟨by decide, by decide, by decide, by decide, Nat.le_of_ble_eq_true rfl⟩ 0 rfl rfl (gSub.pre (S := (wX1 E a 18 0 z0 q0 u0 t0 c0 ++ (wX1 E a 38 2 z2 q2 u2 t2 c2 ++ (wX1 E a 48 3 z3 q3 u3 t3 c3 ++ wA E a)))) (by simp only [List.append_assoc])) (by simp only [List.append_assoc]) dX4_isSound_66 ?_
              refine g_perm (ws2 := (wB E a ++ (wX2 E a 2 lt ls lw lh lx ++ (wX1 E a 18 0 z0 q0 u0 t0 c0 ++ (wX1 E a 28 1 z1 q1 u1 t1 c1 ++ (wX1 E a 38 2 z2 q2 u2 t2 c2 ++ (wX1 E a 48 3 z3 q3 u3 t3 c3 ++ (wA E a ++ wX0 E a 13 g13.2.1 g13.2.2)))))))) (List.Perm.trans (List.Perm.append_left _ (List.Perm.append_left _ (List.Perm.append_left _ (List.perm_append_comm_assoc _ _ _)))) (List.Perm.trans (List.Perm.append_left _ (List.Perm.append_left _ (List.perm_append_comm_assoc _ _ _))) (List.Perm.trans (List.Perm.append_left _ (List.Perm.append_left _ (List.Perm.append_left _ (List.perm_append_comm_assoc _ _ _)))) (List.Perm.trans (List.Perm.append_left _ (List.Perm.append_left _ (List.Perm.append_left _ (List.Perm.append_left _ (List.perm_append_comm_assoc _ _ _))))) (List.Perm.trans (List.Perm.append_left _ (List.Perm.append_left _ (List.Perm.append_left _ (List.Perm.append_left _ (List.Perm.append_left _ (List.perm_append_comm_assoc _ _ _)))))) (List.Perm.append_left _ (List.Perm.append_left _ (List.Perm.append_left _ (List.Perm.append_left _ (List.Perm.append_left _ (List.Perm.append_left _ List.perm_append_comm))))))))))) ?_
              refine g_if_eq C (tgt := 81) dX4_isSound_69 (by decide) (fun cd14 => ?_) (fun cd14 => ?_)
              · replace h := (if_pos cd14).symm.trans h
                refine g_iconst C (v := 0) (by decide) dX4_isSound_81 ?_
                obtain rfl := Option.some.inj h
                exact g_zret C hQ rfl rfl ⟨by decide, by decide⟩ dX4_isSound_82
              · replace h := (if_neg cd14).symm.trans h
                refine g_aload_n C 4 rfl rfl dX4_isSound_72 ?_
                refine g_aload C 0 rfl dX4_isSound_73 ?_
                obtain ⟨g15, eg15, h⟩ := Option.bind_eq_some_iff.mp h
                refine g_cVr (As := [.ref (a 28)]) (n9 := 1) (st := []) (w2 := (wB E a ++ (wX2 E a 2 lt ls lw lh lx ++ (wX1 E a 18 0 z0 q0 u0 t0 c0 ++ (wX1 E a 28 1 z1 q1 u1 t1 c1 ++ (wX1 E a 38 2 z2 q2 u2 t2 c2 ++ (wX1 E a 48 3 z3 q3 u3 t3 c3 ++ (wA E a ++ wX0 E a 13 g13.2.1 g13.2.2)))))))) C (c_X4_standsWithAllOthers_1 E a lt ls lw lh lx z0 q0 u0 t0 c0 z1 q1 u1 t1 c1 z2 q2 u2 t2 c2 z3 q3 u3 t3 c3 g15 eg15) gX4_isSound_X4_standsWithAllOthers rfl (by decide +kernel) rfl ⟨by decide, by decide, by decide, by decide, Nat.le_of_ble_eq_true rfl⟩ 0 rfl rfl (gSub.pre (S := (wX0 E a 13 g13.2.1 g13.2.2)) (by simp only [List.append_assoc])) (by simp only [List.append_assoc]) dX4_isSound_75 ?_
                refine g_if_ne C (tgt := 83) dX4_isSound_78 (by decide) (fun cd16 => ?_) (fun cd16 => ?_)
                · replace h := (if_neg cd16).symm.trans h
                  refine g_iinc C (v := 2) 1 rfl rfl (lv2 := [(3, .int 2), (4, .ref (a 28)), (2, .int 4), (1, .ref (a 1)), (0, .ref (a 0))]) rfl (by decide) dX4_isSound_83 ?_
                  refine g_goto C (tgt := 39) dX4_isSound_86 (by decide) ?_
                  refine g_iload_n C 0 rfl rfl dX4_isSound_39 ?_
                  refine g_iload_n C 2 rfl rfl dX4_isSound_40 ?_
                  refine g_icmp_ge C (tgt := 89) dX4_isSound_41 (by decide) (fun cd17 => absurd cd17 (by decide)) (fun cd17 => ?_)
                  refine g_aload_n C 3 rfl rfl dX4_isSound_44 ?_
                  refine g_iload_n C 0 rfl rfl dX4_isSound_45 ?_
                  refine g_aald4 C (a9 := (a 38)) 52 rfl (inB_in (by decide +kernel)) rfl dX4_isSound_46 ?_
                  refine g_astore C (lv2 := [(4, .ref (a 38)), (3, .int 2), (2, .int 4), (1, .ref (a 1)), (0, .ref (a 0))]) rfl (by decide) dX4_isSound_47 ?_
                  refine g_aload C 0 rfl dX4_isSound_49 ?_
                  refine g_ifnull C dX4_isSound_51 ?_
                  refine g_aload_n C 4 rfl rfl dX4_isSound_54 ?_
                  refine g_aload C 0 rfl dX4_isSound_55 ?_
                  refine g_perm (ws2 := (wB E a ++ (wX2 E a 2 lt ls lw lh lx ++ (wX1 E a 38 2 z2 q2 u2 t2 c2 ++ (wX1 E a 18 0 z0 q0 u0 t0 c0 ++ (wX1 E a 28 1 z1 q1 u1 t1 c1 ++ (wX1 E a 48 3 z3 q3 u3 t3 c3 ++ (wA E a ++ wX0 E a 13 g13.2.1 g13.2.2)))))))) (List.Perm.trans (List.Perm.append_left _ (List.Perm.append_left _ (List.Perm.append_left _ (List.perm_append_comm_assoc _ _ _)))) (List.Perm.append_left _ (List.Perm.append_left _ (List.perm_append_comm_assoc _ _ _)))) ?_
                  obtain ⟨g18, eg18, h⟩ := Option.bind_eq_some_iff.mp h
                  refine g_cVr (As := [.ref (a 38)]) (n9 := 1) (st := []) (w2 := (wB E a ++ (wX2 E a 2 lt ls lw lh lx ++ (wX1 E a 38 2 z2 q2 u2 t2 c2 ++ (wX1 E a 18 0 z0 q0 u0 t0 c0 ++ (wX1 E a 28 1 z1 q1 u1 t1 c1 ++ (wX1 E a 48 3 z3 q3 u3 t3 c3 ++ (wA E a ++ wX0 E a 13 g13.2.1 g13.2.2)))))))) C (c_X4_isSplitByClock E a 38 lt ls lw lh lx 2 z2 q2 u2 t2 c2 g18 eg18) gX4_isSound_X4_isSplitByClock rfl (by decide +kernel) rfl ⟨by decide, by decide, by decide, by decide, Nat.le_of_ble_eq_true rfl⟩ 0 rfl rfl (gSub.pre (S := (wX1 E a 18 0 z0 q0 u0 t0 c0 ++ (wX1 E a 28 1 z1 q1 u1 t1 c1 ++ (wX1 E a 48 3 z3 q3 u3 t3 c3 ++ (wA E a ++ wX0 E a 13 g13.2.1 g13.2.2))))) (by simp only [List.append_assoc])) (by simp only [List.append_assoc]) dX4_isSound_57 ?_
                  refine g_perm (ws2 := (wB E a ++ (wX2 E a 2 lt ls lw lh lx ++ (wX1 E a 18 0 z0 q0 u0 t0 c0 ++ (wX1 E a 28 1 z1 q1 u1 t1 c1 ++ (wX1 E a 38 2 z2 q2 u2 t2 c2 ++ (wX1 E a 48 3 z3 q3 u3 t3 c3 ++ (wA E a ++ wX0 E a 13 g13.2.1 g13.2.2)))))))) (List.Perm.trans (List.Perm.append_left _ (List.Perm.append_left _ (List.perm_append_comm_assoc _ _ _))) (List.Perm.append_left _ (List.Perm.append_left _ (List.Perm.append_left _ (List.perm_append_comm_assoc _ _ _))))) ?_
                  refine g_if_eq C (tgt := 81) dX4_isSound_60 (by decide) (fun cd19 => ?_) (fun cd19 => ?_)
                  · replace h := (if_pos cd19).symm.trans h
                    refine g_iconst C (v := 0) (by decide) dX4_isSound_81 ?_
                    obtain rfl := Option.some.inj h
                    exact g_zret C hQ rfl rfl ⟨by decide, by decide⟩ dX4_isSound_82
                  · replace h := (if_neg cd19).symm.trans h
                    refine g_aload_n C 4 rfl rfl dX4_isSound_63 ?_
                    refine g_aload C 0 rfl dX4_isSound_64 ?_
                    refine g_perm (ws2 := (wB E a ++ (wX2 E a 2 lt ls lw lh lx ++ (wX0 E a 13 g13.2.1 g13.2.2 ++ (wX1 E a 38 2 z2 q2 u2 t2 c2 ++ (wX1 E a 18 0 z0 q0 u0 t0 c0 ++ (wX1 E a 28 1 z1 q1 u1 t1 c1 ++ (wX1 E a 48 3 z3 q3 u3 t3 c3 ++ wA E a)))))))) (List.Perm.trans (List.Perm.append_left _ (List.Perm.append_left _ (List.Perm.append_left _ (List.Perm.append_left _ (List.Perm.append_left _ (List.Perm.append_left _ List.perm_append_comm)))))) (List.Perm.trans (List.Perm.append_left _ (List.Perm.append_left _ (List.Perm.append_left _ (List.Perm.append_left _ (List.Perm.append_left _ (List.perm_append_comm_assoc _ _ _)))))) (List.Perm.trans (List.Perm.append_left _ (List.Perm.append_left _ (List.Perm.append_left _ (List.Perm.append_left _ (List.perm_append_comm_assoc _ _ _))))) (List.Perm.trans (List.Perm.append_left _ (List.Perm.append_left _ (List.Perm.append_left _ (List.perm_append_comm_assoc _ _ _)))) (List.Perm.trans (List.Perm.append_left _ (List.Perm.append_left _ (List.perm_append_comm_assoc _ _ _))) (List.Perm.trans (List.Perm.append_left _ (List.Perm.append_left _ (List.Perm.append_left _ (List.Perm.append_left _ (List.perm_append_comm_assoc _ _ _))))) (List.Perm.append_left _ (List.Perm.append_left _ (List.Perm.append_left _ (List.perm_append_comm_assoc _ _ _)))))))))) ?_
                    obtain ⟨g20, eg20, h⟩ := Option.bind_eq_some_iff.mp h
                    refine g_cVr (As := [.ref (a 38)]) (n9 := 1) (st := []) (w2 := (wB E a ++ (wX2 E a 2 lt ls lw lh lx ++ (wX0 E a 13 g20.2.1 g20.2.2 ++ (wX1 E a 38 2 z2 q2 u2 t2 c2 ++ (wX1 E a 18 0 z0 q0 u0 t0 c0 ++ (wX1 E a 28 1 z1 q1 u1 t1 c1 ++ (wX1 E a 48 3 z3 q3 u3 t3 c3 ++ wA E a)))))))) C (c_X4_crowdIsOfThoseThatCame E a 38 lt ls lw lh lx g13.2.1 g13.2.2 2 z2 q2 u2 t2 c2 g20 eg20) gX4_isSound_X4_crowdIsOfThoseThatCame rfl (by decide +kernel) rfl ⟨by decide, by decide, by decide, by decide, Nat.le_of_ble_eq_true rfl⟩ 0 rfl rfl (gSub.pre (S := (wX1 E a 18 0 z0 q0 u0 t0 c0 ++ (wX1 E a 28 1 z1 q1 u1 t1 c1 ++ (wX1 E a 48 3 z3 q3 u3 t3 c3 ++ wA E a)))) (by simp only [List.append_assoc])) (by simp only [List.append_assoc]) dX4_isSound_66 ?_
                    refine g_perm (ws2 := (wB E a ++ (wX2 E a 2 lt ls lw lh lx ++ (wX1 E a 18 0 z0 q0 u0 t0 c0 ++ (wX1 E a 28 1 z1 q1 u1 t1 c1 ++ (wX1 E a 38 2 z2 q2 u2 t2 c2 ++ (wX1 E a 48 3 z3 q3 u3 t3 c3 ++ (wA E a ++ wX0 E a 13 g20.2.1 g20.2.2)))))))) (List.Perm.trans (List.Perm.append_left _ (List.Perm.append_left _ (List.Perm.append_left _ (List.perm_append_comm_assoc _ _ _)))) (List.Perm.trans (List.Perm.append_left _ (List.Perm.append_left _ (List.perm_append_comm_assoc _ _ _))) (List.Perm.trans (List.Perm.append_left _ (List.Perm.append_left _ (List.Perm.append_left _ (List.Perm.append_left _ (List.perm_append_comm_assoc _ _ _))))) (List.Perm.trans (List.Perm.append_left _ (List.Perm.append_left _ (List.Perm.append_left _ (List.perm_append_comm_assoc _ _ _)))) (List.Perm.trans (List.Perm.append_left _ (List.Perm.append_left _ (List.Perm.append_left _ (List.Perm.append_left _ (List.perm_append_comm_assoc _ _ _))))) (List.Perm.trans (List.Perm.append_left _ (List.Perm.append_left _ (List.Perm.append_left _ (List.Perm.append_left _ (List.Perm.append_left _ (List.perm_append_comm_assoc _ _ _)))))) (List.Perm.append_left _ (List.Perm.append_left _ (List.Perm.append_left _ (List.Perm.append_left _ (List.Perm.append_left _ (List.Perm.append_left _ List.perm_append_comm)))))))))))) ?_
                    refine g_if_eq C (tgt := 81) dX4_isSound_69 (by decide) (fun cd21 => ?_) (fun cd21 => ?_)
                    · replace h := (if_pos cd21).symm.trans h
                      refine g_iconst C (v := 0) (by decide) dX4_isSound_81 ?_
                      obtain rfl := Option.some.inj h
                      exact g_zret C hQ rfl rfl ⟨by decide, by decide⟩ dX4_isSound_82
                    · replace h := (if_neg cd21).symm.trans h
                      refine g_aload_n C 4 rfl rfl dX4_isSound_72 ?_
                      refine g_aload C 0 rfl dX4_isSound_73 ?_
                      obtain ⟨g22, eg22, h⟩ := Option.bind_eq_some_iff.mp h
                      refine g_cVr (As := [.ref (a 38)]) (n9 := 1) (st := []) (w2 := (wB E a ++ (wX2 E a 2 lt ls lw lh lx ++ (wX1 E a 18 0 z0 q0 u0 t0 c0 ++ (wX1 E a 28 1 z1 q1 u1 t1 c1 ++ (wX1 E a 38 2 z2 q2 u2 t2 c2 ++ (wX1 E a 48 3 z3 q3 u3 t3 c3 ++ (wA E a ++ wX0 E a 13 g20.2.1 g20.2.2)))))))) C (c_X4_standsWithAllOthers_2 E a lt ls lw lh lx z0 q0 u0 t0 c0 z1 q1 u1 t1 c1 z2 q2 u2 t2 c2 z3 q3 u3 t3 c3 g22 eg22) gX4_isSound_X4_standsWithAllOthers rfl (by decide +kernel) rfl ⟨by decide, by decide, by decide, by decide, Nat.le_of_ble_eq_true rfl⟩ 0 rfl rfl (gSub.pre (S := (wX0 E a 13 g20.2.1 g20.2.2)) (by simp only [List.append_assoc])) (by simp only [List.append_assoc]) dX4_isSound_75 ?_
                      refine g_if_ne C (tgt := 83) dX4_isSound_78 (by decide) (fun cd23 => ?_) (fun cd23 => ?_)
                      · replace h := (if_neg cd23).symm.trans h
                        refine g_iinc C (v := 3) 1 rfl rfl (lv2 := [(3, .int 3), (4, .ref (a 38)), (2, .int 4), (1, .ref (a 1)), (0, .ref (a 0))]) rfl (by decide) dX4_isSound_83 ?_
                        refine g_goto C (tgt := 39) dX4_isSound_86 (by decide) ?_
                        refine g_iload_n C 0 rfl rfl dX4_isSound_39 ?_
                        refine g_iload_n C 2 rfl rfl dX4_isSound_40 ?_
                        refine g_icmp_ge C (tgt := 89) dX4_isSound_41 (by decide) (fun cd24 => absurd cd24 (by decide)) (fun cd24 => ?_)
                        refine g_aload_n C 3 rfl rfl dX4_isSound_44 ?_
                        refine g_iload_n C 0 rfl rfl dX4_isSound_45 ?_
                        refine g_aald4 C (a9 := (a 48)) 52 rfl (inB_in (by decide +kernel)) rfl dX4_isSound_46 ?_
                        refine g_astore C (lv2 := [(4, .ref (a 48)), (3, .int 3), (2, .int 4), (1, .ref (a 1)), (0, .ref (a 0))]) rfl (by decide) dX4_isSound_47 ?_
                        refine g_aload C 0 rfl dX4_isSound_49 ?_
                        refine g_ifnull C dX4_isSound_51 ?_
                        refine g_aload_n C 4 rfl rfl dX4_isSound_54 ?_
                        refine g_aload C 0 rfl dX4_isSound_55 ?_
                        refine g_perm (ws2 := (wB E a ++ (wX2 E a 2 lt ls lw lh lx ++ (wX1 E a 48 3 z3 q3 u3 t3 c3 ++ (wX1 E a 18 0 z0 q0 u0 t0 c0 ++ (wX1 E a 28 1 z1 q1 u1 t1 c1 ++ (wX1 E a 38 2 z2 q2 u2 t2 c2 ++ (wA E a ++ wX0 E a 13 g20.2.1 g20.2.2)))))))) (List.Perm.trans (List.Perm.append_left _ (List.Perm.append_left _ (List.Perm.append_left _ (List.Perm.append_left _ (List.perm_append_comm_assoc _ _ _))))) (List.Perm.trans (List.Perm.append_left _ (List.Perm.append_left _ (List.Perm.append_left _ (List.perm_append_comm_assoc _ _ _)))) (List.Perm.append_left _ (List.Perm.append_left _ (List.perm_append_comm_assoc _ _ _))))) ?_
                        obtain ⟨g25, eg25, h⟩ := Option.bind_eq_some_iff.mp h
                        refine g_cVr (As := [.ref (a 48)]) (n9 := 1) (st := []) (w2 := (wB E a ++ (wX2 E a 2 lt ls lw lh lx ++ (wX1 E a 48 3 z3 q3 u3 t3 c3 ++ (wX1 E a 18 0 z0 q0 u0 t0 c0 ++ (wX1 E a 28 1 z1 q1 u1 t1 c1 ++ (wX1 E a 38 2 z2 q2 u2 t2 c2 ++ (wA E a ++ wX0 E a 13 g20.2.1 g20.2.2)))))))) C (c_X4_isSplitByClock E a 48 lt ls lw lh lx 3 z3 q3 u3 t3 c3 g25 eg25) gX4_isSound_X4_isSplitByClock rfl (by decide +kernel) rfl ⟨by decide, by decide, by decide, by decide, Nat.le_of_ble_eq_true rfl⟩ 0 rfl rfl (gSub.pre (S := (wX1 E a 18 0 z0 q0 u0 t0 c0 ++ (wX1 E a 28 1 z1 q1 u1 t1 c1 ++ (wX1 E a 38 2 z2 q2 u2 t2 c2 ++ (wA E a ++ wX0 E a 13 g20.2.1 g20.2.2))))) (by simp only [List.append_assoc])) (by simp only [List.append_assoc]) dX4_isSound_57 ?_
                        refine g_perm (ws2 := (wB E a ++ (wX2 E a 2 lt ls lw lh lx ++ (wX1 E a 18 0 z0 q0 u0 t0 c0 ++ (wX1 E a 28 1 z1 q1 u1 t1 c1 ++ (wX1 E a 38 2 z2 q2 u2 t2 c2 ++ (wX1 E a 48 3 z3 q3 u3 t3 c3 ++ (wA E a ++ wX0 E a 13 g20.2.1 g20.2.2)))))))) (List.Perm.trans (List.Perm.append_left _ (List.Perm.append_left _ (List.perm_append_comm_assoc _ _ _))) (List.Perm.trans (List.Perm.append_left _ (List.Perm.append_left _ (List.Perm.append_left _ (List.perm_append_comm_assoc _ _ _)))) (List.Perm.append_left _ (List.Perm.append_left _ (List.Perm.append_left _ (List.Perm.append_left _ (List.perm_append_comm_assoc _ _ _))))))) ?_
                        refine g_if_eq C (tgt := 81) dX4_isSound_60 (by decide) (fun cd26 => ?_) (fun cd26 => ?_)
                        · replace h := (if_pos cd26).symm.trans h
                          refine g_iconst C (v := 0) (by decide) dX4_isSound_81 ?_
                          obtain rfl := Option.some.inj h
                          exact g_zret C hQ rfl rfl ⟨by decide, by decide⟩ dX4_isSound_82
                        · replace h := (if_neg cd26).symm.trans h
                          refine g_aload_n C 4 rfl rfl dX4_isSound_63 ?_
                          refine g_aload C 0 rfl dX4_isSound_64 ?_
                          refine g_perm (ws2 := (wB E a ++ (wX2 E a 2 lt ls lw lh lx ++ (wX0 E a 13 g20.2.1 g20.2.2 ++ (wX1 E a 48 3 z3 q3 u3 t3 c3 ++ (wX1 E a 18 0 z0 q0 u0 t0 c0 ++ (wX1 E a 28 1 z1 q1 u1 t1 c1 ++ (wX1 E a 38 2 z2 q2 u2 t2 c2 ++ wA E a)))))))) (List.Perm.trans (List.Perm.append_left _ (List.Perm.append_left _ (List.Perm.append_left _ (List.Perm.append_left _ (List.Perm.append_left _ (List.Perm.append_left _ List.perm_append_comm)))))) (List.Perm.trans (List.Perm.append_left _ (List.Perm.append_left _ (List.Perm.append_left _ (List.Perm.append_left _ (List.Perm.append_left _ (List.perm_append_comm_assoc _ _ _)))))) (List.Perm.trans (List.Perm.append_left _ (List.Perm.append_left _ (List.Perm.append_left _ (List.Perm.append_left _ (List.perm_append_comm_assoc _ _ _))))) (List.Perm.trans (List.Perm.append_left _ (List.Perm.append_left _ (List.Perm.append_left _ (List.perm_append_comm_assoc _ _ _)))) (List.Perm.trans (List.Perm.append_left _ (List.Perm.append_left _ (List.perm_append_comm_assoc _ _ _))) (List.Perm.trans (List.Perm.append_left _ (List.Perm.append_left _ (List.Perm.append_left _ (List.Perm.append_left _ (List.Perm.append_left _ (List.perm_append_comm_assoc _ _ _)))))) (List.Perm.trans (List.Perm.append_left _ (List.Perm.append_left _ (List.Perm.append_left _ (List.Perm.append_left _ (List.perm_append_comm_assoc _ _ _))))) (List.Perm.append_left _ (List.Perm.append_left _ (List.Perm.append_left _ (List.perm_append_comm_assoc _ _ _))))))))))) ?_
                          obtain ⟨g27, eg27, h⟩ := Option.bind_eq_some_iff.mp h
                          refine g_cVr (As := [.ref (a 48)]) (n9 := 1) (st := []) (w2 := (wB E a ++ (wX2 E a 2 lt ls lw lh lx ++ (wX0 E a 13 g27.2.1 g27.2.2 ++ (wX1 E a 48 3 z3 q3 u3 t3 c3 ++ (wX1 E a 18 0 z0 q0 u0 t0 c0 ++ (wX1 E a 28 1 z1 q1 u1 t1 c1 ++ (wX1 E a 38 2 z2 q2 u2 t2 c2 ++ wA E a)))))))) C (c_X4_crowdIsOfThoseThatCame E a 48 lt ls lw lh lx g20.2.1 g20.2.2 3 z3 q3 u3 t3 c3 g27 eg27) gX4_isSound_X4_crowdIsOfThoseThatCame rfl (by decide +kernel) rfl ⟨by decide, by decide, by decide, by decide, Nat.le_of_ble_eq_true rfl⟩ 0 rfl rfl (gSub.pre (S := (wX1 E a 18 0 z0 q0 u0 t0 c0 ++ (wX1 E a 28 1 z1 q1 u1 t1 c1 ++ (wX1 E a 38 2 z2 q2 u2 t2 c2 ++ wA E a)))) (by simp only [List.append_assoc])) (by simp only [List.append_assoc]) dX4_isSound_66 ?_
                          refine g_perm (ws2 := (wB E a ++ (wX2 E a 2 lt ls lw lh lx ++ (wX1 E a 18 0 z0 q0 u0 t0 c0 ++ (wX1 E a 28 1 z1 q1 u1 t1 c1 ++ (wX1 E a 38 2 z2 q2 u2 t2 c2 ++ (wX1 E a 48 3 z3 q3 u3 t3 c3 ++ (wA E a ++ wX0 E a 13 g27.2.1 g27.2.2)))))))) (List.Perm.trans (List.Perm.append_left _ (List.Perm.append_left _ (List.Perm.append_left _ (List.perm_append_comm_assoc _ _ _)))) (List.Perm.trans (List.Perm.append_left _ (List.Perm.append_left _ (List.perm_append_comm_assoc _ _ _))) (List.Perm.trans (List.Perm.append_left _ (List.Perm.append_left _ (List.Perm.append_left _ (List.Perm.append_left _ (List.perm_append_comm_assoc _ _ _))))) (List.Perm.trans (List.Perm.append_left _ (List.Perm.append_left _ (List.Perm.append_left _ (List.perm_append_comm_assoc _ _ _)))) (List.Perm.trans (List.Perm.append_left _ (List.Perm.append_left _ (List.Perm.append_left _ (List.Perm.append_left _ (List.Perm.append_left _ (List.perm_append_comm_assoc _ _ _)))))) (List.Perm.trans (List.Perm.append_left _ (List.Perm.append_left _ (List.Perm.append_left _ (List.Perm.append_left _ (List.perm_append_comm_assoc _ _ _))))) (List.Perm.trans (List.Perm.append_left _ (List.Perm.append_left _ (List.Perm.append_left _ (List.Perm.append_left _ (List.Perm.append_left _ (List.perm_append_comm_assoc _ _ _)))))) (List.Perm.append_left _ (List.Perm.append_left _ (List.Perm.append_left _ (List.Perm.append_left _ (List.Perm.append_left _ (List.Perm.append_left _ List.perm_append_comm))))))))))))) ?_
                          refine g_if_eq C (tgt := 81) dX4_isSound_69 (by decide) (fun cd28 => ?_) (fun cd28 => ?_)
                          · replace h := (if_pos cd28).symm.trans h
                            refine g_iconst C (v := 0) (by decide) dX4_isSound_81 ?_
                            obtain rfl := Option.some.inj h
                            exact g_zret C hQ rfl rfl ⟨by decide, by decide⟩ dX4_isSound_82
                          · replace h := (if_neg cd28).symm.trans h
                            refine g_aload_n C 4 rfl rfl dX4_isSound_72 ?_
                            refine g_aload C 0 rfl dX4_isSound_73 ?_
                            obtain ⟨g29, eg29, h⟩ := Option.bind_eq_some_iff.mp h
                            refine g_cVr (As := [.ref (a 48)]) (n9 := 1) (st := []) (w2 := (wB E a ++ (wX2 E a 2 lt ls lw lh lx ++ (wX1 E a 18 0 z0 q0 u0 t0 c0 ++ (wX1 E a 28 1 z1 q1 u1 t1 c1 ++ (wX1 E a 38 2 z2 q2 u2 t2 c2 ++ (wX1 E a 48 3 z3 q3 u3 t3 c3 ++ (wA E a ++ wX0 E a 13 g27.2.1 g27.2.2)))))))) C (c_X4_standsWithAllOthers_3 E a lt ls lw lh lx z0 q0 u0 t0 c0 z1 q1 u1 t1 c1 z2 q2 u2 t2 c2 z3 q3 u3 t3 c3 g29 eg29) gX4_isSound_X4_standsWithAllOthers rfl (by decide +kernel) rfl ⟨by decide, by decide, by decide, by decide, Nat.le_of_ble_eq_true rfl⟩ 0 rfl rfl (gSub.pre (S := (wX0 E a 13 g27.2.1 g27.2.2)) (by simp only [List.append_assoc])) (by simp only [List.append_assoc]) dX4_isSound_75 ?_
                            refine g_if_ne C (tgt := 83) dX4_isSound_78 (by decide) (fun cd30 => ?_) (fun cd30 => ?_)
                            · replace h := (if_neg cd30).symm.trans h
                              refine g_iinc C (v := 4) 1 rfl rfl (lv2 := [(3, .int 4), (4, .ref (a 48)), (2, .int 4), (1, .ref (a 1)), (0, .ref (a 0))]) rfl (by decide) dX4_isSound_83 ?_
                              refine g_goto C (tgt := 39) dX4_isSound_86 (by decide) ?_
                              refine g_iload_n C 0 rfl rfl dX4_isSound_39 ?_
                              refine g_iload_n C 2 rfl rfl dX4_isSound_40 ?_
                              refine g_icmp_ge C (tgt := 89) dX4_isSound_41 (by decide) (fun cd31 => ?_) (fun cd31 => absurd cd31 (by decide))
                              refine g_iconst C (v := 1) (by decide) dX4_isSound_89 ?_
                              obtain rfl := Option.some.inj h
                              exact g_zret C hQ rfl rfl ⟨by decide, by decide⟩ dX4_isSound_90
                            · replace h := (if_pos cd30).symm.trans h
                              refine g_iconst C (v := 0) (by decide) dX4_isSound_81 ?_
                              obtain rfl := Option.some.inj h
                              exact g_zret C hQ rfl rfl ⟨by decide, by decide⟩ dX4_isSound_82
                      · replace h := (if_pos cd23).symm.trans h
                        refine g_iconst C (v := 0) (by decide) dX4_isSound_81 ?_
                        obtain rfl := Option.some.inj h
                        exact g_zret C hQ rfl rfl ⟨by decide, by decide⟩ dX4_isSound_82
                · replace h := (if_pos cd16).symm.trans h
                  refine g_iconst C (v := 0) (by decide) dX4_isSound_81 ?_
                  obtain rfl := Option.some.inj h
                  exact g_zret C hQ rfl rfl ⟨by decide, by decide⟩ dX4_isSound_82
          · replace h := (if_pos cd9).symm.trans h
            refine g_iconst C (v := 0) (by decide) dX4_isSound_81 ?_
            obtain rfl := Option.some.inj h
            exact g_zret C hQ rfl rfl ⟨by decide, by decide⟩ dX4_isSound_82
    · replace h := (if_neg cd2).symm.trans h
      refine g_aload_n C 0 rfl rfl dX4_isSound_13 ?_
      refine g_iload_n C 1 rfl rfl dX4_isSound_14 ?_
      obtain ⟨g32, eg32, h⟩ := Option.bind_eq_some_iff.mp h
      refine g_cVr (As := [.int v1]) (n9 := 1) (st := []) (w2 := (wB E a ++ (wX2 E a 2 lt ls lw lh lx ++ (wX1 E a 18 0 z0 q0 u0 t0 c0 ++ (wX1 E a 28 1 z1 q1 u1 t1 c1 ++ (wX1 E a 38 2 z2 q2 u2 t2 c2 ++ (wX1 E a 48 3 z3 q3 u3 t3 c3 ++ (wA E a ++ wX0 E a 13 rt rc)))))))) C (c_X4_isOneThingOnce E a lt ls lw lh lx z0 q0 u0 t0 c0 z1 q1 u1 t1 c1 z2 q2 u2 t2 c2 z3 q3 u3 t3 c3 v1 g32 eg32) gX4_isSound_X4_isOneThingOnce rfl (by decide +kernel) rfl ⟨by decide, by decide, by decide, by decide, Nat.le_of_ble_eq_true rfl⟩ 0 rfl rfl (gSub.pre (S := (wX0 E a 13 rt rc)) (by simp only [List.append_assoc])) (by simp only [List.append_assoc]) dX4_isSound_15 ?_
      refine g_if_ne C (tgt := 23) dX4_isSound_18 (by decide) (fun cd33 => ?_) (fun cd33 => ?_)
      · replace h := (if_neg cd33).symm.trans h
        refine g_iinc C (v := v1 + 1) 1 rfl rfl (lv2 := [(1, .int (v1 + 1)), (0, .ref (a 0))]) rfl (by decide) dX4_isSound_23 ?_
        refine g_goto C (tgt := 2) dX4_isSound_26 (by decide) ?_
        refine g_lv [1, 0] (lv2 := [(0, .ref (a 0)), (1, .int (v1 + 1))]) rfl ?_
        exact ih (v1 + 1) h
      · replace h := (if_pos cd33).symm.trans h
        refine g_iconst C (v := 0) (by decide) dX4_isSound_21 ?_
        obtain rfl := Option.some.inj h
        exact g_zret C hQ rfl rfl ⟨by decide, by decide⟩ dX4_isSound_22
set_option maxHeartbeats 4000000 in
set_option maxRecDepth 100000 in
theorem c_X4_isSound (E : gE) (a : Nat → Nat) (lt : RS) (ls : RS) (lw : RS) (lh : RS) (lx : RS) (rt : RS) (rc : RS) (z0 : Int32) (q0 : RS) (u0 : RS) (t0 : RS) (c0 : RS) (z1 : Int32) (q1 : RS) (u1 : RS) (t1 : RS) (c1 : RS) (z2 : Int32) (q2 : RS) (u2 : RS) (t2 : RS) (c2 : RS) (z3 : Int32) (q3 : RS) (u3 : RS) (t3 : RS) (c3 : RS) (o : (Bool × RS × RS)) (h : f_X4_isSound lt ls lw lh lx rt rc z0 q0 u0 t0 c0 z1 q1 u1 t1 c1 z2 q2 u2 t2 c2 z3 q3 u3 t3 c3 = some o) : Ct E yX4_isSound wsX4_isSound r_X4_isSound [.ref (a 0)] (wB E a ++ (wX2 E a 2 lt ls lw lh lx ++ (wX1 E a 18 0 z0 q0 u0 t0 c0 ++ (wX1 E a 28 1 z1 q1 u1 t1 c1 ++ (wX1 E a 38 2 z2 q2 u2 t2 c2 ++ (wX1 E a 48 3 z3 q3 u3 t3 c3 ++ (wA E a ++ wX0 E a 13 rt rc))))))) (gO (fun u9 => some (.int (bI u9.1))) (fun u9 => (wB E a ++ (wX2 E a 2 lt ls lw lh lx ++ (wX1 E a 18 0 z0 q0 u0 t0 c0 ++ (wX1 E a 28 1 z1 q1 u1 t1 c1 ++ (wX1 E a 38 2 z2 q2 u2 t2 c2 ++ (wX1 E a 48 3 z3 q3 u3 t3 c3 ++ (wA E a ++ wX0 E a 13 u9.2.1 u9.2.2)))))))) (.inr o)) := by
  refine Ct.of (cc := cX4_isSound) (nL := 5) (ret := ((some .boolean))) (own := RX4) (by decide) rfl rfl (Nat.le_of_ble_eq_true rfl) rfl ?_ ?_
  · intro v w1 hh
    cases hh; rfl
  · intro X C hQ
    rw [f_X4_isSound] at h
    refine g_iconst C (v := 0) (by decide) dX4_isSound_0 ?_
    refine g_istore_n C (lv2 := [(1, .int 0), (0, .ref (a 0))]) rfl (by decide) rfl dX4_isSound_1 ?_
    refine g_lv [1, 0] (lv2 := [(0, .ref (a 0)), (1, .int 0)]) rfl ?_
    exact w_X4_isSound_2 C hQ FU 0 h
abbrev r_X4_checksum : Room := { frames := 5, cells := 0, slots := 0, locals := 112 }
theorem m_X4_checksum_0 : Cond.constantLong RX4 240 7 ∈ wsX4_checksum := by decide +kernel
theorem m_X4_checksum_1 : Cond.fieldLink RX4 18 "Bookinghouse" "houses" "[LBookinghouse$House;" ∈ wsX4_checksum := by decide +kernel
theorem i_X4_checksum_X4 : ∀ w ∈ wsX40, w ∈ wsX4_checksum := by decide +kernel
set_option maxHeartbeats 4000000 in
set_option maxRecDepth 100000 in
theorem c_X4_checksum (E : gE) (a : Nat → Nat) (z0 : Int32) (q0 : RS) (u0 : RS) (t0 : RS) (c0 : RS) (z1 : Int32) (q1 : RS) (u1 : RS) (t1 : RS) (c1 : RS) (z2 : Int32) (q2 : RS) (u2 : RS) (t2 : RS) (c2 : RS) (z3 : Int32) (q3 : RS) (u3 : RS) (t3 : RS) (c3 : RS) (o : (Int64)) (h : f_X4_checksum z0 q0 u0 t0 c0 z1 q1 u1 t1 c1 z2 q2 u2 t2 c2 z3 q3 u3 t3 c3 = some o) : Ct E yX4_checksum wsX4_checksum r_X4_checksum [.ref (a 0)] (wB E a ++ (wX1 E a 18 0 z0 q0 u0 t0 c0 ++ (wX1 E a 28 1 z1 q1 u1 t1 c1 ++ (wX1 E a 38 2 z2 q2 u2 t2 c2 ++ (wX1 E a 48 3 z3 q3 u3 t3 c3 ++ wA E a))))) (gO (fun u9 => some (.long u9)) (fun u9 => (wB E a ++ (wX1 E a 18 0 z0 q0 u0 t0 c0 ++ (wX1 E a 28 1 z1 q1 u1 t1 c1 ++ (wX1 E a 38 2 z2 q2 u2 t2 c2 ++ (wX1 E a 48 3 z3 q3 u3 t3 c3 ++ wA E a)))))) (.inr o)) := by
  refine Ct.of (cc := cX4_checksum) (nL := 7) (ret := ((some .long))) (own := RX4) (by decide) rfl rfl (Nat.le_of_ble_eq_true rfl) rfl ?_ ?_
  · intro v w1 hh
    cases hh; rfl
  · intro X C hQ
    rw [f_X4_checksum] at h
    refine g_ldc2 C (v := 7) m_X4_checksum_0 dX4_checksum_0 ?_
    refine g_lstore_n C (lv2 := [(1, .long 7), (0, .ref (a 0))]) rfl (by decide) rfl dX4_checksum_3 ?_
    refine g_aload_n C 1 rfl rfl dX4_checksum_4 ?_
    refine g_X4_houses C i_X4_checksum_X4 m_X4_checksum_1 0 rfl dX4_checksum_5 ?_
    refine g_astore_n C (lv2 := [(3, .ref (a 1)), (1, .long 7), (0, .ref (a 0))]) rfl (by decide) rfl dX4_checksum_8 ?_
    refine g_aload_n C 0 rfl rfl dX4_checksum_9 ?_
    refine g_alen4 C 41 rfl dX4_checksum_10 ?_
    refine g_istore C (lv2 := [(4, .int 4), (3, .ref (a 1)), (1, .long 7), (0, .ref (a 0))]) rfl (by decide) dX4_checksum_11 ?_
    refine g_iconst C (v := 0) (by decide) dX4_checksum_13 ?_
    refine g_istore C (lv2 := [(5, .int 0), (4, .int 4), (3, .ref (a 1)), (1, .long 7), (0, .ref (a 0))]) rfl (by decide) dX4_checksum_14 ?_
    refine g_iload C 0 rfl dX4_checksum_16 ?_
    refine g_iload C 1 rfl dX4_checksum_18 ?_
    refine g_icmp_ge C (tgt := 47) dX4_checksum_20 (by decide) (fun cd1 => absurd cd1 (by decide)) (fun cd1 => ?_)
    refine g_aload_n C 2 rfl rfl dX4_checksum_23 ?_
    refine g_iload C 0 rfl dX4_checksum_24 ?_
    refine g_aald4 C (a9 := (a 18)) 41 rfl (inB_in (by decide +kernel)) rfl dX4_checksum_26 ?_
    refine g_astore C (lv2 := [(6, .ref (a 18)), (5, .int 0), (4, .int 4), (3, .ref (a 1)), (1, .long 7), (0, .ref (a 0))]) rfl (by decide) dX4_checksum_27 ?_
    refine g_aload C 0 rfl dX4_checksum_29 ?_
    refine g_ifnull C dX4_checksum_31 ?_
    refine g_lload_n C 4 rfl rfl dX4_checksum_34 ?_
    refine g_aload C 0 rfl dX4_checksum_35 ?_
    refine g_perm (ws2 := (wX1 E a 18 0 z0 q0 u0 t0 c0 ++ (wB E a ++ (wX1 E a 28 1 z1 q1 u1 t1 c1 ++ (wX1 E a 38 2 z2 q2 u2 t2 c2 ++ (wX1 E a 48 3 z3 q3 u3 t3 c3 ++ wA E a)))))) (List.perm_append_comm_assoc _ _ _) ?_
    obtain ⟨g2, eg2, h⟩ := Option.bind_eq_some_iff.mp h
    refine g_cSr (As := [.long 7, .ref (a 18)]) (n9 := 2) (st := []) (w2 := (wX1 E a 18 0 z0 q0 u0 t0 c0 ++ (wB E a ++ (wX1 E a 28 1 z1 q1 u1 t1 c1 ++ (wX1 E a 38 2 z2 q2 u2 t2 c2 ++ (wX1 E a 48 3 z3 q3 u3 t3 c3 ++ wA E a)))))) C (c_X4_withHouse E a 18 0 z0 q0 u0 t0 c0 7 g2 eg2) gX4_checksum_X4_withHouse rfl (by decide +kernel) rfl ⟨by decide, by decide, by decide, by decide, Nat.le_of_ble_eq_true rfl⟩ (gSub.pre (S := (wB E a ++ (wX1 E a 28 1 z1 q1 u1 t1 c1 ++ (wX1 E a 38 2 z2 q2 u2 t2 c2 ++ (wX1 E a 48 3 z3 q3 u3 t3 c3 ++ wA E a))))) rfl) rfl dX4_checksum_37 ?_
    refine g_perm (ws2 := (wB E a ++ (wX1 E a 18 0 z0 q0 u0 t0 c0 ++ (wX1 E a 28 1 z1 q1 u1 t1 c1 ++ (wX1 E a 38 2 z2 q2 u2 t2 c2 ++ (wX1 E a 48 3 z3 q3 u3 t3 c3 ++ wA E a)))))) (List.perm_append_comm_assoc _ _ _) ?_
    refine g_lstore_n C (lv2 := [(1, .long g2), (6, .ref (a 18)), (5, .int 0), (4, .int 4), (3, .ref (a 1)), (0, .ref (a 0))]) rfl (by decide) rfl dX4_checksum_40 ?_
    refine g_iinc C (v := 1) 2 rfl rfl (lv2 := [(5, .int 1), (1, .long g2), (6, .ref (a 18)), (4, .int 4), (3, .ref (a 1)), (0, .ref (a 0))]) rfl (by decide) dX4_checksum_41 ?_
    refine g_goto C (tgt := 16) dX4_checksum_44 (by decide) ?_
    refine g_iload C 0 rfl dX4_checksum_16 ?_
    refine g_iload C 3 rfl dX4_checksum_18 ?_
    refine g_icmp_ge C (tgt := 47) dX4_checksum_20 (by decide) (fun cd3 => absurd cd3 (by decide)) (fun cd3 => ?_)
    refine g_aload_n C 4 rfl rfl dX4_checksum_23 ?_
    refine g_iload C 0 rfl dX4_checksum_24 ?_
    refine g_aald4 C (a9 := (a 28)) 41 rfl (inB_in (by decide +kernel)) rfl dX4_checksum_26 ?_
    refine g_astore C (lv2 := [(6, .ref (a 28)), (5, .int 1), (1, .long g2), (4, .int 4), (3, .ref (a 1)), (0, .ref (a 0))]) rfl (by decide) dX4_checksum_27 ?_
    refine g_aload C 0 rfl dX4_checksum_29 ?_
    refine g_ifnull C dX4_checksum_31 ?_
    refine g_lload_n C 2 rfl rfl dX4_checksum_34 ?_
    refine g_aload C 0 rfl dX4_checksum_35 ?_
    refine g_perm (ws2 := (wX1 E a 28 1 z1 q1 u1 t1 c1 ++ (wB E a ++ (wX1 E a 18 0 z0 q0 u0 t0 c0 ++ (wX1 E a 38 2 z2 q2 u2 t2 c2 ++ (wX1 E a 48 3 z3 q3 u3 t3 c3 ++ wA E a)))))) (List.Perm.trans (List.Perm.append_left _ (List.perm_append_comm_assoc _ _ _)) (List.perm_append_comm_assoc _ _ _)) ?_
    obtain ⟨g4, eg4, h⟩ := Option.bind_eq_some_iff.mp h
    refine g_cSr (As := [.long g2, .ref (a 28)]) (n9 := 2) (st := []) (w2 := (wX1 E a 28 1 z1 q1 u1 t1 c1 ++ (wB E a ++ (wX1 E a 18 0 z0 q0 u0 t0 c0 ++ (wX1 E a 38 2 z2 q2 u2 t2 c2 ++ (wX1 E a 48 3 z3 q3 u3 t3 c3 ++ wA E a)))))) C (c_X4_withHouse E a 28 1 z1 q1 u1 t1 c1 g2 g4 eg4) gX4_checksum_X4_withHouse rfl (by decide +kernel) rfl ⟨by decide, by decide, by decide, by decide, Nat.le_of_ble_eq_true rfl⟩ (gSub.pre (S := (wB E a ++ (wX1 E a 18 0 z0 q0 u0 t0 c0 ++ (wX1 E a 38 2 z2 q2 u2 t2 c2 ++ (wX1 E a 48 3 z3 q3 u3 t3 c3 ++ wA E a))))) rfl) rfl dX4_checksum_37 ?_
    refine g_perm (ws2 := (wB E a ++ (wX1 E a 18 0 z0 q0 u0 t0 c0 ++ (wX1 E a 28 1 z1 q1 u1 t1 c1 ++ (wX1 E a 38 2 z2 q2 u2 t2 c2 ++ (wX1 E a 48 3 z3 q3 u3 t3 c3 ++ wA E a)))))) (List.Perm.trans (List.perm_append_comm_assoc _ _ _) (List.Perm.append_left _ (List.perm_append_comm_assoc _ _ _))) ?_
    refine g_lstore_n C (lv2 := [(1, .long g4), (6, .ref (a 28)), (5, .int 1), (4, .int 4), (3, .ref (a 1)), (0, .ref (a 0))]) rfl (by decide) rfl dX4_checksum_40 ?_
    refine g_iinc C (v := 2) 2 rfl rfl (lv2 := [(5, .int 2), (1, .long g4), (6, .ref (a 28)), (4, .int 4), (3, .ref (a 1)), (0, .ref (a 0))]) rfl (by decide) dX4_checksum_41 ?_
    refine g_goto C (tgt := 16) dX4_checksum_44 (by decide) ?_
    refine g_iload C 0 rfl dX4_checksum_16 ?_
    refine g_iload C 3 rfl dX4_checksum_18 ?_
    refine g_icmp_ge C (tgt := 47) dX4_checksum_20 (by decide) (fun cd5 => absurd cd5 (by decide)) (fun cd5 => ?_)
    refine g_aload_n C 4 rfl rfl dX4_checksum_23 ?_
    refine g_iload C 0 rfl dX4_checksum_24 ?_
    refine g_aald4 C (a9 := (a 38)) 41 rfl (inB_in (by decide +kernel)) rfl dX4_checksum_26 ?_
    refine g_astore C (lv2 := [(6, .ref (a 38)), (5, .int 2), (1, .long g4), (4, .int 4), (3, .ref (a 1)), (0, .ref (a 0))]) rfl (by decide) dX4_checksum_27 ?_
    refine g_aload C 0 rfl dX4_checksum_29 ?_
    refine g_ifnull C dX4_checksum_31 ?_
    refine g_lload_n C 2 rfl rfl dX4_checksum_34 ?_
    refine g_aload C 0 rfl dX4_checksum_35 ?_
    refine g_perm (ws2 := (wX1 E a 38 2 z2 q2 u2 t2 c2 ++ (wB E a ++ (wX1 E a 18 0 z0 q0 u0 t0 c0 ++ (wX1 E a 28 1 z1 q1 u1 t1 c1 ++ (wX1 E a 48 3 z3 q3 u3 t3 c3 ++ wA E a)))))) (List.Perm.trans (List.Perm.append_left _ (List.Perm.append_left _ (List.perm_append_comm_assoc _ _ _))) (List.Perm.trans (List.Perm.append_left _ (List.perm_append_comm_assoc _ _ _)) (List.perm_append_comm_assoc _ _ _))) ?_
    obtain ⟨g6, eg6, h⟩ := Option.bind_eq_some_iff.mp h
    refine g_cSr (As := [.long g4, .ref (a 38)]) (n9 := 2) (st := []) (w2 := (wX1 E a 38 2 z2 q2 u2 t2 c2 ++ (wB E a ++ (wX1 E a 18 0 z0 q0 u0 t0 c0 ++ (wX1 E a 28 1 z1 q1 u1 t1 c1 ++ (wX1 E a 48 3 z3 q3 u3 t3 c3 ++ wA E a)))))) C (c_X4_withHouse E a 38 2 z2 q2 u2 t2 c2 g4 g6 eg6) gX4_checksum_X4_withHouse rfl (by decide +kernel) rfl ⟨by decide, by decide, by decide, by decide, Nat.le_of_ble_eq_true rfl⟩ (gSub.pre (S := (wB E a ++ (wX1 E a 18 0 z0 q0 u0 t0 c0 ++ (wX1 E a 28 1 z1 q1 u1 t1 c1 ++ (wX1 E a 48 3 z3 q3 u3 t3 c3 ++ wA E a))))) rfl) rfl dX4_checksum_37 ?_
    refine g_perm (ws2 := (wB E a ++ (wX1 E a 18 0 z0 q0 u0 t0 c0 ++ (wX1 E a 28 1 z1 q1 u1 t1 c1 ++ (wX1 E a 38 2 z2 q2 u2 t2 c2 ++ (wX1 E a 48 3 z3 q3 u3 t3 c3 ++ wA E a)))))) (List.Perm.trans (List.perm_append_comm_assoc _ _ _) (List.Perm.trans (List.Perm.append_left _ (List.perm_append_comm_assoc _ _ _)) (List.Perm.append_left _ (List.Perm.append_left _ (List.perm_append_comm_assoc _ _ _))))) ?_
    refine g_lstore_n C (lv2 := [(1, .long g6), (6, .ref (a 38)), (5, .int 2), (4, .int 4), (3, .ref (a 1)), (0, .ref (a 0))]) rfl (by decide) rfl dX4_checksum_40 ?_
    refine g_iinc C (v := 3) 2 rfl rfl (lv2 := [(5, .int 3), (1, .long g6), (6, .ref (a 38)), (4, .int 4), (3, .ref (a 1)), (0, .ref (a 0))]) rfl (by decide) dX4_checksum_41 ?_
    refine g_goto C (tgt := 16) dX4_checksum_44 (by decide) ?_
    refine g_iload C 0 rfl dX4_checksum_16 ?_
    refine g_iload C 3 rfl dX4_checksum_18 ?_
    refine g_icmp_ge C (tgt := 47) dX4_checksum_20 (by decide) (fun cd7 => absurd cd7 (by decide)) (fun cd7 => ?_)
    refine g_aload_n C 4 rfl rfl dX4_checksum_23 ?_
    refine g_iload C 0 rfl dX4_checksum_24 ?_
    refine g_aald4 C (a9 := (a 48)) 41 rfl (inB_in (by decide +kernel)) rfl dX4_checksum_26 ?_
    refine g_astore C (lv2 := [(6, .ref (a 48)), (5, .int 3), (1, .long g6), (4, .int 4), (3, .ref (a 1)), (0, .ref (a 0))]) rfl (by decide) dX4_checksum_27 ?_
    refine g_aload C 0 rfl dX4_checksum_29 ?_
    refine g_ifnull C dX4_checksum_31 ?_
    refine g_lload_n C 2 rfl rfl dX4_checksum_34 ?_
    refine g_aload C 0 rfl dX4_checksum_35 ?_
    refine g_perm (ws2 := (wX1 E a 48 3 z3 q3 u3 t3 c3 ++ (wB E a ++ (wX1 E a 18 0 z0 q0 u0 t0 c0 ++ (wX1 E a 28 1 z1 q1 u1 t1 c1 ++ (wX1 E a 38 2 z2 q2 u2 t2 c2 ++ wA E a)))))) (List.Perm.trans (List.Perm.append_left _ (List.Perm.append_left _ (List.Perm.append_left _ (List.perm_append_comm_assoc _ _ _)))) (List.Perm.trans (List.Perm.append_left _ (List.Perm.append_left _ (List.perm_append_comm_assoc _ _ _))) (List.Perm.trans (List.Perm.append_left _ (List.perm_append_comm_assoc _ _ _)) (List.perm_append_comm_assoc _ _ _)))) ?_
    obtain ⟨g8, eg8, h⟩ := Option.bind_eq_some_iff.mp h
    refine g_cSr (As := [.long g6, .ref (a 48)]) (n9 := 2) (st := []) (w2 := (wX1 E a 48 3 z3 q3 u3 t3 c3 ++ (wB E a ++ (wX1 E a 18 0 z0 q0 u0 t0 c0 ++ (wX1 E a 28 1 z1 q1 u1 t1 c1 ++ (wX1 E a 38 2 z2 q2 u2 t2 c2 ++ wA E a)))))) C (c_X4_withHouse E a 48 3 z3 q3 u3 t3 c3 g6 g8 eg8) gX4_checksum_X4_withHouse rfl (by decide +kernel) rfl ⟨by decide, by decide, by decide, by decide, Nat.le_of_ble_eq_true rfl⟩ (gSub.pre (S := (wB E a ++ (wX1 E a 18 0 z0 q0 u0 t0 c0 ++ (wX1 E a 28 1 z1 q1 u1 t1 c1 ++ (wX1 E a 38 2 z2 q2 u2 t2 c2 ++ wA E a))))) rfl) rfl dX4_checksum_37 ?_
    refine g_perm (ws2 := (wB E a ++ (wX1 E a 18 0 z0 q0 u0 t0 c0 ++ (wX1 E a 28 1 z1 q1 u1 t1 c1 ++ (wX1 E a 38 2 z2 q2 u2 t2 c2 ++ (wX1 E a 48 3 z3 q3 u3 t3 c3 ++ wA E a)))))) (List.Perm.trans (List.perm_append_comm_assoc _ _ _) (List.Perm.trans (List.Perm.append_left _ (List.perm_append_comm_assoc _ _ _)) (List.Perm.trans (List.Perm.append_left _ (List.Perm.append_left _ (List.perm_append_comm_assoc _ _ _))) (List.Perm.append_left _ (List.Perm.append_left _ (List.Perm.append_left _ (List.perm_append_comm_assoc _ _ _))))))) ?_
    refine g_lstore_n C (lv2 := [(1, .long g8), (6, .ref (a 48)), (5, .int 3), (4, .int 4), (3, .ref (a 1)), (0, .ref (a 0))]) rfl (by decide) rfl dX4_checksum_40 ?_
    refine g_iinc C (v := 4) 2 rfl rfl (lv2 := [(5, .int 4), (1, .long g8), (6, .ref (a 48)), (4, .int 4), (3, .ref (a 1)), (0, .ref (a 0))]) rfl (by decide) dX4_checksum_41 ?_
    refine g_goto C (tgt := 16) dX4_checksum_44 (by decide) ?_
    refine g_iload C 0 rfl dX4_checksum_16 ?_
    refine g_iload C 3 rfl dX4_checksum_18 ?_
    refine g_icmp_ge C (tgt := 47) dX4_checksum_20 (by decide) (fun cd9 => ?_) (fun cd9 => absurd cd9 (by decide))
    refine g_lload_n C 1 rfl rfl dX4_checksum_47 ?_
    obtain rfl := Option.some.inj h
    exact g_lret C hQ rfl ⟨by decide, by decide⟩ dX4_checksum_48
abbrev r_X4_book : Room := { frames := 9, cells := 2, slots := 12, locals := 151 }
theorem tf_X4_book_46 : gTh wsX4_book RX4 "java/lang/IllegalArgumentException" 46 50 := ⟨by decide +kernel, by decide +kernel, by decide +kernel, by decide +kernel, by decide +kernel, by decide +kernel⟩
set_option maxHeartbeats 4000000 in
set_option maxRecDepth 100000 in
theorem c_X4_book (E : gE) (a : Nat → Nat) (k : Nat) (lt : RS) (ls : RS) (lw : RS) (lh : RS) (lx : RS) (nu : Int32) (z : Int32) (q : RS) (u : RS) (t : RS) (c : RS) (p1 : Int32) (p2 : Int32) (p3 : Int32) (p4 : Int32) (hk : f_X4_houseAt p1 = some (.inr k)) (o : (String ⊕ (Int32 × RS × RS × RS × RS × RS × RS))) (h : f_X4_book lt ls lw lh lx nu z q p1 p2 p3 p4 = some o) : Ct E yX4_book wsX4_book r_X4_book [.ref (a 0), .int p1, .int p2, .int p3, .int p4] (wB E a ++ (wX2 E a 2 lt ls lw lh lx ++ (wX1 E a (18 + 10 * k) nu z q u t c ++ wA E a))) (gO (fun u9 => some (.int u9.1)) (fun u9 => (wB E a ++ (wX2 E a 2 u9.2.1 u9.2.2.1 u9.2.2.2.1 u9.2.2.2.2.1 u9.2.2.2.2.2.1 ++ (wX1 E a (18 + 10 * k) nu z u9.2.2.2.2.2.2 u t c ++ wA E a)))) o) := by
  refine Ct.of (cc := cX4_book) (nL := 6) (ret := ((some .int))) (own := RX4) (by decide) rfl rfl (Nat.le_of_ble_eq_true rfl) rfl ?_ ?_
  · intro v w1 hh
    cases o <;> cases hh <;> rfl
  · intro X C hQ
    rw [f_X4_book] at h
    refine g_aload_n C 0 rfl rfl dX4_book_0 ?_
    refine g_iload_n C 1 rfl rfl dX4_book_1 ?_
    obtain ⟨oc2, eoc2, fx3, fk4⟩ := tB_some h
    refine g_callVr (As := [.int p1]) (n9 := 1) (st := []) (w2 := fun g1 => (wB E a ++ (wX2 E a 2 lt ls lw lh lx ++ (wX1 E a (18 + 10 * k) nu z q u t c ++ wA E a)))) C (c_X4_houseAt E a p1 oc2 eoc2) gX4_book_X4_houseAt rfl (by decide +kernel) rfl ⟨by decide, by decide, by decide, by decide, Nat.le_of_ble_eq_true rfl⟩ 0 rfl rfl (gSub.idx [0, 22] rfl rfl) (fun _ => rfl) dX4_book_2 (fun x9 h9 => ⟨hQ, by rw [fx3 x9 h9]; rfl, rfl, (fun _ h => h), by decide, by decide⟩) (fun g1 h9oc2 => ?_)
    replace h := fk4 g1 h9oc2
    obtain rfl : k = g1 := khyp eoc2 h9oc2 hk
    refine g_astore C (lv2 := [(5, .ref (a (18 + 10 * k))), (0, .ref (a 0)), (1, .int p1), (2, .int p2), (3, .int p3), (4, .int p4)]) rfl (by decide) dX4_book_5 ?_
    refine g_iload_n C 3 rfl rfl dX4_book_7 ?_
    obtain ⟨g5, eg5, h⟩ := Option.bind_eq_some_iff.mp h
    refine g_cSr (As := [.int p2]) (n9 := 1) (st := []) (w2 := (wB E a ++ (wX2 E a 2 lt ls lw lh lx ++ (wX1 E a (18 + 10 * k) nu z q u t c ++ wA E a)))) C (c_X4_isTime E p2 g5 eg5) gX4_book_X4_isTime rfl (by decide +kernel) rfl ⟨by decide, by decide, by decide, by decide, Nat.le_of_ble_eq_true rfl⟩ (gSub.idx [] rfl rfl) rfl dX4_book_8 ?_
    refine g_if_eq C (tgt := 29) dX4_book_11 (by decide) (fun cd6 => ?_) (fun cd6 => ?_)
    · replace h := (if_pos cd6).symm.trans h
      obtain rfl := Option.some.inj h
      exact g_throwS C hQ rfl rfl tf_X4_book_46 (text := "time, span or weight is out of range") (is9 := 48) (by decide +kernel) ⟨by decide, Nat.le_of_ble_eq_true rfl, by decide, by decide, by decide, by decide⟩ dX4_book_29 dX4_book_32 dX4_book_33 dX4_book_35 dX4_book_38
    · replace h := (if_neg cd6).symm.trans h
      refine g_iload_n C 4 rfl rfl dX4_book_14 ?_
      obtain ⟨g7, eg7, h⟩ := Option.bind_eq_some_iff.mp h
      refine g_cSr (As := [.int p3]) (n9 := 1) (st := []) (w2 := (wB E a ++ (wX2 E a 2 lt ls lw lh lx ++ (wX1 E a (18 + 10 * k) nu z q u t c ++ wA E a)))) C (c_X4_isSpan E p3 g7 eg7) gX4_book_X4_isSpan rfl (by decide +kernel) rfl ⟨by decide, by decide, by decide, by decide, Nat.le_of_ble_eq_true rfl⟩ (gSub.idx [] rfl rfl) rfl dX4_book_15 ?_
      refine g_if_eq C (tgt := 29) dX4_book_18 (by decide) (fun cd8 => ?_) (fun cd8 => ?_)
      · replace h := (if_pos cd8).symm.trans h
        obtain rfl := Option.some.inj h
        exact g_throwS C hQ rfl rfl tf_X4_book_46 (text := "time, span or weight is out of range") (is9 := 48) (by decide +kernel) ⟨by decide, Nat.le_of_ble_eq_true rfl, by decide, by decide, by decide, by decide⟩ dX4_book_29 dX4_book_32 dX4_book_33 dX4_book_35 dX4_book_38
      · replace h := (if_neg cd8).symm.trans h
        refine g_iload C 5 rfl dX4_book_21 ?_
        obtain ⟨g9, eg9, h⟩ := Option.bind_eq_some_iff.mp h
        refine g_cSr (As := [.int p4]) (n9 := 1) (st := []) (w2 := (wB E a ++ (wX2 E a 2 lt ls lw lh lx ++ (wX1 E a (18 + 10 * k) nu z q u t c ++ wA E a)))) C (c_X4_isWeight E p4 g9 eg9) gX4_book_X4_isWeight rfl (by decide +kernel) rfl ⟨by decide, by decide, by decide, by decide, Nat.le_of_ble_eq_true rfl⟩ (gSub.idx [] rfl rfl) rfl dX4_book_23 ?_
        refine g_if_ne C (tgt := 39) dX4_book_26 (by decide) (fun cd10 => ?_) (fun cd10 => ?_)
        · replace h := (if_neg cd10).symm.trans h
          refine g_aload_n C 1 rfl rfl dX4_book_39 ?_
          refine g_aload C 0 rfl dX4_book_40 ?_
          refine g_iload_n C 3 rfl rfl dX4_book_42 ?_
          refine g_iconst C (v := 1) (by decide) dX4_book_43 ?_
          obtain ⟨oc12, eoc12, fx13, fk14⟩ := tB_some h
          refine g_callVv (As := [.ref (a (18 + 10 * k)), .int p2, .int 1]) (n9 := 3) (st := []) (w2 := fun g11 => (wB E a ++ (wX2 E a 2 lt ls lw lh lx ++ (wX1 E a (18 + 10 * k) nu z q u t c ++ wA E a)))) C (c_X4_refuseIfNoRoom E a (18 + 10 * k) lt ls lw lh lx nu z q u t c p2 1 oc12 eoc12) gX4_book_X4_refuseIfNoRoom rfl (by decide +kernel) rfl ⟨by decide, by decide, by decide, by decide, Nat.le_of_ble_eq_true rfl⟩ 0 rfl rfl (gSub.pre (S := (wA E a)) (by simp only [List.append_assoc])) (fun _ => (by simp only [List.append_assoc])) dX4_book_44 (fun x9 h9 => ⟨hQ, by rw [fx13 x9 h9]; rfl, rfl, (fun _ h => h), by decide, by decide⟩) (fun g11 h9oc12 => ?_)
          replace h := fk14 g11 h9oc12
          refine g_aload_n C 1 rfl rfl dX4_book_47 ?_
          refine g_aload C 0 rfl dX4_book_48 ?_
          refine g_iload_n C 3 rfl rfl dX4_book_50 ?_
          refine g_iload_n C 4 rfl rfl dX4_book_51 ?_
          refine g_iload C 5 rfl dX4_book_52 ?_
          obtain ⟨g15, eg15, h⟩ := Option.bind_eq_some_iff.mp h
          refine g_cVr (As := [.ref (a (18 + 10 * k)), .int p2, .int p3, .int p4]) (n9 := 4) (st := []) (w2 := (wB E a ++ (wX2 E a 2 g15.2.1 g15.2.2.1 g15.2.2.2.1 g15.2.2.2.2.1 g15.2.2.2.2.2.1 ++ (wX1 E a (18 + 10 * k) nu z g15.2.2.2.2.2.2 u t c ++ wA E a)))) C (c_X4_make E a (18 + 10 * k) lt ls lw lh lx nu z q u t c p2 p3 p4 g15 eg15) gX4_book_X4_make rfl (by decide +kernel) rfl ⟨by decide, by decide, by decide, by decide, Nat.le_of_ble_eq_true rfl⟩ 0 rfl rfl (gSub.pre (S := (wA E a)) (by simp only [List.append_assoc])) (by simp only [List.append_assoc]) dX4_book_54 ?_
          obtain rfl := Option.some.inj h
          exact g_iret C hQ (by dsimp only [gO]) ⟨by decide, by decide⟩ dX4_book_57
        · replace h := (if_pos cd10).symm.trans h
          obtain rfl := Option.some.inj h
          exact g_throwS C hQ rfl rfl tf_X4_book_46 (text := "time, span or weight is out of range") (is9 := 48) (by decide +kernel) ⟨by decide, Nat.le_of_ble_eq_true rfl, by decide, by decide, by decide, by decide⟩ dX4_book_29 dX4_book_32 dX4_book_33 dX4_book_35 dX4_book_38
abbrev r_X4_book_bad : Room := { frames := 9, cells := 2, slots := 12, locals := 151 }
set_option maxHeartbeats 4000000 in
set_option maxRecDepth 100000 in
theorem c_X4_book_bad (E : gE) (a : Nat → Nat) (p1 : Int32) (p2 : Int32) (p3 : Int32) (p4 : Int32) (hbad : ∀ {x : Nat}, f_X4_houseAt p1 = some (.inr x) → False) (o : (String ⊕ (Int32))) (h : f_X4_book_bad p1 = some o) : Ct E yX4_book wsX4_book r_X4_book_bad [.ref (a 0), .int p1, .int p2, .int p3, .int p4] (wB E a ++ wA E a) (gO (fun u9 => some (.int u9)) (fun u9 => (wB E a ++ wA E a)) o) := by
  refine Ct.of (cc := cX4_book) (nL := 6) (ret := ((some .int))) (own := RX4) (by decide) rfl rfl (Nat.le_of_ble_eq_true rfl) rfl ?_ ?_
  · intro v w1 hh
    cases o <;> cases hh <;> rfl
  · intro X C hQ
    rw [f_X4_book_bad] at h
    refine g_aload_n C 0 rfl rfl dX4_book_0 ?_
    refine g_iload_n C 1 rfl rfl dX4_book_1 ?_
    obtain ⟨oc2, eoc2, fx3, fk4⟩ := tB_some h
    refine g_callVr (As := [.int p1]) (n9 := 1) (st := []) (w2 := fun g1 => (wB E a ++ wA E a)) C (c_X4_houseAt E a p1 oc2 eoc2) gX4_book_X4_houseAt rfl (by decide +kernel) rfl ⟨by decide, by decide, by decide, by decide, Nat.le_of_ble_eq_true rfl⟩ 0 rfl rfl (gSub.idx [0, 1] rfl rfl) (fun _ => rfl) dX4_book_2 (fun x9 h9 => ⟨hQ, by rw [fx3 x9 h9]; rfl, rfl, (fun _ h => h), by decide, by decide⟩) (fun g1 h9oc2 => ?_)
    replace h := fk4 g1 h9oc2
    exact (hbad (eoc2.trans (congrArg some h9oc2))).elim
abbrev r_X4_series : Room := { frames := 9, cells := 2, slots := 12, locals := 151 }
theorem tf_X4_series_46 : gTh wsX4_series RX4 "java/lang/IllegalArgumentException" 46 50 := ⟨by decide +kernel, by decide +kernel, by decide +kernel, by decide +kernel, by decide +kernel, by decide +kernel⟩
theorem m_X4_series_1 : Cond.fieldLink RX4 10 "Bookinghouse" "ledger" "LBookinghouse$Ledger;" ∈ wsX4_series := by decide +kernel
theorem i_X4_series_X4 : ∀ w ∈ wsX40, w ∈ wsX4_series := by decide +kernel
set_option maxHeartbeats 4000000 in
set_option maxRecDepth 100000 in
theorem w_X4_series_97 {E : gE} {X : gX} {a : Nat → Nat} {k : Nat} {lt : RS} {ls : RS} {lw : RS} {lh : RS} {lx : RS} {nu : Int32} {z : Int32} {q : RS} {u : RS} {t : RS} {c : RS} {p1 : Int32} {v2 : Int32} {v3 : Int32} {v4 : Int32} {v5 : Int32} {v6 : Int32} {v8 : Int32} {o : (String ⊕ (Int32 × RS × RS × RS × RS × RS × RS))} (hk : f_X4_houseAt p1 = some (.inr k)) (C : Cx E X cX4_series 10 RX4 wsX4_series r_X4_series ((some .int)) []) (hQ : gQ E X (wB E a ++ (wX2 E a 2 lt ls lw lh lx ++ (wX1 E a (18 + 10 * k) nu z q u t c ++ wA E a))) r_X4_series (gO (fun u9 => some (.int u9.1)) (fun u9 => (wB E a ++ (wX2 E a 2 u9.2.1 u9.2.2.1 u9.2.2.2.1 u9.2.2.2.2.1 u9.2.2.2.2.2.1 ++ (wX1 E a (18 + 10 * k) nu z u9.2.2.2.2.2.2 u t c ++ wA E a)))) o)) : ∀ (F : Nat) (v9 : Int32) (ltc : RS) (lsc : RS) (lwc : RS) (lhc : RS) (lxc : RS) (qc : RS), l_X4_series_97 nu v2 v3 v4 v5 v6 v8 F v9 ltc lsc lwc lhc lxc qc = some o → Gx E X (wB E a ++ (wX2 E a 2 ltc lsc lwc lhc lxc ++ (wX1 E a (18 + 10 * k) nu z qc u t c ++ wA E a))) 10 [(0, .ref (a 0)), (2, .int v2), (3, .int v3), (4, .int v4), (5, .int v5), (6, .int v6), (7, .ref (a (18 + 10 * k))), (8, .int v8), (9, .int v9)] [] 97 2 12 := by
  intro F
  induction F with
  | zero => intro v9 ltc lsc lwc lhc lxc qc h; exact absurd h (by simp [l_X4_series_97])
  | succ F ih =>
    intro v9 ltc lsc lwc lhc lxc qc h
    rw [l_X4_series_97] at h
    refine g_iload C 8 rfl dX4_series_97 ?_
    refine g_iload C 3 rfl dX4_series_99 ?_
    refine g_icmp_ge C (tgt := 127) dX4_series_101 (by decide) (fun cd1 => ?_) (fun cd1 => ?_)
    · replace h := (if_pos cd1).symm.trans h
      refine g_iload C 7 rfl dX4_series_127 ?_
      obtain rfl := Option.some.inj h
      exact g_iret C hQ (by dsimp only [gO]) ⟨by decide, by decide⟩ dX4_series_129
    · replace h := (if_neg cd1).symm.trans h
      refine g_aload_n C 0 rfl rfl dX4_series_104 ?_
      refine g_aload C 6 rfl dX4_series_105 ?_
      refine g_iload_n C 1 rfl rfl dX4_series_107 ?_
      refine g_iload C 8 rfl dX4_series_108 ?_
      refine g_iload_n C 2 rfl rfl dX4_series_110 ?_
      refine g_imul C dX4_series_111 ?_
      refine g_iadd C dX4_series_112 ?_
      refine g_iload C 4 rfl dX4_series_113 ?_
      refine g_iload C 5 rfl dX4_series_115 ?_
      obtain ⟨g2, eg2, h⟩ := Option.bind_eq_some_iff.mp h
      refine g_cVr (As := [.ref (a (18 + 10 * k)), .int (v2 + (v9 * v3)), .int v5, .int v6]) (n9 := 4) (st := []) (w2 := (wB E a ++ (wX2 E a 2 g2.2.1 g2.2.2.1 g2.2.2.2.1 g2.2.2.2.2.1 g2.2.2.2.2.2.1 ++ (wX1 E a (18 + 10 * k) nu z g2.2.2.2.2.2.2 u t c ++ wA E a)))) C (c_X4_make E a (18 + 10 * k) ltc lsc lwc lhc lxc nu z qc u t c (v2 + (v9 * v3)) v5 v6 g2 eg2) gX4_series_X4_make rfl (by decide +kernel) rfl ⟨by decide, by decide, by decide, by decide, Nat.le_of_ble_eq_true rfl⟩ 0 rfl rfl (gSub.pre (S := (wA E a)) (by simp only [List.append_assoc])) (by simp only [List.append_assoc]) dX4_series_117 ?_
      refine g_pop C rfl dX4_series_120 ?_
      refine g_iinc C (v := v9 + 1) 8 rfl rfl (lv2 := [(9, .int (v9 + 1)), (0, .ref (a 0)), (2, .int v2), (3, .int v3), (4, .int v4), (5, .int v5), (6, .int v6), (7, .ref (a (18 + 10 * k))), (8, .int v8)]) rfl (by decide) dX4_series_121 ?_
      refine g_goto C (tgt := 97) dX4_series_124 (by decide) ?_
      refine g_lv [1, 2, 3, 4, 5, 6, 7, 8, 0] (lv2 := [(0, .ref (a 0)), (2, .int v2), (3, .int v3), (4, .int v4), (5, .int v5), (6, .int v6), (7, .ref (a (18 + 10 * k))), (8, .int v8), (9, .int (v9 + 1))]) rfl ?_
      exact ih (v9 + 1) g2.2.1 g2.2.2.1 g2.2.2.2.1 g2.2.2.2.2.1 g2.2.2.2.2.2.1 g2.2.2.2.2.2.2 h
set_option maxHeartbeats 4000000 in
set_option maxRecDepth 100000 in
theorem c_X4_series (E : gE) (a : Nat → Nat) (k : Nat) (lt : RS) (ls : RS) (lw : RS) (lh : RS) (lx : RS) (nu : Int32) (z : Int32) (q : RS) (u : RS) (t : RS) (c : RS) (p1 : Int32) (p2 : Int32) (p3 : Int32) (p4 : Int32) (p5 : Int32) (p6 : Int32) (hk : f_X4_houseAt p1 = some (.inr k)) (o : (String ⊕ (Int32 × RS × RS × RS × RS × RS × RS))) (h : f_X4_series lt ls lw lh lx nu z q p1 p2 p3 p4 p5 p6 = some o) : Ct E yX4_series wsX4_series r_X4_series [.ref (a 0), .int p1, .int p2, .int p3, .int p4, .int p5, .int p6] (wB E a ++ (wX2 E a 2 lt ls lw lh lx ++ (wX1 E a (18 + 10 * k) nu z q u t c ++ wA E a))) (gO (fun u9 => some (.int u9.1)) (fun u9 => (wB E a ++ (wX2 E a 2 u9.2.1 u9.2.2.1 u9.2.2.2.1 u9.2.2.2.2.1 u9.2.2.2.2.2.1 ++ (wX1 E a (18 + 10 * k) nu z u9.2.2.2.2.2.2 u t c ++ wA E a)))) o) := by
  refine Ct.of (cc := cX4_series) (nL := 10) (ret := ((some .int))) (own := RX4) (by decide) rfl rfl (Nat.le_of_ble_eq_true rfl) rfl ?_ ?_
  · intro v w1 hh
    cases o <;> cases hh <;> rfl
  · intro X C hQ
    rw [f_X4_series] at h
    refine g_aload_n C 0 rfl rfl dX4_series_0 ?_
    refine g_iload_n C 1 rfl rfl dX4_series_1 ?_
    obtain ⟨oc2, eoc2, fx3, fk4⟩ := tB_some h
    refine g_callVr (As := [.int p1]) (n9 := 1) (st := []) (w2 := fun g1 => (wB E a ++ (wX2 E a 2 lt ls lw lh lx ++ (wX1 E a (18 + 10 * k) nu z q u t c ++ wA E a)))) C (c_X4_houseAt E a p1 oc2 eoc2) gX4_series_X4_houseAt rfl (by decide +kernel) rfl ⟨by decide, by decide, by decide, by decide, Nat.le_of_ble_eq_true rfl⟩ 0 rfl rfl (gSub.idx [0, 22] rfl rfl) (fun _ => rfl) dX4_series_2 (fun x9 h9 => ⟨hQ, by rw [fx3 x9 h9]; rfl, rfl, (fun _ h => h), by decide, by decide⟩) (fun g1 h9oc2 => ?_)
    replace h := fk4 g1 h9oc2
    obtain rfl : k = g1 := khyp eoc2 h9oc2 hk
    refine g_astore C (lv2 := [(7, .ref (a (18 + 10 * k))), (0, .ref (a 0)), (1, .int p1), (2, .int p2), (3, .int p3), (4, .int p4), (5, .int p5), (6, .int p6)]) rfl (by decide) dX4_series_5 ?_
    refine g_iload_n C 3 rfl rfl dX4_series_7 ?_
    obtain ⟨g5, eg5, h⟩ := Option.bind_eq_some_iff.mp h
    refine g_cSr (As := [.int p2]) (n9 := 1) (st := []) (w2 := (wB E a ++ (wX2 E a 2 lt ls lw lh lx ++ (wX1 E a (18 + 10 * k) nu z q u t c ++ wA E a)))) C (c_X4_isTime E p2 g5 eg5) gX4_series_X4_isTime rfl (by decide +kernel) rfl ⟨by decide, by decide, by decide, by decide, Nat.le_of_ble_eq_true rfl⟩ (gSub.idx [] rfl rfl) rfl dX4_series_8 ?_
    refine g_if_eq C (tgt := 66) dX4_series_11 (by decide) (fun cd6 => ?_) (fun cd6 => ?_)
    · replace h := (if_pos cd6).symm.trans h
      obtain rfl := Option.some.inj h
      exact g_throwS C hQ rfl rfl tf_X4_series_46 (text := "step, many, span, weight or a time is out of range") (is9 := 65) (by decide +kernel) ⟨by decide, Nat.le_of_ble_eq_true rfl, by decide, by decide, by decide, by decide⟩ dX4_series_66 dX4_series_69 dX4_series_70 dX4_series_72 dX4_series_75
    · replace h := (if_neg cd6).symm.trans h
      refine g_iload_n C 4 rfl rfl dX4_series_14 ?_
      refine g_iconst C (v := 0) (by decide) dX4_series_15 ?_
      refine g_sipush C (v := 500) (by decide) dX4_series_16 ?_
      obtain ⟨g7, eg7, h⟩ := Option.bind_eq_some_iff.mp h
      refine g_cSr (As := [.int p3, .int 0, .int 500]) (n9 := 3) (st := []) (w2 := (wB E a ++ (wX2 E a 2 lt ls lw lh lx ++ (wX1 E a (18 + 10 * k) nu z q u t c ++ wA E a)))) C (c_X4_isIn E p3 0 500 g7 eg7) gX4_series_X4_isIn rfl (by decide +kernel) rfl ⟨by decide, by decide, by decide, by decide, Nat.le_of_ble_eq_true rfl⟩ (gSub.idx [] rfl rfl) rfl dX4_series_19 ?_
      refine g_if_eq C (tgt := 66) dX4_series_22 (by decide) (fun cd8 => ?_) (fun cd8 => ?_)
      · replace h := (if_pos cd8).symm.trans h
        obtain rfl := Option.some.inj h
        exact g_throwS C hQ rfl rfl tf_X4_series_46 (text := "step, many, span, weight or a time is out of range") (is9 := 65) (by decide +kernel) ⟨by decide, Nat.le_of_ble_eq_true rfl, by decide, by decide, by decide, by decide⟩ dX4_series_66 dX4_series_69 dX4_series_70 dX4_series_72 dX4_series_75
      · replace h := (if_neg cd8).symm.trans h
        refine g_iload C 5 rfl dX4_series_25 ?_
        refine g_iconst C (v := 1) (by decide) dX4_series_27 ?_
        refine g_bipush C (v := 12) (by decide) dX4_series_28 ?_
        obtain ⟨g9, eg9, h⟩ := Option.bind_eq_some_iff.mp h
        refine g_cSr (As := [.int p4, .int 1, .int 12]) (n9 := 3) (st := []) (w2 := (wB E a ++ (wX2 E a 2 lt ls lw lh lx ++ (wX1 E a (18 + 10 * k) nu z q u t c ++ wA E a)))) C (c_X4_isIn E p4 1 12 g9 eg9) gX4_series_X4_isIn rfl (by decide +kernel) rfl ⟨by decide, by decide, by decide, by decide, Nat.le_of_ble_eq_true rfl⟩ (gSub.idx [] rfl rfl) rfl dX4_series_30 ?_
        refine g_if_eq C (tgt := 66) dX4_series_33 (by decide) (fun cd10 => ?_) (fun cd10 => ?_)
        · replace h := (if_pos cd10).symm.trans h
          obtain rfl := Option.some.inj h
          exact g_throwS C hQ rfl rfl tf_X4_series_46 (text := "step, many, span, weight or a time is out of range") (is9 := 65) (by decide +kernel) ⟨by decide, Nat.le_of_ble_eq_true rfl, by decide, by decide, by decide, by decide⟩ dX4_series_66 dX4_series_69 dX4_series_70 dX4_series_72 dX4_series_75
        · replace h := (if_neg cd10).symm.trans h
          refine g_iload C 6 rfl dX4_series_36 ?_
          obtain ⟨g11, eg11, h⟩ := Option.bind_eq_some_iff.mp h
          refine g_cSr (As := [.int p5]) (n9 := 1) (st := []) (w2 := (wB E a ++ (wX2 E a 2 lt ls lw lh lx ++ (wX1 E a (18 + 10 * k) nu z q u t c ++ wA E a)))) C (c_X4_isSpan E p5 g11 eg11) gX4_series_X4_isSpan rfl (by decide +kernel) rfl ⟨by decide, by decide, by decide, by decide, Nat.le_of_ble_eq_true rfl⟩ (gSub.idx [] rfl rfl) rfl dX4_series_38 ?_
          refine g_if_eq C (tgt := 66) dX4_series_41 (by decide) (fun cd12 => ?_) (fun cd12 => ?_)
          · replace h := (if_pos cd12).symm.trans h
            obtain rfl := Option.some.inj h
            exact g_throwS C hQ rfl rfl tf_X4_series_46 (text := "step, many, span, weight or a time is out of range") (is9 := 65) (by decide +kernel) ⟨by decide, Nat.le_of_ble_eq_true rfl, by decide, by decide, by decide, by decide⟩ dX4_series_66 dX4_series_69 dX4_series_70 dX4_series_72 dX4_series_75
          · replace h := (if_neg cd12).symm.trans h
            refine g_iload C 7 rfl dX4_series_44 ?_
            obtain ⟨g13, eg13, h⟩ := Option.bind_eq_some_iff.mp h
            refine g_cSr (As := [.int p6]) (n9 := 1) (st := []) (w2 := (wB E a ++ (wX2 E a 2 lt ls lw lh lx ++ (wX1 E a (18 + 10 * k) nu z q u t c ++ wA E a)))) C (c_X4_isWeight E p6 g13 eg13) gX4_series_X4_isWeight rfl (by decide +kernel) rfl ⟨by decide, by decide, by decide, by decide, Nat.le_of_ble_eq_true rfl⟩ (gSub.idx [] rfl rfl) rfl dX4_series_46 ?_
            refine g_if_eq C (tgt := 66) dX4_series_49 (by decide) (fun cd14 => ?_) (fun cd14 => ?_)
            · replace h := (if_pos cd14).symm.trans h
              obtain rfl := Option.some.inj h
              exact g_throwS C hQ rfl rfl tf_X4_series_46 (text := "step, many, span, weight or a time is out of range") (is9 := 65) (by decide +kernel) ⟨by decide, Nat.le_of_ble_eq_true rfl, by decide, by decide, by decide, by decide⟩ dX4_series_66 dX4_series_69 dX4_series_70 dX4_series_72 dX4_series_75
            · replace h := (if_neg cd14).symm.trans h
              refine g_iload_n C 3 rfl rfl dX4_series_52 ?_
              refine g_iload_n C 4 rfl rfl dX4_series_53 ?_
              refine g_iload C 5 rfl dX4_series_54 ?_
              refine g_iconst C (v := 1) (by decide) dX4_series_56 ?_
              refine g_isub C dX4_series_57 ?_
              refine g_imul C dX4_series_58 ?_
              refine g_iadd C dX4_series_59 ?_
              obtain ⟨g15, eg15, h⟩ := Option.bind_eq_some_iff.mp h
              refine g_cSr (As := [.int (p2 + (p3 * (p4 - 1)))]) (n9 := 1) (st := []) (w2 := (wB E a ++ (wX2 E a 2 lt ls lw lh lx ++ (wX1 E a (18 + 10 * k) nu z q u t c ++ wA E a)))) C (c_X4_isTime E (p2 + (p3 * (p4 - 1))) g15 eg15) gX4_series_X4_isTime rfl (by decide +kernel) rfl ⟨by decide, by decide, by decide, by decide, Nat.le_of_ble_eq_true rfl⟩ (gSub.idx [] rfl rfl) rfl dX4_series_60 ?_
              refine g_if_ne C (tgt := 76) dX4_series_63 (by decide) (fun cd16 => ?_) (fun cd16 => ?_)
              · replace h := (if_neg cd16).symm.trans h
                refine g_aload_n C 1 rfl rfl dX4_series_76 ?_
                refine g_aload C 0 rfl dX4_series_77 ?_
                refine g_iload_n C 3 rfl rfl dX4_series_79 ?_
                refine g_iload C 5 rfl dX4_series_80 ?_
                obtain ⟨oc18, eoc18, fx19, fk20⟩ := tB_some h
                refine g_callVv (As := [.ref (a (18 + 10 * k)), .int p2, .int p4]) (n9 := 3) (st := []) (w2 := fun g17 => (wB E a ++ (wX2 E a 2 lt ls lw lh lx ++ (wX1 E a (18 + 10 * k) nu z q u t c ++ wA E a)))) C (c_X4_refuseIfNoRoom E a (18 + 10 * k) lt ls lw lh lx nu z q u t c p2 p4 oc18 eoc18) gX4_series_X4_refuseIfNoRoom rfl (by decide +kernel) rfl ⟨by decide, by decide, by decide, by decide, Nat.le_of_ble_eq_true rfl⟩ 0 rfl rfl (gSub.pre (S := (wA E a)) (by simp only [List.append_assoc])) (fun _ => (by simp only [List.append_assoc])) dX4_series_82 (fun x9 h9 => ⟨hQ, by rw [fx19 x9 h9]; rfl, rfl, (fun _ h => h), by decide, by decide⟩) (fun g17 h9oc18 => ?_)
                replace h := fk20 g17 h9oc18
                refine g_aload_n C 1 rfl rfl dX4_series_85 ?_
                refine g_X4_ledger C i_X4_series_X4 m_X4_series_1 0 rfl dX4_series_86 ?_
                refine g_perm (ws2 := (wX2 E a 2 lt ls lw lh lx ++ (wB E a ++ (wX1 E a (18 + 10 * k) nu z q u t c ++ wA E a)))) (List.perm_append_comm_assoc _ _ _) ?_
                obtain ⟨g21, eg21, h⟩ := Option.bind_eq_some_iff.mp h
                refine g_cVr (As := []) (n9 := 0) (st := []) (w2 := (wX2 E a 2 lt ls lw lh lx ++ (wB E a ++ (wX1 E a (18 + 10 * k) nu z q u t c ++ wA E a)))) C (c_X2_size E a 2 lt ls lw lh lx g21 eg21) gX4_series_X2_size rfl (by decide +kernel) rfl ⟨by decide, by decide, by decide, by decide, Nat.le_of_ble_eq_true rfl⟩ 0 rfl rfl (gSub.pre (S := (wB E a ++ (wX1 E a (18 + 10 * k) nu z q u t c ++ wA E a))) rfl) rfl dX4_series_89 ?_
                refine g_perm (ws2 := (wB E a ++ (wX2 E a 2 lt ls lw lh lx ++ (wX1 E a (18 + 10 * k) nu z q u t c ++ wA E a)))) (List.perm_append_comm_assoc _ _ _) ?_
                refine g_istore C (lv2 := [(8, .int g21), (7, .ref (a (18 + 10 * k))), (0, .ref (a 0)), (1, .int p1), (2, .int p2), (3, .int p3), (4, .int p4), (5, .int p5), (6, .int p6)]) rfl (by decide) dX4_series_92 ?_
                refine g_iconst C (v := 0) (by decide) dX4_series_94 ?_
                refine g_istore C (lv2 := [(9, .int 0), (8, .int g21), (7, .ref (a (18 + 10 * k))), (0, .ref (a 0)), (1, .int p1), (2, .int p2), (3, .int p3), (4, .int p4), (5, .int p5), (6, .int p6)]) rfl (by decide) dX4_series_95 ?_
                refine g_lv [3, 5, 6, 7, 8, 9, 2, 1, 0] (lv2 := [(0, .ref (a 0)), (2, .int p2), (3, .int p3), (4, .int p4), (5, .int p5), (6, .int p6), (7, .ref (a (18 + 10 * k))), (8, .int g21), (9, .int 0)]) rfl ?_
                exact w_X4_series_97 (v2 := p2) (v3 := p3) (v4 := p4) (v5 := p5) (v6 := p6) (v8 := g21) hk C hQ FU 0 lt ls lw lh lx q h
              · replace h := (if_pos cd16).symm.trans h
                obtain rfl := Option.some.inj h
                exact g_throwS C hQ rfl rfl tf_X4_series_46 (text := "step, many, span, weight or a time is out of range") (is9 := 65) (by decide +kernel) ⟨by decide, Nat.le_of_ble_eq_true rfl, by decide, by decide, by decide, by decide⟩ dX4_series_66 dX4_series_69 dX4_series_70 dX4_series_72 dX4_series_75
abbrev r_X4_series_bad : Room := { frames := 9, cells := 2, slots := 12, locals := 151 }
set_option maxHeartbeats 4000000 in
set_option maxRecDepth 100000 in
theorem c_X4_series_bad (E : gE) (a : Nat → Nat) (p1 : Int32) (p2 : Int32) (p3 : Int32) (p4 : Int32) (p5 : Int32) (p6 : Int32) (hbad : ∀ {x : Nat}, f_X4_houseAt p1 = some (.inr x) → False) (o : (String ⊕ (Int32))) (h : f_X4_series_bad p1 = some o) : Ct E yX4_series wsX4_series r_X4_series_bad [.ref (a 0), .int p1, .int p2, .int p3, .int p4, .int p5, .int p6] (wB E a ++ wA E a) (gO (fun u9 => some (.int u9)) (fun u9 => (wB E a ++ wA E a)) o) := by
  refine Ct.of (cc := cX4_series) (nL := 10) (ret := ((some .int))) (own := RX4) (by decide) rfl rfl (Nat.le_of_ble_eq_true rfl) rfl ?_ ?_
  · intro v w1 hh
    cases o <;> cases hh <;> rfl
  · intro X C hQ
    rw [f_X4_series_bad] at h
    refine g_aload_n C 0 rfl rfl dX4_series_0 ?_
    refine g_iload_n C 1 rfl rfl dX4_series_1 ?_
    obtain ⟨oc2, eoc2, fx3, fk4⟩ := tB_some h
    refine g_callVr (As := [.int p1]) (n9 := 1) (st := []) (w2 := fun g1 => (wB E a ++ wA E a)) C (c_X4_houseAt E a p1 oc2 eoc2) gX4_series_X4_houseAt rfl (by decide +kernel) rfl ⟨by decide, by decide, by decide, by decide, Nat.le_of_ble_eq_true rfl⟩ 0 rfl rfl (gSub.idx [0, 1] rfl rfl) (fun _ => rfl) dX4_series_2 (fun x9 h9 => ⟨hQ, by rw [fx3 x9 h9]; rfl, rfl, (fun _ h => h), by decide, by decide⟩) (fun g1 h9oc2 => ?_)
    replace h := fk4 g1 h9oc2
    exact (hbad (eoc2.trans (congrArg some h9oc2))).elim
abbrev r_X4_callOff : Room := { frames := 9, cells := 1, slots := 6, locals := 141 }
theorem i_X4_callOff_X1 : ∀ w ∈ wsX10, w ∈ wsX4_callOff := by decide +kernel
set_option maxHeartbeats 4000000 in
set_option maxRecDepth 100000 in
theorem c_X4_callOff (E : gE) (a : Nat → Nat) (k : Nat) (lt : RS) (ls : RS) (lw : RS) (lh : RS) (lx : RS) (nu : Int32) (z : Int32) (q : RS) (u : RS) (t : RS) (c : RS) (p1 : Int32) (p2 : Int32) (hk : f_X4_houseAt p1 = some (.inr k)) (o : (String ⊕ (Bool × RS × RS))) (h : f_X4_callOff lx q p1 p2 = some o) : Ct E yX4_callOff wsX4_callOff r_X4_callOff [.ref (a 0), .int p1, .int p2] (wB E a ++ (wX2 E a 2 lt ls lw lh lx ++ (wX1 E a (18 + 10 * k) nu z q u t c ++ wA E a))) (gO (fun u9 => some (.int (bI u9.1))) (fun u9 => (wB E a ++ (wX2 E a 2 lt ls lw lh u9.2.1 ++ (wX1 E a (18 + 10 * k) nu z u9.2.2 u t c ++ wA E a)))) o) := by
  refine Ct.of (cc := cX4_callOff) (nL := 5) (ret := ((some .boolean))) (own := RX4) (by decide) rfl rfl (Nat.le_of_ble_eq_true rfl) rfl ?_ ?_
  · intro v w1 hh
    cases o <;> cases hh <;> rfl
  · intro X C hQ
    rw [f_X4_callOff] at h
    refine g_aload_n C 0 rfl rfl dX4_callOff_0 ?_
    refine g_iload_n C 1 rfl rfl dX4_callOff_1 ?_
    obtain ⟨oc2, eoc2, fx3, fk4⟩ := tB_some h
    refine g_callVr (As := [.int p1]) (n9 := 1) (st := []) (w2 := fun g1 => (wB E a ++ (wX2 E a 2 lt ls lw lh lx ++ (wX1 E a (18 + 10 * k) nu z q u t c ++ wA E a)))) C (c_X4_houseAt E a p1 oc2 eoc2) gX4_callOff_X4_houseAt rfl (by decide +kernel) rfl ⟨by decide, by decide, by decide, by decide, Nat.le_of_ble_eq_true rfl⟩ 0 rfl rfl (gSub.idx [0, 22] rfl rfl) (fun _ => rfl) dX4_callOff_2 (fun x9 h9 => ⟨hQ, by rw [fx3 x9 h9]; rfl, rfl, (fun _ h => h), by decide, by decide⟩) (fun g1 h9oc2 => ?_)
    replace h := fk4 g1 h9oc2
    obtain rfl : k = g1 := khyp eoc2 h9oc2 hk
    refine g_astore_n C (lv2 := [(3, .ref (a (18 + 10 * k))), (0, .ref (a 0)), (1, .int p1), (2, .int p2)]) rfl (by decide) rfl dX4_callOff_5 ?_
    refine g_aload_n C 0 rfl rfl dX4_callOff_6 ?_
    refine g_X1_queueN C i_X4_callOff_X1 (by decide +kernel) 12 rfl dX4_callOff_7 ?_
    refine g_iload_n C 3 rfl rfl dX4_callOff_10 ?_
    obtain ⟨g5, eg5, h⟩ := Option.bind_eq_some_iff.mp h
    refine g_cVr (As := [.int p2]) (n9 := 1) (st := []) (w2 := (wB E a ++ (wX2 E a 2 lt ls lw lh lx ++ (wX1 E a (18 + 10 * k) nu z q u t c ++ wA E a)))) C (c_X3_placeOf E (a (18 + 10 * k + 1)) (a (18 + 10 * k + 2)) 48 q p2 g5 eg5) gX4_callOff_X3_placeOf rfl (by decide +kernel) rfl ⟨by decide, by decide, by decide, by decide, Nat.le_of_ble_eq_true rfl⟩ 0 rfl rfl (gSub.idx [13, 14] rfl rfl) rfl dX4_callOff_11 ?_
    refine g_istore C (lv2 := [(4, .int g5), (3, .ref (a (18 + 10 * k))), (0, .ref (a 0)), (1, .int p1), (2, .int p2)]) rfl (by decide) dX4_callOff_14 ?_
    refine g_iload C 0 rfl dX4_callOff_16 ?_
    refine g_if_ge C (tgt := 23) dX4_callOff_18 (by decide) (fun cd6 => ?_) (fun cd6 => ?_)
    · replace h := (if_pos cd6).symm.trans h
      refine g_aload_n C 2 rfl rfl dX4_callOff_23 ?_
      refine g_aload_n C 1 rfl rfl dX4_callOff_24 ?_
      refine g_iload C 0 rfl dX4_callOff_25 ?_
      obtain ⟨g7, eg7, h⟩ := Option.bind_eq_some_iff.mp h
      refine g_cVv (As := [.ref (a (18 + 10 * k)), .int g5]) (n9 := 2) (st := []) (w2 := (wB E a ++ (wX2 E a 2 lt ls lw lh g7.1 ++ (wX1 E a (18 + 10 * k) nu z g7.2 u t c ++ wA E a)))) C (c_X4_callOffPlace E a (18 + 10 * k) lt ls lw lh lx nu z q u t c g5 g7 eg7) gX4_callOff_X4_callOffPlace rfl (by decide +kernel) rfl ⟨by decide, by decide, by decide, by decide, Nat.le_of_ble_eq_true rfl⟩ 0 rfl rfl (gSub.pre (S := (wA E a)) (by simp only [List.append_assoc])) (by simp only [List.append_assoc]) dX4_callOff_27 ?_
      refine g_iconst C (v := 1) (by decide) dX4_callOff_30 ?_
      obtain rfl := Option.some.inj h
      exact g_zret C hQ rfl rfl ⟨by decide, by decide⟩ dX4_callOff_31
    · replace h := (if_neg cd6).symm.trans h
      refine g_iconst C (v := 0) (by decide) dX4_callOff_21 ?_
      obtain rfl := Option.some.inj h
      exact g_zret C hQ rfl rfl ⟨by decide, by decide⟩ dX4_callOff_22
abbrev r_X4_callOff_bad : Room := { frames := 9, cells := 1, slots := 6, locals := 141 }
set_option maxHeartbeats 4000000 in
set_option maxRecDepth 100000 in
theorem c_X4_callOff_bad (E : gE) (a : Nat → Nat) (p1 : Int32) (p2 : Int32) (hbad : ∀ {x : Nat}, f_X4_houseAt p1 = some (.inr x) → False) (o : (String ⊕ (Bool))) (h : f_X4_callOff_bad p1 = some o) : Ct E yX4_callOff wsX4_callOff r_X4_callOff_bad [.ref (a 0), .int p1, .int p2] (wB E a ++ wA E a) (gO (fun u9 => some (.int (bI u9))) (fun u9 => (wB E a ++ wA E a)) o) := by
  refine Ct.of (cc := cX4_callOff) (nL := 5) (ret := ((some .boolean))) (own := RX4) (by decide) rfl rfl (Nat.le_of_ble_eq_true rfl) rfl ?_ ?_
  · intro v w1 hh
    cases o <;> cases hh <;> rfl
  · intro X C hQ
    rw [f_X4_callOff_bad] at h
    refine g_aload_n C 0 rfl rfl dX4_callOff_0 ?_
    refine g_iload_n C 1 rfl rfl dX4_callOff_1 ?_
    obtain ⟨oc2, eoc2, fx3, fk4⟩ := tB_some h
    refine g_callVr (As := [.int p1]) (n9 := 1) (st := []) (w2 := fun g1 => (wB E a ++ wA E a)) C (c_X4_houseAt E a p1 oc2 eoc2) gX4_callOff_X4_houseAt rfl (by decide +kernel) rfl ⟨by decide, by decide, by decide, by decide, Nat.le_of_ble_eq_true rfl⟩ 0 rfl rfl (gSub.idx [0, 1] rfl rfl) (fun _ => rfl) dX4_callOff_2 (fun x9 h9 => ⟨hQ, by rw [fx3 x9 h9]; rfl, rfl, (fun _ h => h), by decide, by decide⟩) (fun g1 h9oc2 => ?_)
    replace h := fk4 g1 h9oc2
    exact (hbad (eoc2.trans (congrArg some h9oc2))).elim
abbrev r_X4_callOffAll : Room := { frames := 9, cells := 2, slots := 12, locals := 141 }
set_option maxHeartbeats 4000000 in
set_option maxRecDepth 100000 in
theorem w_X4_callOffAll_36 {E : gE} {X : gX} {a : Nat → Nat} {k : Nat} {lt : RS} {ls : RS} {lw : RS} {lh : RS} {lx : RS} {nu : Int32} {z : Int32} {q : RS} {u : RS} {t : RS} {c : RS} {p1 : Int32} {v5 : Int32} {v6 : Int32} {o : (String ⊕ (Int32 × RS × RS))} (hk : f_X4_houseAt p1 = some (.inr k)) (C : Cx E X cX4_callOffAll 8 RX4 wsX4_callOffAll r_X4_callOffAll ((some .int)) []) (hQ : gQ E X (wB E a ++ (wX2 E a 2 lt ls lw lh lx ++ (wX1 E a (18 + 10 * k) nu z q u t c ++ wA E a))) r_X4_callOffAll (gO (fun u9 => some (.int u9.1)) (fun u9 => (wB E a ++ (wX2 E a 2 lt ls lw lh u9.2.1 ++ (wX1 E a (18 + 10 * k) nu z u9.2.2 u t c ++ wA E a)))) o)) : ∀ (F : Nat) (v7 : Int32) (lxc : RS) (qc : RS), l_X4_callOffAll_36 v5 v6 F v7 lxc qc = some o → Gx E X (wB E a ++ (wX2 E a 2 lt ls lw lh lxc ++ (wX1 E a (18 + 10 * k) nu z qc u t c ++ wA E a))) 8 [(0, .ref (a 0)), (4, .ref (a (18 + 10 * k))), (5, .int v5), (6, .int v6), (7, .int v7)] [] 36 2 12 := by
  intro F
  induction F with
  | zero => intro v7 lxc qc h; exact absurd h (by simp [l_X4_callOffAll_36])
  | succ F ih =>
    intro v7 lxc qc h
    rw [l_X4_callOffAll_36] at h
    refine g_iload C 4 rfl dX4_callOffAll_36 ?_
    refine g_iload C 3 rfl dX4_callOffAll_38 ?_
    refine g_icmp_ge C (tgt := 57) dX4_callOffAll_40 (by decide) (fun cd1 => ?_) (fun cd1 => ?_)
    · replace h := (if_pos cd1).symm.trans h
      refine g_iload C 3 rfl dX4_callOffAll_57 ?_
      obtain rfl := Option.some.inj h
      exact g_iret C hQ rfl ⟨by decide, by decide⟩ dX4_callOffAll_59
    · replace h := (if_neg cd1).symm.trans h
      refine g_aload_n C 0 rfl rfl dX4_callOffAll_43 ?_
      refine g_aload C 1 rfl dX4_callOffAll_44 ?_
      refine g_iload C 2 rfl dX4_callOffAll_46 ?_
      obtain ⟨g2, eg2, h⟩ := Option.bind_eq_some_iff.mp h
      refine g_cVv (As := [.ref (a (18 + 10 * k)), .int v5]) (n9 := 2) (st := []) (w2 := (wB E a ++ (wX2 E a 2 lt ls lw lh g2.1 ++ (wX1 E a (18 + 10 * k) nu z g2.2 u t c ++ wA E a)))) C (c_X4_callOffPlace E a (18 + 10 * k) lt ls lw lh lxc nu z qc u t c v5 g2 eg2) gX4_callOffAll_X4_callOffPlace rfl (by decide +kernel) rfl ⟨by decide, by decide, by decide, by decide, Nat.le_of_ble_eq_true rfl⟩ 0 rfl rfl (gSub.pre (S := (wA E a)) (by simp only [List.append_assoc])) (by simp only [List.append_assoc]) dX4_callOffAll_48 ?_
      refine g_iinc C (v := v7 + 1) 4 rfl rfl (lv2 := [(7, .int (v7 + 1)), (0, .ref (a 0)), (4, .ref (a (18 + 10 * k))), (5, .int v5), (6, .int v6)]) rfl (by decide) dX4_callOffAll_51 ?_
      refine g_goto C (tgt := 36) dX4_callOffAll_54 (by decide) ?_
      refine g_lv [1, 2, 3, 4, 0] (lv2 := [(0, .ref (a 0)), (4, .ref (a (18 + 10 * k))), (5, .int v5), (6, .int v6), (7, .int (v7 + 1))]) rfl ?_
      exact ih (v7 + 1) g2.1 g2.2 h
set_option maxHeartbeats 4000000 in
set_option maxRecDepth 100000 in
theorem c_X4_callOffAll (E : gE) (a : Nat → Nat) (k : Nat) (lt : RS) (ls : RS) (lw : RS) (lh : RS) (lx : RS) (nu : Int32) (z : Int32) (q : RS) (u : RS) (t : RS) (c : RS) (p1 : Int32) (p2 : Int32) (p3 : Int32) (hk : f_X4_houseAt p1 = some (.inr k)) (o : (String ⊕ (Int32 × RS × RS))) (h : f_X4_callOffAll lt lx q p1 p2 p3 = some o) : Ct E yX4_callOffAll wsX4_callOffAll r_X4_callOffAll [.ref (a 0), .int p1, .int p2, .int p3] (wB E a ++ (wX2 E a 2 lt ls lw lh lx ++ (wX1 E a (18 + 10 * k) nu z q u t c ++ wA E a))) (gO (fun u9 => some (.int u9.1)) (fun u9 => (wB E a ++ (wX2 E a 2 lt ls lw lh u9.2.1 ++ (wX1 E a (18 + 10 * k) nu z u9.2.2 u t c ++ wA E a)))) o) := by
  refine Ct.of (cc := cX4_callOffAll) (nL := 8) (ret := ((some .int))) (own := RX4) (by decide) rfl rfl (Nat.le_of_ble_eq_true rfl) rfl ?_ ?_
  · intro v w1 hh
    cases o <;> cases hh <;> rfl
  · intro X C hQ
    rw [f_X4_callOffAll] at h
    refine g_aload_n C 0 rfl rfl dX4_callOffAll_0 ?_
    refine g_iload_n C 1 rfl rfl dX4_callOffAll_1 ?_
    obtain ⟨oc2, eoc2, fx3, fk4⟩ := tB_some h
    refine g_callVr (As := [.int p1]) (n9 := 1) (st := []) (w2 := fun g1 => (wB E a ++ (wX2 E a 2 lt ls lw lh lx ++ (wX1 E a (18 + 10 * k) nu z q u t c ++ wA E a)))) C (c_X4_houseAt E a p1 oc2 eoc2) gX4_callOffAll_X4_houseAt rfl (by decide +kernel) rfl ⟨by decide, by decide, by decide, by decide, Nat.le_of_ble_eq_true rfl⟩ 0 rfl rfl (gSub.idx [0, 22] rfl rfl) (fun _ => rfl) dX4_callOffAll_2 (fun x9 h9 => ⟨hQ, by rw [fx3 x9 h9]; rfl, rfl, (fun _ h => h), by decide, by decide⟩) (fun g1 h9oc2 => ?_)
    replace h := fk4 g1 h9oc2
    obtain rfl : k = g1 := khyp eoc2 h9oc2 hk
    refine g_astore C (lv2 := [(4, .ref (a (18 + 10 * k))), (0, .ref (a 0)), (1, .int p1), (2, .int p2), (3, .int p3)]) rfl (by decide) dX4_callOffAll_5 ?_
    refine g_iload_n C 3 rfl rfl dX4_callOffAll_7 ?_
    refine g_iload_n C 4 rfl rfl dX4_callOffAll_8 ?_
    obtain ⟨oc6, eoc6, fx7, fk8⟩ := tB_some h
    refine g_callSv (As := [.int p2, .int p3]) (n9 := 2) (st := []) (w2 := fun g5 => (wB E a ++ (wX2 E a 2 lt ls lw lh lx ++ (wX1 E a (18 + 10 * k) nu z q u t c ++ wA E a)))) C (c_X4_refuseIfTurned E p2 p3 oc6 eoc6) gX4_callOffAll_X4_refuseIfTurned rfl (by decide +kernel) rfl ⟨by decide, by decide, by decide, by decide, Nat.le_of_ble_eq_true rfl⟩ (gSub.idx [] rfl rfl) (fun _ => rfl) dX4_callOffAll_9 (fun x9 h9 => ⟨hQ, by rw [fx7 x9 h9]; rfl, rfl, (fun _ h => h), by decide, by decide⟩) (fun g5 h9oc6 => ?_)
    replace h := fk8 g5 h9oc6
    refine g_aload_n C 1 rfl rfl dX4_callOffAll_12 ?_
    refine g_aload C 0 rfl dX4_callOffAll_13 ?_
    refine g_iload_n C 3 rfl rfl dX4_callOffAll_15 ?_
    obtain ⟨g9, eg9, h⟩ := Option.bind_eq_some_iff.mp h
    refine g_cVr (As := [.ref (a (18 + 10 * k)), .int p2]) (n9 := 2) (st := []) (w2 := (wB E a ++ (wX2 E a 2 lt ls lw lh lx ++ (wX1 E a (18 + 10 * k) nu z q u t c ++ wA E a)))) C (c_X4_waitingAheadOf E a (18 + 10 * k) lt ls lw lh lx nu z q u t c p2 g9 eg9) gX4_callOffAll_X4_waitingAheadOf rfl (by decide +kernel) rfl ⟨by decide, by decide, by decide, by decide, Nat.le_of_ble_eq_true rfl⟩ 0 rfl rfl (gSub.pre (S := (wA E a)) (by simp only [List.append_assoc])) (by simp only [List.append_assoc]) dX4_callOffAll_16 ?_
    refine g_istore C (lv2 := [(5, .int g9), (4, .ref (a (18 + 10 * k))), (0, .ref (a 0)), (1, .int p1), (2, .int p2), (3, .int p3)]) rfl (by decide) dX4_callOffAll_19 ?_
    refine g_aload_n C 2 rfl rfl dX4_callOffAll_21 ?_
    refine g_aload C 1 rfl dX4_callOffAll_22 ?_
    refine g_iload_n C 5 rfl rfl dX4_callOffAll_24 ?_
    obtain ⟨g10, eg10, h⟩ := Option.bind_eq_some_iff.mp h
    refine g_cVr (As := [.ref (a (18 + 10 * k)), .int p3]) (n9 := 2) (st := []) (w2 := (wB E a ++ (wX2 E a 2 lt ls lw lh lx ++ (wX1 E a (18 + 10 * k) nu z q u t c ++ wA E a)))) C (c_X4_waitingAheadOf E a (18 + 10 * k) lt ls lw lh lx nu z q u t c p3 g10 eg10) gX4_callOffAll_X4_waitingAheadOf rfl (by decide +kernel) rfl ⟨by decide, by decide, by decide, by decide, Nat.le_of_ble_eq_true rfl⟩ 0 rfl rfl (gSub.pre (S := (wA E a)) (by simp only [List.append_assoc])) (by simp only [List.append_assoc]) dX4_callOffAll_25 ?_
    refine g_iload C 0 rfl dX4_callOffAll_28 ?_
    refine g_isub C dX4_callOffAll_30 ?_
    refine g_istore C (lv2 := [(6, .int (g10 - g9)), (5, .int g9), (4, .ref (a (18 + 10 * k))), (0, .ref (a 0)), (1, .int p1), (2, .int p2), (3, .int p3)]) rfl (by decide) dX4_callOffAll_31 ?_
    refine g_iconst C (v := 0) (by decide) dX4_callOffAll_33 ?_
    refine g_istore C (lv2 := [(7, .int 0), (6, .int (g10 - g9)), (5, .int g9), (4, .ref (a (18 + 10 * k))), (0, .ref (a 0)), (1, .int p1), (2, .int p2), (3, .int p3)]) rfl (by decide) dX4_callOffAll_34 ?_
    refine g_lv [4, 3, 2, 1, 0] (lv2 := [(0, .ref (a 0)), (4, .ref (a (18 + 10 * k))), (5, .int g9), (6, .int (g10 - g9)), (7, .int 0)]) rfl ?_
    exact w_X4_callOffAll_36 (v5 := g9) (v6 := (g10 - g9)) hk C hQ FU 0 lx q h
abbrev r_X4_callOffAll_bad : Room := { frames := 9, cells := 2, slots := 12, locals := 141 }
set_option maxHeartbeats 4000000 in
set_option maxRecDepth 100000 in
theorem c_X4_callOffAll_bad (E : gE) (a : Nat → Nat) (p1 : Int32) (p2 : Int32) (p3 : Int32) (hbad : ∀ {x : Nat}, f_X4_houseAt p1 = some (.inr x) → False) (o : (String ⊕ (Int32))) (h : f_X4_callOffAll_bad p1 = some o) : Ct E yX4_callOffAll wsX4_callOffAll r_X4_callOffAll_bad [.ref (a 0), .int p1, .int p2, .int p3] (wB E a ++ wA E a) (gO (fun u9 => some (.int u9)) (fun u9 => (wB E a ++ wA E a)) o) := by
  refine Ct.of (cc := cX4_callOffAll) (nL := 8) (ret := ((some .int))) (own := RX4) (by decide) rfl rfl (Nat.le_of_ble_eq_true rfl) rfl ?_ ?_
  · intro v w1 hh
    cases o <;> cases hh <;> rfl
  · intro X C hQ
    rw [f_X4_callOffAll_bad] at h
    refine g_aload_n C 0 rfl rfl dX4_callOffAll_0 ?_
    refine g_iload_n C 1 rfl rfl dX4_callOffAll_1 ?_
    obtain ⟨oc2, eoc2, fx3, fk4⟩ := tB_some h
    refine g_callVr (As := [.int p1]) (n9 := 1) (st := []) (w2 := fun g1 => (wB E a ++ wA E a)) C (c_X4_houseAt E a p1 oc2 eoc2) gX4_callOffAll_X4_houseAt rfl (by decide +kernel) rfl ⟨by decide, by decide, by decide, by decide, Nat.le_of_ble_eq_true rfl⟩ 0 rfl rfl (gSub.idx [0, 1] rfl rfl) (fun _ => rfl) dX4_callOffAll_2 (fun x9 h9 => ⟨hQ, by rw [fx3 x9 h9]; rfl, rfl, (fun _ h => h), by decide, by decide⟩) (fun g1 h9oc2 => ?_)
    replace h := fk4 g1 h9oc2
    exact (hbad (eoc2.trans (congrArg some h9oc2))).elim
abbrev r_X4_put : Room := { frames := 9, cells := 3, slots := 18, locals := 141 }
theorem i_X4_put_X1 : ∀ w ∈ wsX10, w ∈ wsX4_put := by decide +kernel
theorem m_X4_put_1 : Cond.fieldLink RX4 10 "Bookinghouse" "ledger" "LBookinghouse$Ledger;" ∈ wsX4_put := by decide +kernel
theorem i_X4_put_X4 : ∀ w ∈ wsX40, w ∈ wsX4_put := by decide +kernel
theorem i_X4_put_X2 : ∀ w ∈ wsX20, w ∈ wsX4_put := by decide +kernel
theorem tf_X4_put_105 : gTh wsX4_put RX4 "java/lang/IllegalStateException" 105 109 := ⟨by decide +kernel, by decide +kernel, by decide +kernel, by decide +kernel, by decide +kernel, by decide +kernel⟩
theorem tf_X4_put_96 : gThN wsX4_put RX4 96 100 := ⟨by decide +kernel, by decide +kernel, by decide +kernel, by decide +kernel, by decide +kernel⟩
set_option maxHeartbeats 4000000 in
set_option maxRecDepth 100000 in
theorem c_X4_put (E : gE) (a : Nat → Nat) (k : Nat) (lt : RS) (ls : RS) (lw : RS) (lh : RS) (lx : RS) (nu : Int32) (z : Int32) (q : RS) (u : RS) (t : RS) (c : RS) (p1 : Int32) (p2 : Int32) (p3 : Int32) (hk : f_X4_houseAt p1 = some (.inr k)) (o : (String ⊕ (Int32 × RS × RS × RS × RS))) (h : f_X4_put lt lh lx nu z q p1 p2 p3 = some o) : Ct E yX4_put wsX4_put r_X4_put [.ref (a 0), .int p1, .int p2, .int p3] (wB E a ++ (wX2 E a 2 lt ls lw lh lx ++ (wX1 E a (18 + 10 * k) nu z q u t c ++ wA E a))) (gO (fun u9 => some (.int u9.1)) (fun u9 => (wB E a ++ (wX2 E a 2 u9.2.1 ls lw u9.2.2.1 u9.2.2.2.1 ++ (wX1 E a (18 + 10 * k) nu z u9.2.2.2.2 u t c ++ wA E a)))) o) := by
  refine Ct.of (cc := cX4_put) (nL := 7) (ret := ((some .int))) (own := RX4) (by decide) rfl rfl (Nat.le_of_ble_eq_true rfl) rfl ?_ ?_
  · intro v w1 hh
    cases o <;> cases hh <;> rfl
  · intro X C hQ
    rw [f_X4_put] at h
    refine g_aload_n C 0 rfl rfl dX4_put_0 ?_
    refine g_iload_n C 1 rfl rfl dX4_put_1 ?_
    obtain ⟨oc2, eoc2, fx3, fk4⟩ := tB_some h
    refine g_callVr (As := [.int p1]) (n9 := 1) (st := []) (w2 := fun g1 => (wB E a ++ (wX2 E a 2 lt ls lw lh lx ++ (wX1 E a (18 + 10 * k) nu z q u t c ++ wA E a)))) C (c_X4_houseAt E a p1 oc2 eoc2) gX4_put_X4_houseAt rfl (by decide +kernel) rfl ⟨by decide, by decide, by decide, by decide, Nat.le_of_ble_eq_true rfl⟩ 0 rfl rfl (gSub.idx [0, 22] rfl rfl) (fun _ => rfl) dX4_put_2 (fun x9 h9 => ⟨hQ, by rw [fx3 x9 h9]; rfl, rfl, (fun _ h => h), by decide, by decide⟩) (fun g1 h9oc2 => ?_)
    replace h := fk4 g1 h9oc2
    obtain rfl : k = g1 := khyp eoc2 h9oc2 hk
    refine g_astore C (lv2 := [(4, .ref (a (18 + 10 * k))), (0, .ref (a 0)), (1, .int p1), (2, .int p2), (3, .int p3)]) rfl (by decide) dX4_put_5 ?_
    refine g_iload_n C 4 rfl rfl dX4_put_7 ?_
    obtain ⟨oc6, eoc6, fx7, fk8⟩ := tB_some h
    refine g_callSv (As := [.int p3]) (n9 := 1) (st := []) (w2 := fun g5 => (wB E a ++ (wX2 E a 2 lt ls lw lh lx ++ (wX1 E a (18 + 10 * k) nu z q u t c ++ wA E a)))) C (c_X4_refuseIfNoTime E p3 oc6 eoc6) gX4_put_X4_refuseIfNoTime rfl (by decide +kernel) rfl ⟨by decide, by decide, by decide, by decide, Nat.le_of_ble_eq_true rfl⟩ (gSub.idx [] rfl rfl) (fun _ => rfl) dX4_put_8 (fun x9 h9 => ⟨hQ, by rw [fx7 x9 h9]; rfl, rfl, (fun _ h => h), by decide, by decide⟩) (fun g5 h9oc6 => ?_)
    replace h := fk8 g5 h9oc6
    refine g_aload C 0 rfl dX4_put_11 ?_
    refine g_X1_queueN C i_X4_put_X1 (by decide +kernel) 12 rfl dX4_put_13 ?_
    refine g_iload_n C 3 rfl rfl dX4_put_16 ?_
    obtain ⟨g9, eg9, h⟩ := Option.bind_eq_some_iff.mp h
    refine g_cVr (As := [.int p2]) (n9 := 1) (st := []) (w2 := (wB E a ++ (wX2 E a 2 lt ls lw lh lx ++ (wX1 E a (18 + 10 * k) nu z q u t c ++ wA E a)))) C (c_X3_placeOf E (a (18 + 10 * k + 1)) (a (18 + 10 * k + 2)) 48 q p2 g9 eg9) gX4_put_X3_placeOf rfl (by decide +kernel) rfl ⟨by decide, by decide, by decide, by decide, Nat.le_of_ble_eq_true rfl⟩ 0 rfl rfl (gSub.idx [13, 14] rfl rfl) rfl dX4_put_17 ?_
    refine g_istore C (lv2 := [(5, .int g9), (4, .ref (a (18 + 10 * k))), (0, .ref (a 0)), (1, .int p1), (2, .int p2), (3, .int p3)]) rfl (by decide) dX4_put_20 ?_
    refine g_iload C 0 rfl dX4_put_22 ?_
    refine g_if_ge C (tgt := 37) dX4_put_24 (by decide) (fun cd10 => ?_) (fun cd10 => ?_)
    · replace h := (if_pos cd10).symm.trans h
      refine g_iload_n C 5 rfl rfl dX4_put_37 ?_
      refine g_aload C 1 rfl dX4_put_38 ?_
      refine g_X1_nowN C i_X4_put_X1 (by decide +kernel) 12 rfl dX4_put_40 ?_
      refine g_icmp_ge C (tgt := 56) dX4_put_43 (by decide) (fun cd11 => ?_) (fun cd11 => ?_)
      · replace h := (if_pos cd11).symm.trans h
        refine g_aload_n C 2 rfl rfl dX4_put_56 ?_
        refine g_X4_ledger C i_X4_put_X4 m_X4_put_1 0 rfl dX4_put_57 ?_
        refine g_X2_timesN C i_X4_put_X2 (by decide +kernel) 1 rfl dX4_put_60 ?_
        refine g_iload_n C 4 rfl rfl dX4_put_63 ?_
        obtain ⟨g12, eg12, h⟩ := Option.bind_eq_some_iff.mp h
        refine g_cVr (As := [.int p2]) (n9 := 1) (st := []) (w2 := (wB E a ++ (wX2 E a 2 lt ls lw lh lx ++ (wX1 E a (18 + 10 * k) nu z q u t c ++ wA E a)))) C (c_X3_get E (a 3) (a 4) 120 lt p2 g12 eg12) gX4_put_X3_get rfl (by decide +kernel) rfl ⟨by decide, by decide, by decide, by decide, Nat.le_of_ble_eq_true rfl⟩ 0 rfl rfl (gSub.idx [2, 3] rfl rfl) rfl dX4_put_64 ?_
        refine g_istore C (lv2 := [(6, .int g12), (5, .int g9), (4, .ref (a (18 + 10 * k))), (0, .ref (a 0)), (1, .int p1), (2, .int p2), (3, .int p3)]) rfl (by decide) dX4_put_67 ?_
        refine g_aload C 2 rfl dX4_put_69 ?_
        refine g_X1_queueN C i_X4_put_X1 (by decide +kernel) 12 rfl dX4_put_71 ?_
        refine g_iload C 1 rfl dX4_put_74 ?_
        obtain ⟨g13, eg13, h⟩ := Option.bind_eq_some_iff.mp h
        refine g_cVr (As := [.int g9]) (n9 := 1) (st := []) (w2 := (wB E a ++ (wX2 E a 2 lt ls lw lh lx ++ (wX1 E a (18 + 10 * k) nu z g13.2 u t c ++ wA E a)))) C (c_X3_remove E (a (18 + 10 * k + 1)) (a (18 + 10 * k + 2)) 48 q g9 g13 eg13) gX4_put_X3_remove rfl (by decide +kernel) rfl ⟨by decide, by decide, by decide, by decide, Nat.le_of_ble_eq_true rfl⟩ 0 rfl rfl (gSub.idx [13, 14] rfl rfl) rfl dX4_put_76 ?_
        refine g_pop C rfl dX4_put_79 ?_
        refine g_aload_n C 3 rfl rfl dX4_put_80 ?_
        refine g_X4_ledger C i_X4_put_X4 m_X4_put_1 0 rfl dX4_put_81 ?_
        refine g_X2_timesN C i_X4_put_X2 (by decide +kernel) 1 rfl dX4_put_84 ?_
        refine g_iload_n C 5 rfl rfl dX4_put_87 ?_
        refine g_iload_n C 6 rfl rfl dX4_put_88 ?_
        obtain ⟨g14, eg14, h⟩ := Option.bind_eq_some_iff.mp h
        refine g_cVv (As := [.int p2, .int p3]) (n9 := 2) (st := []) (w2 := (wB E a ++ (wX2 E a 2 g14 ls lw lh lx ++ (wX1 E a (18 + 10 * k) nu z g13.2 u t c ++ wA E a)))) C (c_X3_set E (a 3) (a 4) 120 lt p2 p3 g14 eg14) gX4_put_X3_set rfl (by decide +kernel) rfl ⟨by decide, by decide, by decide, by decide, Nat.le_of_ble_eq_true rfl⟩ 0 rfl rfl (gSub.idx [2, 3] rfl rfl) rfl dX4_put_89 ?_
        refine g_aload_n C 3 rfl rfl dX4_put_92 ?_
        refine g_aload C 2 rfl dX4_put_93 ?_
        refine g_iload_n C 5 rfl rfl dX4_put_95 ?_
        obtain ⟨g15, eg15, h⟩ := Option.bind_eq_some_iff.mp h
        refine g_cVv (As := [.ref (a (18 + 10 * k)), .int p2]) (n9 := 2) (st := []) (w2 := (wB E a ++ (wX2 E a 2 g14 ls lw g15.1 g15.2.1 ++ (wX1 E a (18 + 10 * k) nu z g15.2.2 u t c ++ wA E a)))) C (c_X4_enqueue E a (18 + 10 * k) g14 ls lw lh lx nu z g13.2 u t c p2 g15 eg15) gX4_put_X4_enqueue rfl (by decide +kernel) rfl ⟨by decide, by decide, by decide, by decide, Nat.le_of_ble_eq_true rfl⟩ 0 rfl rfl (gSub.pre (S := (wA E a)) (by simp only [List.append_assoc])) (by simp only [List.append_assoc]) dX4_put_96 ?_
        refine g_iload C 0 rfl dX4_put_99 ?_
        obtain rfl := Option.some.inj h
        exact g_iret C hQ (by dsimp only [gO]) ⟨by decide, by decide⟩ dX4_put_101
      · replace h := (if_neg cd11).symm.trans h
        obtain rfl := Option.some.inj h
        exact g_throwS C hQ rfl rfl tf_X4_put_105 (text := "the time is below the clock") (is9 := 107) (by decide +kernel) ⟨by decide, Nat.le_of_ble_eq_true rfl, by decide, by decide, by decide, by decide⟩ dX4_put_46 dX4_put_49 dX4_put_50 dX4_put_52 dX4_put_55
    · replace h := (if_neg cd10).symm.trans h
      obtain rfl := Option.some.inj h
      exact g_throwN C hQ rfl rfl tf_X4_put_96 (text := "no such booking waits in the house") (is9 := 98) (by decide +kernel) ⟨by decide, Nat.le_of_ble_eq_true rfl, by decide, by decide, by decide, by decide⟩ dX4_put_27 dX4_put_30 dX4_put_31 dX4_put_33 dX4_put_36
abbrev r_X4_put_bad : Room := { frames := 9, cells := 3, slots := 18, locals := 141 }
set_option maxHeartbeats 4000000 in
set_option maxRecDepth 100000 in
theorem c_X4_put_bad (E : gE) (a : Nat → Nat) (p1 : Int32) (p2 : Int32) (p3 : Int32) (hbad : ∀ {x : Nat}, f_X4_houseAt p1 = some (.inr x) → False) (o : (String ⊕ (Int32))) (h : f_X4_put_bad p1 = some o) : Ct E yX4_put wsX4_put r_X4_put_bad [.ref (a 0), .int p1, .int p2, .int p3] (wB E a ++ wA E a) (gO (fun u9 => some (.int u9)) (fun u9 => (wB E a ++ wA E a)) o) := by
  refine Ct.of (cc := cX4_put) (nL := 7) (ret := ((some .int))) (own := RX4) (by decide) rfl rfl (Nat.le_of_ble_eq_true rfl) rfl ?_ ?_
  · intro v w1 hh
    cases o <;> cases hh <;> rfl
  · intro X C hQ
    rw [f_X4_put_bad] at h
    refine g_aload_n C 0 rfl rfl dX4_put_0 ?_
    refine g_iload_n C 1 rfl rfl dX4_put_1 ?_
    obtain ⟨oc2, eoc2, fx3, fk4⟩ := tB_some h
    refine g_callVr (As := [.int p1]) (n9 := 1) (st := []) (w2 := fun g1 => (wB E a ++ wA E a)) C (c_X4_houseAt E a p1 oc2 eoc2) gX4_put_X4_houseAt rfl (by decide +kernel) rfl ⟨by decide, by decide, by decide, by decide, Nat.le_of_ble_eq_true rfl⟩ 0 rfl rfl (gSub.idx [0, 1] rfl rfl) (fun _ => rfl) dX4_put_2 (fun x9 h9 => ⟨hQ, by rw [fx3 x9 h9]; rfl, rfl, (fun _ h => h), by decide, by decide⟩) (fun g1 h9oc2 => ?_)
    replace h := fk4 g1 h9oc2
    exact (hbad (eoc2.trans (congrArg some h9oc2))).elim
abbrev r_X4_next : Room := { frames := 9, cells := 2, slots := 12, locals := 150 }
theorem i_X4_next_X1 : ∀ w ∈ wsX10, w ∈ wsX4_next := by decide +kernel
theorem tf_X4_next_96 : gThN wsX4_next RX4 96 100 := ⟨by decide +kernel, by decide +kernel, by decide +kernel, by decide +kernel, by decide +kernel⟩
set_option maxHeartbeats 4000000 in
set_option maxRecDepth 100000 in
theorem c_X4_next (E : gE) (a : Nat → Nat) (k : Nat) (lt : RS) (ls : RS) (lw : RS) (lh : RS) (lx : RS) (nu : Int32) (z : Int32) (q : RS) (u : RS) (t : RS) (c : RS) (p1 : Int32) (hk : f_X4_houseAt p1 = some (.inr k)) (o : (String ⊕ (Int32 × RS × Int32 × RS × RS × RS × RS))) (h : f_X4_next lt ls lw lx q u t c p1 = some o) : Ct E yX4_next wsX4_next r_X4_next [.ref (a 0), .int p1] (wB E a ++ (wX2 E a 2 lt ls lw lh lx ++ (wX1 E a (18 + 10 * k) nu z q u t c ++ wA E a))) (gO (fun u9 => some (.int u9.1)) (fun u9 => (wB E a ++ (wX2 E a 2 lt ls lw lh u9.2.1 ++ (wX1 E a (18 + 10 * k) nu u9.2.2.1 u9.2.2.2.1 u9.2.2.2.2.1 u9.2.2.2.2.2.1 u9.2.2.2.2.2.2 ++ wA E a)))) o) := by
  refine Ct.of (cc := cX4_next) (nL := 3) (ret := ((some .int))) (own := RX4) (by decide) rfl rfl (Nat.le_of_ble_eq_true rfl) rfl ?_ ?_
  · intro v w1 hh
    cases o <;> cases hh <;> rfl
  · intro X C hQ
    rw [f_X4_next] at h
    refine g_aload_n C 0 rfl rfl dX4_next_0 ?_
    refine g_iload_n C 1 rfl rfl dX4_next_1 ?_
    obtain ⟨oc2, eoc2, fx3, fk4⟩ := tB_some h
    refine g_callVr (As := [.int p1]) (n9 := 1) (st := []) (w2 := fun g1 => (wB E a ++ (wX2 E a 2 lt ls lw lh lx ++ (wX1 E a (18 + 10 * k) nu z q u t c ++ wA E a)))) C (c_X4_houseAt E a p1 oc2 eoc2) gX4_next_X4_houseAt rfl (by decide +kernel) rfl ⟨by decide, by decide, by decide, by decide, Nat.le_of_ble_eq_true rfl⟩ 0 rfl rfl (gSub.idx [0, 22] rfl rfl) (fun _ => rfl) dX4_next_2 (fun x9 h9 => ⟨hQ, by rw [fx3 x9 h9]; rfl, rfl, (fun _ h => h), by decide, by decide⟩) (fun g1 h9oc2 => ?_)
    replace h := fk4 g1 h9oc2
    obtain rfl : k = g1 := khyp eoc2 h9oc2 hk
    refine g_astore_n C (lv2 := [(2, .ref (a (18 + 10 * k))), (0, .ref (a 0)), (1, .int p1)]) rfl (by decide) rfl dX4_next_5 ?_
    refine g_aload_n C 0 rfl rfl dX4_next_6 ?_
    refine g_X1_queueN C i_X4_next_X1 (by decide +kernel) 12 rfl dX4_next_7 ?_
    obtain ⟨g5, eg5, h⟩ := Option.bind_eq_some_iff.mp h
    refine g_cVr (As := []) (n9 := 0) (st := []) (w2 := (wB E a ++ (wX2 E a 2 lt ls lw lh lx ++ (wX1 E a (18 + 10 * k) nu z q u t c ++ wA E a)))) C (c_X3_size E (a (18 + 10 * k + 1)) (a (18 + 10 * k + 2)) 48 q g5 eg5) gX4_next_X3_size rfl (by decide +kernel) rfl ⟨by decide, by decide, by decide, by decide, Nat.le_of_ble_eq_true rfl⟩ 0 rfl rfl (gSub.idx [13, 14] rfl rfl) rfl dX4_next_10 ?_
    refine g_if_ne C (tgt := 26) dX4_next_13 (by decide) (fun cd6 => ?_) (fun cd6 => ?_)
    · replace h := (if_neg cd6).symm.trans h
      refine g_aload_n C 1 rfl rfl dX4_next_26 ?_
      refine g_aload_n C 0 rfl rfl dX4_next_27 ?_
      obtain ⟨g7, eg7, h⟩ := Option.bind_eq_some_iff.mp h
      refine g_cVr (As := [.ref (a (18 + 10 * k))]) (n9 := 1) (st := []) (w2 := (wB E a ++ (wX2 E a 2 lt ls lw lh g7.2.1 ++ (wX1 E a (18 + 10 * k) nu g7.2.2.1 g7.2.2.2.1 g7.2.2.2.2.1 g7.2.2.2.2.2.1 g7.2.2.2.2.2.2 ++ wA E a)))) C (c_X4_letFirstCome E a (18 + 10 * k) lt ls lw lh lx nu z q u t c g7 eg7) gX4_next_X4_letFirstCome rfl (by decide +kernel) rfl ⟨by decide, by decide, by decide, by decide, Nat.le_of_ble_eq_true rfl⟩ 0 rfl rfl (gSub.pre (S := (wA E a)) (by simp only [List.append_assoc])) (by simp only [List.append_assoc]) dX4_next_28 ?_
      obtain rfl := Option.some.inj h
      exact g_iret C hQ (by dsimp only [gO]) ⟨by decide, by decide⟩ dX4_next_31
    · replace h := (if_pos cd6).symm.trans h
      obtain rfl := Option.some.inj h
      exact g_throwN C hQ rfl rfl tf_X4_next_96 (text := "none waits") (is9 := 133) (by decide +kernel) ⟨by decide, Nat.le_of_ble_eq_true rfl, by decide, by decide, by decide, by decide⟩ dX4_next_16 dX4_next_19 dX4_next_20 dX4_next_22 dX4_next_25
abbrev r_X4_next_bad : Room := { frames := 9, cells := 2, slots := 12, locals := 150 }
set_option maxHeartbeats 4000000 in
set_option maxRecDepth 100000 in
theorem c_X4_next_bad (E : gE) (a : Nat → Nat) (p1 : Int32) (hbad : ∀ {x : Nat}, f_X4_houseAt p1 = some (.inr x) → False) (o : (String ⊕ (Int32))) (h : f_X4_next_bad p1 = some o) : Ct E yX4_next wsX4_next r_X4_next_bad [.ref (a 0), .int p1] (wB E a ++ wA E a) (gO (fun u9 => some (.int u9)) (fun u9 => (wB E a ++ wA E a)) o) := by
  refine Ct.of (cc := cX4_next) (nL := 3) (ret := ((some .int))) (own := RX4) (by decide) rfl rfl (Nat.le_of_ble_eq_true rfl) rfl ?_ ?_
  · intro v w1 hh
    cases o <;> cases hh <;> rfl
  · intro X C hQ
    rw [f_X4_next_bad] at h
    refine g_aload_n C 0 rfl rfl dX4_next_0 ?_
    refine g_iload_n C 1 rfl rfl dX4_next_1 ?_
    obtain ⟨oc2, eoc2, fx3, fk4⟩ := tB_some h
    refine g_callVr (As := [.int p1]) (n9 := 1) (st := []) (w2 := fun g1 => (wB E a ++ wA E a)) C (c_X4_houseAt E a p1 oc2 eoc2) gX4_next_X4_houseAt rfl (by decide +kernel) rfl ⟨by decide, by decide, by decide, by decide, Nat.le_of_ble_eq_true rfl⟩ 0 rfl rfl (gSub.idx [0, 1] rfl rfl) (fun _ => rfl) dX4_next_2 (fun x9 h9 => ⟨hQ, by rw [fx3 x9 h9]; rfl, rfl, (fun _ h => h), by decide, by decide⟩) (fun g1 h9oc2 => ?_)
    replace h := fk4 g1 h9oc2
    exact (hbad (eoc2.trans (congrArg some h9oc2))).elim
abbrev r_X4_run : Room := { frames := 9, cells := 3, slots := 18, locals := 150 }
theorem i_X4_run_X1 : ∀ w ∈ wsX10, w ∈ wsX4_run := by decide +kernel
theorem tf_X4_run_105 : gTh wsX4_run RX4 "java/lang/IllegalStateException" 105 109 := ⟨by decide +kernel, by decide +kernel, by decide +kernel, by decide +kernel, by decide +kernel, by decide +kernel⟩
set_option maxHeartbeats 4000000 in
set_option maxRecDepth 100000 in
theorem w_X4_run_41 {E : gE} {X : gX} {a : Nat → Nat} {k : Nat} {lt : RS} {ls : RS} {lw : RS} {lh : RS} {lx : RS} {nu : Int32} {z : Int32} {q : RS} {u : RS} {t : RS} {c : RS} {p1 : Int32} {v2 : Int32} {v4 : Int32} {o : (String ⊕ (Int32 × RS × Int32 × RS × RS × RS × RS))} (hk : f_X4_houseAt p1 = some (.inr k)) (C : Cx E X cX4_run 6 RX4 wsX4_run r_X4_run ((some .int)) []) (hQ : gQ E X (wB E a ++ (wX2 E a 2 lt ls lw lh lx ++ (wX1 E a (18 + 10 * k) nu z q u t c ++ wA E a))) r_X4_run (gO (fun u9 => some (.int u9.1)) (fun u9 => (wB E a ++ (wX2 E a 2 lt ls lw lh u9.2.1 ++ (wX1 E a (18 + 10 * k) nu u9.2.2.1 u9.2.2.2.1 u9.2.2.2.2.1 u9.2.2.2.2.2.1 u9.2.2.2.2.2.2 ++ wA E a)))) o)) : ∀ (F : Nat) (v5 : Int32) (lxc : RS) (zc : Int32) (qc : RS) (uc : RS) (tc : RS) (cc : RS), l_X4_run_41 lt ls lw v2 v4 F v5 lxc zc qc uc tc cc = some o → Gx E X (wB E a ++ (wX2 E a 2 lt ls lw lh lxc ++ (wX1 E a (18 + 10 * k) nu zc qc uc tc cc ++ wA E a))) 6 [(0, .ref (a 0)), (2, .int v2), (3, .ref (a (18 + 10 * k))), (4, .int v4), (5, .int v5)] [] 41 2 12 := by
  intro F
  induction F with
  | zero => intro v5 lxc zc qc uc tc cc h; exact absurd h (by simp [l_X4_run_41])
  | succ F ih =>
    intro v5 lxc zc qc uc tc cc h
    rw [l_X4_run_41] at h
    refine g_iload C 4 rfl dX4_run_41 ?_
    refine g_iload C 3 rfl dX4_run_43 ?_
    refine g_icmp_ge C (tgt := 60) dX4_run_45 (by decide) (fun cd1 => ?_) (fun cd1 => ?_)
    · replace h := (if_pos cd1).symm.trans h
      refine g_aload_n C 2 rfl rfl dX4_run_60 ?_
      refine g_iload_n C 1 rfl rfl dX4_run_61 ?_
      refine g_X1_set_nowN C i_X4_run_X1 (by decide +kernel) 12 rfl (ws2 := (wB E a ++ (wX2 E a 2 lt ls lw lh lxc ++ (wX1 E a (18 + 10 * k) nu v2 qc uc tc cc ++ wA E a)))) rfl dX4_run_62 ?_
      refine g_iload C 3 rfl dX4_run_65 ?_
      obtain rfl := Option.some.inj h
      exact g_iret C hQ (by dsimp only [gO]) ⟨by decide, by decide⟩ dX4_run_67
    · replace h := (if_neg cd1).symm.trans h
      refine g_aload_n C 0 rfl rfl dX4_run_48 ?_
      refine g_aload_n C 2 rfl rfl dX4_run_49 ?_
      obtain ⟨g2, eg2, h⟩ := Option.bind_eq_some_iff.mp h
      refine g_cVr (As := [.ref (a (18 + 10 * k))]) (n9 := 1) (st := []) (w2 := (wB E a ++ (wX2 E a 2 lt ls lw lh g2.2.1 ++ (wX1 E a (18 + 10 * k) nu g2.2.2.1 g2.2.2.2.1 g2.2.2.2.2.1 g2.2.2.2.2.2.1 g2.2.2.2.2.2.2 ++ wA E a)))) C (c_X4_letFirstCome E a (18 + 10 * k) lt ls lw lh lxc nu zc qc uc tc cc g2 eg2) gX4_run_X4_letFirstCome rfl (by decide +kernel) rfl ⟨by decide, by decide, by decide, by decide, Nat.le_of_ble_eq_true rfl⟩ 0 rfl rfl (gSub.pre (S := (wA E a)) (by simp only [List.append_assoc])) (by simp only [List.append_assoc]) dX4_run_50 ?_
      refine g_pop C rfl dX4_run_53 ?_
      refine g_iinc C (v := v5 + 1) 4 rfl rfl (lv2 := [(5, .int (v5 + 1)), (0, .ref (a 0)), (2, .int v2), (3, .ref (a (18 + 10 * k))), (4, .int v4)]) rfl (by decide) dX4_run_54 ?_
      refine g_goto C (tgt := 41) dX4_run_57 (by decide) ?_
      refine g_lv [1, 2, 3, 4, 0] (lv2 := [(0, .ref (a 0)), (2, .int v2), (3, .ref (a (18 + 10 * k))), (4, .int v4), (5, .int (v5 + 1))]) rfl ?_
      exact ih (v5 + 1) g2.2.1 g2.2.2.1 g2.2.2.2.1 g2.2.2.2.2.1 g2.2.2.2.2.2.1 g2.2.2.2.2.2.2 h
set_option maxHeartbeats 4000000 in
set_option maxRecDepth 100000 in
theorem c_X4_run (E : gE) (a : Nat → Nat) (k : Nat) (lt : RS) (ls : RS) (lw : RS) (lh : RS) (lx : RS) (nu : Int32) (z : Int32) (q : RS) (u : RS) (t : RS) (c : RS) (p1 : Int32) (p2 : Int32) (hk : f_X4_houseAt p1 = some (.inr k)) (o : (String ⊕ (Int32 × RS × Int32 × RS × RS × RS × RS))) (h : f_X4_run lt ls lw lx z q u t c p1 p2 = some o) : Ct E yX4_run wsX4_run r_X4_run [.ref (a 0), .int p1, .int p2] (wB E a ++ (wX2 E a 2 lt ls lw lh lx ++ (wX1 E a (18 + 10 * k) nu z q u t c ++ wA E a))) (gO (fun u9 => some (.int u9.1)) (fun u9 => (wB E a ++ (wX2 E a 2 lt ls lw lh u9.2.1 ++ (wX1 E a (18 + 10 * k) nu u9.2.2.1 u9.2.2.2.1 u9.2.2.2.2.1 u9.2.2.2.2.2.1 u9.2.2.2.2.2.2 ++ wA E a)))) o) := by
  refine Ct.of (cc := cX4_run) (nL := 6) (ret := ((some .int))) (own := RX4) (by decide) rfl rfl (Nat.le_of_ble_eq_true rfl) rfl ?_ ?_
  · intro v w1 hh
    cases o <;> cases hh <;> rfl
  · intro X C hQ
    rw [f_X4_run] at h
    refine g_aload_n C 0 rfl rfl dX4_run_0 ?_
    refine g_iload_n C 1 rfl rfl dX4_run_1 ?_
    obtain ⟨oc2, eoc2, fx3, fk4⟩ := tB_some h
    refine g_callVr (As := [.int p1]) (n9 := 1) (st := []) (w2 := fun g1 => (wB E a ++ (wX2 E a 2 lt ls lw lh lx ++ (wX1 E a (18 + 10 * k) nu z q u t c ++ wA E a)))) C (c_X4_houseAt E a p1 oc2 eoc2) gX4_run_X4_houseAt rfl (by decide +kernel) rfl ⟨by decide, by decide, by decide, by decide, Nat.le_of_ble_eq_true rfl⟩ 0 rfl rfl (gSub.idx [0, 22] rfl rfl) (fun _ => rfl) dX4_run_2 (fun x9 h9 => ⟨hQ, by rw [fx3 x9 h9]; rfl, rfl, (fun _ h => h), by decide, by decide⟩) (fun g1 h9oc2 => ?_)
    replace h := fk4 g1 h9oc2
    obtain rfl : k = g1 := khyp eoc2 h9oc2 hk
    refine g_astore_n C (lv2 := [(3, .ref (a (18 + 10 * k))), (0, .ref (a 0)), (1, .int p1), (2, .int p2)]) rfl (by decide) rfl dX4_run_5 ?_
    refine g_iload_n C 3 rfl rfl dX4_run_6 ?_
    obtain ⟨oc6, eoc6, fx7, fk8⟩ := tB_some h
    refine g_callSv (As := [.int p2]) (n9 := 1) (st := []) (w2 := fun g5 => (wB E a ++ (wX2 E a 2 lt ls lw lh lx ++ (wX1 E a (18 + 10 * k) nu z q u t c ++ wA E a)))) C (c_X4_refuseIfNoTime E p2 oc6 eoc6) gX4_run_X4_refuseIfNoTime rfl (by decide +kernel) rfl ⟨by decide, by decide, by decide, by decide, Nat.le_of_ble_eq_true rfl⟩ (gSub.idx [] rfl rfl) (fun _ => rfl) dX4_run_7 (fun x9 h9 => ⟨hQ, by rw [fx7 x9 h9]; rfl, rfl, (fun _ h => h), by decide, by decide⟩) (fun g5 h9oc6 => ?_)
    replace h := fk8 g5 h9oc6
    refine g_iload_n C 3 rfl rfl dX4_run_10 ?_
    refine g_aload_n C 0 rfl rfl dX4_run_11 ?_
    refine g_X1_nowN C i_X4_run_X1 (by decide +kernel) 12 rfl dX4_run_12 ?_
    refine g_icmp_ge C (tgt := 28) dX4_run_15 (by decide) (fun cd9 => ?_) (fun cd9 => ?_)
    · replace h := (if_pos cd9).symm.trans h
      refine g_aload_n C 1 rfl rfl dX4_run_28 ?_
      refine g_aload_n C 0 rfl rfl dX4_run_29 ?_
      refine g_iload_n C 3 rfl rfl dX4_run_30 ?_
      refine g_iconst C (v := 1) (by decide) dX4_run_31 ?_
      refine g_iadd C dX4_run_32 ?_
      obtain ⟨g10, eg10, h⟩ := Option.bind_eq_some_iff.mp h
      refine g_cVr (As := [.ref (a (18 + 10 * k)), .int (p2 + 1)]) (n9 := 2) (st := []) (w2 := (wB E a ++ (wX2 E a 2 lt ls lw lh lx ++ (wX1 E a (18 + 10 * k) nu z q u t c ++ wA E a)))) C (c_X4_waitingAheadOf E a (18 + 10 * k) lt ls lw lh lx nu z q u t c (p2 + 1) g10 eg10) gX4_run_X4_waitingAheadOf rfl (by decide +kernel) rfl ⟨by decide, by decide, by decide, by decide, Nat.le_of_ble_eq_true rfl⟩ 0 rfl rfl (gSub.pre (S := (wA E a)) (by simp only [List.append_assoc])) (by simp only [List.append_assoc]) dX4_run_33 ?_
      refine g_istore C (lv2 := [(4, .int g10), (3, .ref (a (18 + 10 * k))), (0, .ref (a 0)), (1, .int p1), (2, .int p2)]) rfl (by decide) dX4_run_36 ?_
      refine g_iconst C (v := 0) (by decide) dX4_run_38 ?_
      refine g_istore C (lv2 := [(5, .int 0), (4, .int g10), (3, .ref (a (18 + 10 * k))), (0, .ref (a 0)), (1, .int p1), (2, .int p2)]) rfl (by decide) dX4_run_39 ?_
      refine g_lv [3, 5, 2, 1, 0] (lv2 := [(0, .ref (a 0)), (2, .int p2), (3, .ref (a (18 + 10 * k))), (4, .int g10), (5, .int 0)]) rfl ?_
      exact w_X4_run_41 (v2 := p2) (v4 := g10) hk C hQ FU 0 lx z q u t c h
    · replace h := (if_neg cd9).symm.trans h
      obtain rfl := Option.some.inj h
      exact g_throwS C hQ rfl rfl tf_X4_run_105 (text := "the time is below the clock") (is9 := 107) (by decide +kernel) ⟨by decide, Nat.le_of_ble_eq_true rfl, by decide, by decide, by decide, by decide⟩ dX4_run_18 dX4_run_21 dX4_run_22 dX4_run_24 dX4_run_27
abbrev r_X4_run_bad : Room := { frames := 9, cells := 3, slots := 18, locals := 150 }
set_option maxHeartbeats 4000000 in
set_option maxRecDepth 100000 in
theorem c_X4_run_bad (E : gE) (a : Nat → Nat) (p1 : Int32) (p2 : Int32) (hbad : ∀ {x : Nat}, f_X4_houseAt p1 = some (.inr x) → False) (o : (String ⊕ (Int32))) (h : f_X4_run_bad p1 = some o) : Ct E yX4_run wsX4_run r_X4_run_bad [.ref (a 0), .int p1, .int p2] (wB E a ++ wA E a) (gO (fun u9 => some (.int u9)) (fun u9 => (wB E a ++ wA E a)) o) := by
  refine Ct.of (cc := cX4_run) (nL := 6) (ret := ((some .int))) (own := RX4) (by decide) rfl rfl (Nat.le_of_ble_eq_true rfl) rfl ?_ ?_
  · intro v w1 hh
    cases o <;> cases hh <;> rfl
  · intro X C hQ
    rw [f_X4_run_bad] at h
    refine g_aload_n C 0 rfl rfl dX4_run_0 ?_
    refine g_iload_n C 1 rfl rfl dX4_run_1 ?_
    obtain ⟨oc2, eoc2, fx3, fk4⟩ := tB_some h
    refine g_callVr (As := [.int p1]) (n9 := 1) (st := []) (w2 := fun g1 => (wB E a ++ wA E a)) C (c_X4_houseAt E a p1 oc2 eoc2) gX4_run_X4_houseAt rfl (by decide +kernel) rfl ⟨by decide, by decide, by decide, by decide, Nat.le_of_ble_eq_true rfl⟩ 0 rfl rfl (gSub.idx [0, 1] rfl rfl) (fun _ => rfl) dX4_run_2 (fun x9 h9 => ⟨hQ, by rw [fx3 x9 h9]; rfl, rfl, (fun _ h => h), by decide, by decide⟩) (fun g1 h9oc2 => ?_)
    replace h := fk4 g1 h9oc2
    exact (hbad (eoc2.trans (congrArg some h9oc2))).elim
abbrev r_X4_back : Room := { frames := 9, cells := 3, slots := 18, locals := 150 }
theorem i_X4_back_X1 : ∀ w ∈ wsX10, w ∈ wsX4_back := by decide +kernel
theorem tf_X4_back_105 : gTh wsX4_back RX4 "java/lang/IllegalStateException" 105 109 := ⟨by decide +kernel, by decide +kernel, by decide +kernel, by decide +kernel, by decide +kernel, by decide +kernel⟩
set_option maxHeartbeats 4000000 in
set_option maxRecDepth 100000 in
theorem w_X4_back_64 {E : gE} {X : gX} {a : Nat → Nat} {k : Nat} {lt : RS} {ls : RS} {lw : RS} {lh : RS} {lx : RS} {nu : Int32} {z : Int32} {q : RS} {u : RS} {t : RS} {c : RS} {p1 : Int32} {v2 : Int32} {v4 : Int32} {o : (String ⊕ (Int32 × RS × RS × Int32 × RS × RS × RS × RS))} (hk : f_X4_houseAt p1 = some (.inr k)) (C : Cx E X cX4_back 6 RX4 wsX4_back r_X4_back ((some .int)) []) (hQ : gQ E X (wB E a ++ (wX2 E a 2 lt ls lw lh lx ++ (wX1 E a (18 + 10 * k) nu z q u t c ++ wA E a))) r_X4_back (gO (fun u9 => some (.int u9.1)) (fun u9 => (wB E a ++ (wX2 E a 2 lt ls lw u9.2.1 u9.2.2.1 ++ (wX1 E a (18 + 10 * k) nu u9.2.2.2.1 u9.2.2.2.2.1 u9.2.2.2.2.2.1 u9.2.2.2.2.2.2.1 u9.2.2.2.2.2.2.2 ++ wA E a)))) o)) : ∀ (F : Nat) (v5 : Int32) (lhc : RS) (lxc : RS) (qc : RS) (uc : RS) (tc : RS) (cc : RS), l_X4_back_64 lt ls lw nu v2 v4 F v5 lhc lxc qc uc tc cc = some o → Gx E X (wB E a ++ (wX2 E a 2 lt ls lw lhc lxc ++ (wX1 E a (18 + 10 * k) nu z qc uc tc cc ++ wA E a))) 6 [(0, .ref (a 0)), (2, .int v2), (3, .ref (a (18 + 10 * k))), (4, .int v4), (5, .int v5)] [] 64 2 12 := by
  intro F
  induction F with
  | zero => intro v5 lhc lxc qc uc tc cc h; exact absurd h (by simp [l_X4_back_64])
  | succ F ih =>
    intro v5 lhc lxc qc uc tc cc h
    rw [l_X4_back_64] at h
    refine g_iload C 4 rfl dX4_back_64 ?_
    refine g_iload C 3 rfl dX4_back_66 ?_
    refine g_icmp_ge C (tgt := 82) dX4_back_68 (by decide) (fun cd1 => ?_) (fun cd1 => ?_)
    · replace h := (if_pos cd1).symm.trans h
      refine g_aload_n C 2 rfl rfl dX4_back_82 ?_
      refine g_iload_n C 1 rfl rfl dX4_back_83 ?_
      refine g_X1_set_nowN C i_X4_back_X1 (by decide +kernel) 12 rfl (ws2 := (wB E a ++ (wX2 E a 2 lt ls lw lhc lxc ++ (wX1 E a (18 + 10 * k) nu v2 qc uc tc cc ++ wA E a)))) rfl dX4_back_84 ?_
      refine g_iload C 3 rfl dX4_back_87 ?_
      obtain rfl := Option.some.inj h
      exact g_iret C hQ (by dsimp only [gO]) ⟨by decide, by decide⟩ dX4_back_89
    · replace h := (if_neg cd1).symm.trans h
      refine g_aload_n C 0 rfl rfl dX4_back_71 ?_
      refine g_aload_n C 2 rfl rfl dX4_back_72 ?_
      obtain ⟨g2, eg2, h⟩ := Option.bind_eq_some_iff.mp h
      refine g_cVv (As := [.ref (a (18 + 10 * k))]) (n9 := 1) (st := []) (w2 := (wB E a ++ (wX2 E a 2 lt ls lw g2.1 g2.2.1 ++ (wX1 E a (18 + 10 * k) nu z g2.2.2.1 g2.2.2.2.1 g2.2.2.2.2.1 g2.2.2.2.2.2 ++ wA E a)))) C (c_X4_bringLastBack E a (18 + 10 * k) lt ls lw lhc lxc nu z qc uc tc cc g2 eg2) gX4_back_X4_bringLastBack rfl (by decide +kernel) rfl ⟨by decide, by decide, by decide, by decide, Nat.le_of_ble_eq_true rfl⟩ 0 rfl rfl (gSub.pre (S := (wA E a)) (by simp only [List.append_assoc])) (by simp only [List.append_assoc]) dX4_back_73 ?_
      refine g_iinc C (v := v5 + 1) 4 rfl rfl (lv2 := [(5, .int (v5 + 1)), (0, .ref (a 0)), (2, .int v2), (3, .ref (a (18 + 10 * k))), (4, .int v4)]) rfl (by decide) dX4_back_76 ?_
      refine g_goto C (tgt := 64) dX4_back_79 (by decide) ?_
      refine g_lv [1, 2, 3, 4, 0] (lv2 := [(0, .ref (a 0)), (2, .int v2), (3, .ref (a (18 + 10 * k))), (4, .int v4), (5, .int (v5 + 1))]) rfl ?_
      exact ih (v5 + 1) g2.1 g2.2.1 g2.2.2.1 g2.2.2.2.1 g2.2.2.2.2.1 g2.2.2.2.2.2 h
set_option maxHeartbeats 4000000 in
set_option maxRecDepth 100000 in
theorem c_X4_back (E : gE) (a : Nat → Nat) (k : Nat) (lt : RS) (ls : RS) (lw : RS) (lh : RS) (lx : RS) (nu : Int32) (z : Int32) (q : RS) (u : RS) (t : RS) (c : RS) (p1 : Int32) (p2 : Int32) (hk : f_X4_houseAt p1 = some (.inr k)) (o : (String ⊕ (Int32 × RS × RS × Int32 × RS × RS × RS × RS))) (h : f_X4_back lt ls lw lh lx nu z q u t c p1 p2 = some o) : Ct E yX4_back wsX4_back r_X4_back [.ref (a 0), .int p1, .int p2] (wB E a ++ (wX2 E a 2 lt ls lw lh lx ++ (wX1 E a (18 + 10 * k) nu z q u t c ++ wA E a))) (gO (fun u9 => some (.int u9.1)) (fun u9 => (wB E a ++ (wX2 E a 2 lt ls lw u9.2.1 u9.2.2.1 ++ (wX1 E a (18 + 10 * k) nu u9.2.2.2.1 u9.2.2.2.2.1 u9.2.2.2.2.2.1 u9.2.2.2.2.2.2.1 u9.2.2.2.2.2.2.2 ++ wA E a)))) o) := by
  refine Ct.of (cc := cX4_back) (nL := 6) (ret := ((some .int))) (own := RX4) (by decide) rfl rfl (Nat.le_of_ble_eq_true rfl) rfl ?_ ?_
  · intro v w1 hh
    cases o <;> cases hh <;> rfl
  · intro X C hQ
    rw [f_X4_back] at h
    refine g_aload_n C 0 rfl rfl dX4_back_0 ?_
    refine g_iload_n C 1 rfl rfl dX4_back_1 ?_
    obtain ⟨oc2, eoc2, fx3, fk4⟩ := tB_some h
    refine g_callVr (As := [.int p1]) (n9 := 1) (st := []) (w2 := fun g1 => (wB E a ++ (wX2 E a 2 lt ls lw lh lx ++ (wX1 E a (18 + 10 * k) nu z q u t c ++ wA E a)))) C (c_X4_houseAt E a p1 oc2 eoc2) gX4_back_X4_houseAt rfl (by decide +kernel) rfl ⟨by decide, by decide, by decide, by decide, Nat.le_of_ble_eq_true rfl⟩ 0 rfl rfl (gSub.idx [0, 22] rfl rfl) (fun _ => rfl) dX4_back_2 (fun x9 h9 => ⟨hQ, by rw [fx3 x9 h9]; rfl, rfl, (fun _ h => h), by decide, by decide⟩) (fun g1 h9oc2 => ?_)
    replace h := fk4 g1 h9oc2
    obtain rfl : k = g1 := khyp eoc2 h9oc2 hk
    refine g_astore_n C (lv2 := [(3, .ref (a (18 + 10 * k))), (0, .ref (a 0)), (1, .int p1), (2, .int p2)]) rfl (by decide) rfl dX4_back_5 ?_
    refine g_iload_n C 3 rfl rfl dX4_back_6 ?_
    obtain ⟨oc6, eoc6, fx7, fk8⟩ := tB_some h
    refine g_callSv (As := [.int p2]) (n9 := 1) (st := []) (w2 := fun g5 => (wB E a ++ (wX2 E a 2 lt ls lw lh lx ++ (wX1 E a (18 + 10 * k) nu z q u t c ++ wA E a)))) C (c_X4_refuseIfNoTime E p2 oc6 eoc6) gX4_back_X4_refuseIfNoTime rfl (by decide +kernel) rfl ⟨by decide, by decide, by decide, by decide, Nat.le_of_ble_eq_true rfl⟩ (gSub.idx [] rfl rfl) (fun _ => rfl) dX4_back_7 (fun x9 h9 => ⟨hQ, by rw [fx7 x9 h9]; rfl, rfl, (fun _ h => h), by decide, by decide⟩) (fun g5 h9oc6 => ?_)
    replace h := fk8 g5 h9oc6
    refine g_iload_n C 3 rfl rfl dX4_back_10 ?_
    refine g_aload_n C 0 rfl rfl dX4_back_11 ?_
    refine g_X1_nowN C i_X4_back_X1 (by decide +kernel) 12 rfl dX4_back_12 ?_
    refine g_icmp_le C (tgt := 28) dX4_back_15 (by decide) (fun cd9 => ?_) (fun cd9 => ?_)
    · replace h := (if_pos cd9).symm.trans h
      refine g_aload_n C 1 rfl rfl dX4_back_28 ?_
      refine g_aload_n C 0 rfl rfl dX4_back_29 ?_
      refine g_iload_n C 3 rfl rfl dX4_back_30 ?_
      obtain ⟨g10, eg10, h⟩ := Option.bind_eq_some_iff.mp h
      refine g_cVr (As := [.ref (a (18 + 10 * k)), .int p2]) (n9 := 2) (st := []) (w2 := (wB E a ++ (wX2 E a 2 lt ls lw lh lx ++ (wX1 E a (18 + 10 * k) nu z q u t c ++ wA E a)))) C (c_X4_cameBehind E a (18 + 10 * k) lt ls lw lh lx nu z q u t c p2 g10 eg10) gX4_back_X4_cameBehind rfl (by decide +kernel) rfl ⟨by decide, by decide, by decide, by decide, Nat.le_of_ble_eq_true rfl⟩ 0 rfl rfl (gSub.pre (S := (wA E a)) (by simp only [List.append_assoc])) (by simp only [List.append_assoc]) dX4_back_31 ?_
      refine g_istore C (lv2 := [(4, .int g10), (3, .ref (a (18 + 10 * k))), (0, .ref (a 0)), (1, .int p1), (2, .int p2)]) rfl (by decide) dX4_back_34 ?_
      refine g_aload_n C 1 rfl rfl dX4_back_36 ?_
      refine g_X1_queueN C i_X4_back_X1 (by decide +kernel) 12 rfl dX4_back_37 ?_
      obtain ⟨g11, eg11, h⟩ := Option.bind_eq_some_iff.mp h
      refine g_cVr (As := []) (n9 := 0) (st := []) (w2 := (wB E a ++ (wX2 E a 2 lt ls lw lh lx ++ (wX1 E a (18 + 10 * k) nu z q u t c ++ wA E a)))) C (c_X3_size E (a (18 + 10 * k + 1)) (a (18 + 10 * k + 2)) 48 q g11 eg11) gX4_back_X3_size rfl (by decide +kernel) rfl ⟨by decide, by decide, by decide, by decide, Nat.le_of_ble_eq_true rfl⟩ 0 rfl rfl (gSub.idx [13, 14] rfl rfl) rfl dX4_back_40 ?_
      refine g_iload C 0 rfl dX4_back_43 ?_
      refine g_iadd C dX4_back_45 ?_
      refine g_bipush C (v := 48) (by decide) dX4_back_46 ?_
      refine g_icmp_le C (tgt := 61) dX4_back_48 (by decide) (fun cd12 => ?_) (fun cd12 => ?_)
      · replace h := (if_pos cd12).symm.trans h
        refine g_iconst C (v := 0) (by decide) dX4_back_61 ?_
        refine g_istore C (lv2 := [(5, .int 0), (4, .int g10), (3, .ref (a (18 + 10 * k))), (0, .ref (a 0)), (1, .int p1), (2, .int p2)]) rfl (by decide) dX4_back_62 ?_
        refine g_lv [3, 5, 2, 1, 0] (lv2 := [(0, .ref (a 0)), (2, .int p2), (3, .ref (a (18 + 10 * k))), (4, .int g10), (5, .int 0)]) rfl ?_
        exact w_X4_back_64 (v2 := p2) (v4 := g10) hk C hQ FU 0 lh lx q u t c h
      · replace h := (if_neg cd12).symm.trans h
        obtain rfl := Option.some.inj h
        exact g_throwS C hQ rfl rfl tf_X4_back_105 (text := "more than 48 would wait in the house") (is9 := 144) (by decide +kernel) ⟨by decide, Nat.le_of_ble_eq_true rfl, by decide, by decide, by decide, by decide⟩ dX4_back_51 dX4_back_54 dX4_back_55 dX4_back_57 dX4_back_60
    · replace h := (if_neg cd9).symm.trans h
      obtain rfl := Option.some.inj h
      exact g_throwS C hQ rfl rfl tf_X4_back_105 (text := "the time is above the clock") (is9 := 139) (by decide +kernel) ⟨by decide, Nat.le_of_ble_eq_true rfl, by decide, by decide, by decide, by decide⟩ dX4_back_18 dX4_back_21 dX4_back_22 dX4_back_24 dX4_back_27
abbrev r_X4_back_bad : Room := { frames := 9, cells := 3, slots := 18, locals := 150 }
set_option maxHeartbeats 4000000 in
set_option maxRecDepth 100000 in
theorem c_X4_back_bad (E : gE) (a : Nat → Nat) (p1 : Int32) (p2 : Int32) (hbad : ∀ {x : Nat}, f_X4_houseAt p1 = some (.inr x) → False) (o : (String ⊕ (Int32))) (h : f_X4_back_bad p1 = some o) : Ct E yX4_back wsX4_back r_X4_back_bad [.ref (a 0), .int p1, .int p2] (wB E a ++ wA E a) (gO (fun u9 => some (.int u9)) (fun u9 => (wB E a ++ wA E a)) o) := by
  refine Ct.of (cc := cX4_back) (nL := 6) (ret := ((some .int))) (own := RX4) (by decide) rfl rfl (Nat.le_of_ble_eq_true rfl) rfl ?_ ?_
  · intro v w1 hh
    cases o <;> cases hh <;> rfl
  · intro X C hQ
    rw [f_X4_back_bad] at h
    refine g_aload_n C 0 rfl rfl dX4_back_0 ?_
    refine g_iload_n C 1 rfl rfl dX4_back_1 ?_
    obtain ⟨oc2, eoc2, fx3, fk4⟩ := tB_some h
    refine g_callVr (As := [.int p1]) (n9 := 1) (st := []) (w2 := fun g1 => (wB E a ++ wA E a)) C (c_X4_houseAt E a p1 oc2 eoc2) gX4_back_X4_houseAt rfl (by decide +kernel) rfl ⟨by decide, by decide, by decide, by decide, Nat.le_of_ble_eq_true rfl⟩ 0 rfl rfl (gSub.idx [0, 1] rfl rfl) (fun _ => rfl) dX4_back_2 (fun x9 h9 => ⟨hQ, by rw [fx3 x9 h9]; rfl, rfl, (fun _ h => h), by decide, by decide⟩) (fun g1 h9oc2 => ?_)
    replace h := fk4 g1 h9oc2
    exact (hbad (eoc2.trans (congrArg some h9oc2))).elim
abbrev r_X4_clock : Room := { frames := 9, cells := 1, slots := 6, locals := 141 }
theorem i_X4_clock_X1 : ∀ w ∈ wsX10, w ∈ wsX4_clock := by decide +kernel
set_option maxHeartbeats 4000000 in
set_option maxRecDepth 100000 in
theorem c_X4_clock (E : gE) (a : Nat → Nat) (k : Nat) (lt : RS) (ls : RS) (lw : RS) (lh : RS) (lx : RS) (nu : Int32) (z : Int32) (q : RS) (u : RS) (t : RS) (c : RS) (p1 : Int32) (hk : f_X4_houseAt p1 = some (.inr k)) (o : (String ⊕ (Int32))) (h : f_X4_clock z p1 = some o) : Ct E yX4_clock wsX4_clock r_X4_clock [.ref (a 0), .int p1] (wB E a ++ (wX2 E a 2 lt ls lw lh lx ++ (wX1 E a (18 + 10 * k) nu z q u t c ++ wA E a))) (gO (fun u9 => some (.int u9)) (fun u9 => (wB E a ++ (wX2 E a 2 lt ls lw lh lx ++ (wX1 E a (18 + 10 * k) nu z q u t c ++ wA E a)))) o) := by
  refine Ct.of (cc := cX4_clock) (nL := 2) (ret := ((some .int))) (own := RX4) (by decide) rfl rfl (Nat.le_of_ble_eq_true rfl) rfl ?_ ?_
  · intro v w1 hh
    cases o <;> cases hh <;> rfl
  · intro X C hQ
    rw [f_X4_clock] at h
    refine g_aload_n C 0 rfl rfl dX4_clock_0 ?_
    refine g_iload_n C 1 rfl rfl dX4_clock_1 ?_
    obtain ⟨oc2, eoc2, fx3, fk4⟩ := tB_some h
    refine g_callVr (As := [.int p1]) (n9 := 1) (st := []) (w2 := fun g1 => (wB E a ++ (wX2 E a 2 lt ls lw lh lx ++ (wX1 E a (18 + 10 * k) nu z q u t c ++ wA E a)))) C (c_X4_houseAt E a p1 oc2 eoc2) gX4_clock_X4_houseAt rfl (by decide +kernel) rfl ⟨by decide, by decide, by decide, by decide, Nat.le_of_ble_eq_true rfl⟩ 0 rfl rfl (gSub.idx [0, 22] rfl rfl) (fun _ => rfl) dX4_clock_2 (fun x9 h9 => ⟨hQ, by rw [fx3 x9 h9]; rfl, rfl, (fun _ h => h), by decide, by decide⟩) (fun g1 h9oc2 => ?_)
    replace h := fk4 g1 h9oc2
    obtain rfl : k = g1 := khyp eoc2 h9oc2 hk
    refine g_X1_nowN C i_X4_clock_X1 (by decide +kernel) 12 rfl dX4_clock_5 ?_
    obtain rfl := Option.some.inj h
    exact g_iret C hQ rfl ⟨by decide, by decide⟩ dX4_clock_8
abbrev r_X4_clock_bad : Room := { frames := 9, cells := 1, slots := 6, locals := 141 }
set_option maxHeartbeats 4000000 in
set_option maxRecDepth 100000 in
theorem c_X4_clock_bad (E : gE) (a : Nat → Nat) (p1 : Int32) (hbad : ∀ {x : Nat}, f_X4_houseAt p1 = some (.inr x) → False) (o : (String ⊕ (Int32))) (h : f_X4_clock_bad p1 = some o) : Ct E yX4_clock wsX4_clock r_X4_clock_bad [.ref (a 0), .int p1] (wB E a ++ wA E a) (gO (fun u9 => some (.int u9)) (fun u9 => (wB E a ++ wA E a)) o) := by
  refine Ct.of (cc := cX4_clock) (nL := 2) (ret := ((some .int))) (own := RX4) (by decide) rfl rfl (Nat.le_of_ble_eq_true rfl) rfl ?_ ?_
  · intro v w1 hh
    cases o <;> cases hh <;> rfl
  · intro X C hQ
    rw [f_X4_clock_bad] at h
    refine g_aload_n C 0 rfl rfl dX4_clock_0 ?_
    refine g_iload_n C 1 rfl rfl dX4_clock_1 ?_
    obtain ⟨oc2, eoc2, fx3, fk4⟩ := tB_some h
    refine g_callVr (As := [.int p1]) (n9 := 1) (st := []) (w2 := fun g1 => (wB E a ++ wA E a)) C (c_X4_houseAt E a p1 oc2 eoc2) gX4_clock_X4_houseAt rfl (by decide +kernel) rfl ⟨by decide, by decide, by decide, by decide, Nat.le_of_ble_eq_true rfl⟩ 0 rfl rfl (gSub.idx [0, 1] rfl rfl) (fun _ => rfl) dX4_clock_2 (fun x9 h9 => ⟨hQ, by rw [fx3 x9 h9]; rfl, rfl, (fun _ h => h), by decide, by decide⟩) (fun g1 h9oc2 => ?_)
    replace h := fk4 g1 h9oc2
    exact (hbad (eoc2.trans (congrArg some h9oc2))).elim
abbrev r_X4_waiting : Room := { frames := 9, cells := 1, slots := 6, locals := 141 }
theorem i_X4_waiting_X1 : ∀ w ∈ wsX10, w ∈ wsX4_waiting := by decide +kernel
set_option maxHeartbeats 4000000 in
set_option maxRecDepth 100000 in
theorem c_X4_waiting (E : gE) (a : Nat → Nat) (k : Nat) (lt : RS) (ls : RS) (lw : RS) (lh : RS) (lx : RS) (nu : Int32) (z : Int32) (q : RS) (u : RS) (t : RS) (c : RS) (p1 : Int32) (hk : f_X4_houseAt p1 = some (.inr k)) (o : (String ⊕ (Int32))) (h : f_X4_waiting q p1 = some o) : Ct E yX4_waiting wsX4_waiting r_X4_waiting [.ref (a 0), .int p1] (wB E a ++ (wX2 E a 2 lt ls lw lh lx ++ (wX1 E a (18 + 10 * k) nu z q u t c ++ wA E a))) (gO (fun u9 => some (.int u9)) (fun u9 => (wB E a ++ (wX2 E a 2 lt ls lw lh lx ++ (wX1 E a (18 + 10 * k) nu z q u t c ++ wA E a)))) o) := by
  refine Ct.of (cc := cX4_waiting) (nL := 2) (ret := ((some .int))) (own := RX4) (by decide) rfl rfl (Nat.le_of_ble_eq_true rfl) rfl ?_ ?_
  · intro v w1 hh
    cases o <;> cases hh <;> rfl
  · intro X C hQ
    rw [f_X4_waiting] at h
    refine g_aload_n C 0 rfl rfl dX4_waiting_0 ?_
    refine g_iload_n C 1 rfl rfl dX4_waiting_1 ?_
    obtain ⟨oc2, eoc2, fx3, fk4⟩ := tB_some h
    refine g_callVr (As := [.int p1]) (n9 := 1) (st := []) (w2 := fun g1 => (wB E a ++ (wX2 E a 2 lt ls lw lh lx ++ (wX1 E a (18 + 10 * k) nu z q u t c ++ wA E a)))) C (c_X4_houseAt E a p1 oc2 eoc2) gX4_waiting_X4_houseAt rfl (by decide +kernel) rfl ⟨by decide, by decide, by decide, by decide, Nat.le_of_ble_eq_true rfl⟩ 0 rfl rfl (gSub.idx [0, 22] rfl rfl) (fun _ => rfl) dX4_waiting_2 (fun x9 h9 => ⟨hQ, by rw [fx3 x9 h9]; rfl, rfl, (fun _ h => h), by decide, by decide⟩) (fun g1 h9oc2 => ?_)
    replace h := fk4 g1 h9oc2
    obtain rfl : k = g1 := khyp eoc2 h9oc2 hk
    refine g_X1_queueN C i_X4_waiting_X1 (by decide +kernel) 12 rfl dX4_waiting_5 ?_
    obtain ⟨g5, eg5, h⟩ := Option.bind_eq_some_iff.mp h
    refine g_cVr (As := []) (n9 := 0) (st := []) (w2 := (wB E a ++ (wX2 E a 2 lt ls lw lh lx ++ (wX1 E a (18 + 10 * k) nu z q u t c ++ wA E a)))) C (c_X3_size E (a (18 + 10 * k + 1)) (a (18 + 10 * k + 2)) 48 q g5 eg5) gX4_waiting_X3_size rfl (by decide +kernel) rfl ⟨by decide, by decide, by decide, by decide, Nat.le_of_ble_eq_true rfl⟩ 0 rfl rfl (gSub.idx [13, 14] rfl rfl) rfl dX4_waiting_8 ?_
    obtain rfl := Option.some.inj h
    exact g_iret C hQ rfl ⟨by decide, by decide⟩ dX4_waiting_11
abbrev r_X4_waiting_bad : Room := { frames := 9, cells := 1, slots := 6, locals := 141 }
set_option maxHeartbeats 4000000 in
set_option maxRecDepth 100000 in
theorem c_X4_waiting_bad (E : gE) (a : Nat → Nat) (p1 : Int32) (hbad : ∀ {x : Nat}, f_X4_houseAt p1 = some (.inr x) → False) (o : (String ⊕ (Int32))) (h : f_X4_waiting_bad p1 = some o) : Ct E yX4_waiting wsX4_waiting r_X4_waiting_bad [.ref (a 0), .int p1] (wB E a ++ wA E a) (gO (fun u9 => some (.int u9)) (fun u9 => (wB E a ++ wA E a)) o) := by
  refine Ct.of (cc := cX4_waiting) (nL := 2) (ret := ((some .int))) (own := RX4) (by decide) rfl rfl (Nat.le_of_ble_eq_true rfl) rfl ?_ ?_
  · intro v w1 hh
    cases o <;> cases hh <;> rfl
  · intro X C hQ
    rw [f_X4_waiting_bad] at h
    refine g_aload_n C 0 rfl rfl dX4_waiting_0 ?_
    refine g_iload_n C 1 rfl rfl dX4_waiting_1 ?_
    obtain ⟨oc2, eoc2, fx3, fk4⟩ := tB_some h
    refine g_callVr (As := [.int p1]) (n9 := 1) (st := []) (w2 := fun g1 => (wB E a ++ wA E a)) C (c_X4_houseAt E a p1 oc2 eoc2) gX4_waiting_X4_houseAt rfl (by decide +kernel) rfl ⟨by decide, by decide, by decide, by decide, Nat.le_of_ble_eq_true rfl⟩ 0 rfl rfl (gSub.idx [0, 1] rfl rfl) (fun _ => rfl) dX4_waiting_2 (fun x9 h9 => ⟨hQ, by rw [fx3 x9 h9]; rfl, rfl, (fun _ h => h), by decide, by decide⟩) (fun g1 h9oc2 => ?_)
    replace h := fk4 g1 h9oc2
    exact (hbad (eoc2.trans (congrArg some h9oc2))).elim
abbrev r_X4_came : Room := { frames := 9, cells := 1, slots := 6, locals := 141 }
theorem i_X4_came_X1 : ∀ w ∈ wsX10, w ∈ wsX4_came := by decide +kernel
set_option maxHeartbeats 4000000 in
set_option maxRecDepth 100000 in
theorem c_X4_came (E : gE) (a : Nat → Nat) (k : Nat) (lt : RS) (ls : RS) (lw : RS) (lh : RS) (lx : RS) (nu : Int32) (z : Int32) (q : RS) (u : RS) (t : RS) (c : RS) (p1 : Int32) (hk : f_X4_houseAt p1 = some (.inr k)) (o : (String ⊕ (Int32))) (h : f_X4_came u p1 = some o) : Ct E yX4_came wsX4_came r_X4_came [.ref (a 0), .int p1] (wB E a ++ (wX2 E a 2 lt ls lw lh lx ++ (wX1 E a (18 + 10 * k) nu z q u t c ++ wA E a))) (gO (fun u9 => some (.int u9)) (fun u9 => (wB E a ++ (wX2 E a 2 lt ls lw lh lx ++ (wX1 E a (18 + 10 * k) nu z q u t c ++ wA E a)))) o) := by
  refine Ct.of (cc := cX4_came) (nL := 2) (ret := ((some .int))) (own := RX4) (by decide) rfl rfl (Nat.le_of_ble_eq_true rfl) rfl ?_ ?_
  · intro v w1 hh
    cases o <;> cases hh <;> rfl
  · intro X C hQ
    rw [f_X4_came] at h
    refine g_aload_n C 0 rfl rfl dX4_came_0 ?_
    refine g_iload_n C 1 rfl rfl dX4_came_1 ?_
    obtain ⟨oc2, eoc2, fx3, fk4⟩ := tB_some h
    refine g_callVr (As := [.int p1]) (n9 := 1) (st := []) (w2 := fun g1 => (wB E a ++ (wX2 E a 2 lt ls lw lh lx ++ (wX1 E a (18 + 10 * k) nu z q u t c ++ wA E a)))) C (c_X4_houseAt E a p1 oc2 eoc2) gX4_came_X4_houseAt rfl (by decide +kernel) rfl ⟨by decide, by decide, by decide, by decide, Nat.le_of_ble_eq_true rfl⟩ 0 rfl rfl (gSub.idx [0, 22] rfl rfl) (fun _ => rfl) dX4_came_2 (fun x9 h9 => ⟨hQ, by rw [fx3 x9 h9]; rfl, rfl, (fun _ h => h), by decide, by decide⟩) (fun g1 h9oc2 => ?_)
    replace h := fk4 g1 h9oc2
    obtain rfl : k = g1 := khyp eoc2 h9oc2 hk
    refine g_X1_pastN C i_X4_came_X1 (by decide +kernel) 12 rfl dX4_came_5 ?_
    obtain ⟨g5, eg5, h⟩ := Option.bind_eq_some_iff.mp h
    refine g_cVr (As := []) (n9 := 0) (st := []) (w2 := (wB E a ++ (wX2 E a 2 lt ls lw lh lx ++ (wX1 E a (18 + 10 * k) nu z q u t c ++ wA E a)))) C (c_X3_size E (a (18 + 10 * k + 3)) (a (18 + 10 * k + 4)) 120 u g5 eg5) gX4_came_X3_size rfl (by decide +kernel) rfl ⟨by decide, by decide, by decide, by decide, Nat.le_of_ble_eq_true rfl⟩ 0 rfl rfl (gSub.idx [15, 16] rfl rfl) rfl dX4_came_8 ?_
    obtain rfl := Option.some.inj h
    exact g_iret C hQ rfl ⟨by decide, by decide⟩ dX4_came_11
abbrev r_X4_came_bad : Room := { frames := 9, cells := 1, slots := 6, locals := 141 }
set_option maxHeartbeats 4000000 in
set_option maxRecDepth 100000 in
theorem c_X4_came_bad (E : gE) (a : Nat → Nat) (p1 : Int32) (hbad : ∀ {x : Nat}, f_X4_houseAt p1 = some (.inr x) → False) (o : (String ⊕ (Int32))) (h : f_X4_came_bad p1 = some o) : Ct E yX4_came wsX4_came r_X4_came_bad [.ref (a 0), .int p1] (wB E a ++ wA E a) (gO (fun u9 => some (.int u9)) (fun u9 => (wB E a ++ wA E a)) o) := by
  refine Ct.of (cc := cX4_came) (nL := 2) (ret := ((some .int))) (own := RX4) (by decide) rfl rfl (Nat.le_of_ble_eq_true rfl) rfl ?_ ?_
  · intro v w1 hh
    cases o <;> cases hh <;> rfl
  · intro X C hQ
    rw [f_X4_came_bad] at h
    refine g_aload_n C 0 rfl rfl dX4_came_0 ?_
    refine g_iload_n C 1 rfl rfl dX4_came_1 ?_
    obtain ⟨oc2, eoc2, fx3, fk4⟩ := tB_some h
    refine g_callVr (As := [.int p1]) (n9 := 1) (st := []) (w2 := fun g1 => (wB E a ++ wA E a)) C (c_X4_houseAt E a p1 oc2 eoc2) gX4_came_X4_houseAt rfl (by decide +kernel) rfl ⟨by decide, by decide, by decide, by decide, Nat.le_of_ble_eq_true rfl⟩ 0 rfl rfl (gSub.idx [0, 1] rfl rfl) (fun _ => rfl) dX4_came_2 (fun x9 h9 => ⟨hQ, by rw [fx3 x9 h9]; rfl, rfl, (fun _ h => h), by decide, by decide⟩) (fun g1 h9oc2 => ?_)
    replace h := fk4 g1 h9oc2
    exact (hbad (eoc2.trans (congrArg some h9oc2))).elim
abbrev r_X4_waits : Room := { frames := 9, cells := 2, slots := 12, locals := 141 }
theorem i_X4_waits_X1 : ∀ w ∈ wsX10, w ∈ wsX4_waits := by decide +kernel
set_option maxHeartbeats 4000000 in
set_option maxRecDepth 100000 in
theorem c_X4_waits (E : gE) (a : Nat → Nat) (k : Nat) (lt : RS) (ls : RS) (lw : RS) (lh : RS) (lx : RS) (nu : Int32) (z : Int32) (q : RS) (u : RS) (t : RS) (c : RS) (p1 : Int32) (p2 : Int32) (hk : f_X4_houseAt p1 = some (.inr k)) (o : (String ⊕ (Int32))) (h : f_X4_waits q p1 p2 = some o) : Ct E yX4_waits wsX4_waits r_X4_waits [.ref (a 0), .int p1, .int p2] (wB E a ++ (wX2 E a 2 lt ls lw lh lx ++ (wX1 E a (18 + 10 * k) nu z q u t c ++ wA E a))) (gO (fun u9 => some (.int u9)) (fun u9 => (wB E a ++ (wX2 E a 2 lt ls lw lh lx ++ (wX1 E a (18 + 10 * k) nu z q u t c ++ wA E a)))) o) := by
  refine Ct.of (cc := cX4_waits) (nL := 3) (ret := ((some .int))) (own := RX4) (by decide) rfl rfl (Nat.le_of_ble_eq_true rfl) rfl ?_ ?_
  · intro v w1 hh
    cases o <;> cases hh <;> rfl
  · intro X C hQ
    rw [f_X4_waits] at h
    refine g_aload_n C 0 rfl rfl dX4_waits_0 ?_
    refine g_iload_n C 1 rfl rfl dX4_waits_1 ?_
    obtain ⟨oc2, eoc2, fx3, fk4⟩ := tB_some h
    refine g_callVr (As := [.int p1]) (n9 := 1) (st := []) (w2 := fun g1 => (wB E a ++ (wX2 E a 2 lt ls lw lh lx ++ (wX1 E a (18 + 10 * k) nu z q u t c ++ wA E a)))) C (c_X4_houseAt E a p1 oc2 eoc2) gX4_waits_X4_houseAt rfl (by decide +kernel) rfl ⟨by decide, by decide, by decide, by decide, Nat.le_of_ble_eq_true rfl⟩ 0 rfl rfl (gSub.idx [0, 22] rfl rfl) (fun _ => rfl) dX4_waits_2 (fun x9 h9 => ⟨hQ, by rw [fx3 x9 h9]; rfl, rfl, (fun _ h => h), by decide, by decide⟩) (fun g1 h9oc2 => ?_)
    replace h := fk4 g1 h9oc2
    obtain rfl : k = g1 := khyp eoc2 h9oc2 hk
    refine g_X1_queueN C i_X4_waits_X1 (by decide +kernel) 12 rfl dX4_waits_5 ?_
    refine g_iload_n C 2 rfl rfl dX4_waits_8 ?_
    obtain ⟨oc6, eoc6, fx7, fk8⟩ := tB_some h
    refine g_callSr (As := [.ref (a (18 + 10 * k + 1)), .int p2]) (n9 := 2) (st := []) (w2 := fun g5 => (wB E a ++ (wX2 E a 2 lt ls lw lh lx ++ (wX1 E a (18 + 10 * k) nu z q u t c ++ wA E a)))) C (c_X4_itemAt E (a (18 + 10 * k + 1)) (a (18 + 10 * k + 2)) 48 q p2 oc6 eoc6) gX4_waits_X4_itemAt rfl (by decide +kernel) rfl ⟨by decide, by decide, by decide, by decide, Nat.le_of_ble_eq_true rfl⟩ (gSub.idx [13, 14] rfl rfl) (fun _ => rfl) dX4_waits_9 (fun x9 h9 => ⟨hQ, by rw [fx7 x9 h9]; rfl, rfl, (fun _ h => h), by decide, by decide⟩) (fun g5 h9oc6 => ?_)
    replace h := fk8 g5 h9oc6
    obtain rfl := Option.some.inj h
    exact g_iret C hQ rfl ⟨by decide, by decide⟩ dX4_waits_12
abbrev r_X4_waits_bad : Room := { frames := 9, cells := 2, slots := 12, locals := 141 }
set_option maxHeartbeats 4000000 in
set_option maxRecDepth 100000 in
theorem c_X4_waits_bad (E : gE) (a : Nat → Nat) (p1 : Int32) (p2 : Int32) (hbad : ∀ {x : Nat}, f_X4_houseAt p1 = some (.inr x) → False) (o : (String ⊕ (Int32))) (h : f_X4_waits_bad p1 = some o) : Ct E yX4_waits wsX4_waits r_X4_waits_bad [.ref (a 0), .int p1, .int p2] (wB E a ++ wA E a) (gO (fun u9 => some (.int u9)) (fun u9 => (wB E a ++ wA E a)) o) := by
  refine Ct.of (cc := cX4_waits) (nL := 3) (ret := ((some .int))) (own := RX4) (by decide) rfl rfl (Nat.le_of_ble_eq_true rfl) rfl ?_ ?_
  · intro v w1 hh
    cases o <;> cases hh <;> rfl
  · intro X C hQ
    rw [f_X4_waits_bad] at h
    refine g_aload_n C 0 rfl rfl dX4_waits_0 ?_
    refine g_iload_n C 1 rfl rfl dX4_waits_1 ?_
    obtain ⟨oc2, eoc2, fx3, fk4⟩ := tB_some h
    refine g_callVr (As := [.int p1]) (n9 := 1) (st := []) (w2 := fun g1 => (wB E a ++ wA E a)) C (c_X4_houseAt E a p1 oc2 eoc2) gX4_waits_X4_houseAt rfl (by decide +kernel) rfl ⟨by decide, by decide, by decide, by decide, Nat.le_of_ble_eq_true rfl⟩ 0 rfl rfl (gSub.idx [0, 1] rfl rfl) (fun _ => rfl) dX4_waits_2 (fun x9 h9 => ⟨hQ, by rw [fx3 x9 h9]; rfl, rfl, (fun _ h => h), by decide, by decide⟩) (fun g1 h9oc2 => ?_)
    replace h := fk4 g1 h9oc2
    exact (hbad (eoc2.trans (congrArg some h9oc2))).elim
abbrev r_X4_cameAt : Room := { frames := 9, cells := 2, slots := 12, locals := 141 }
theorem i_X4_cameAt_X1 : ∀ w ∈ wsX10, w ∈ wsX4_cameAt := by decide +kernel
set_option maxHeartbeats 4000000 in
set_option maxRecDepth 100000 in
theorem c_X4_cameAt (E : gE) (a : Nat → Nat) (k : Nat) (lt : RS) (ls : RS) (lw : RS) (lh : RS) (lx : RS) (nu : Int32) (z : Int32) (q : RS) (u : RS) (t : RS) (c : RS) (p1 : Int32) (p2 : Int32) (hk : f_X4_houseAt p1 = some (.inr k)) (o : (String ⊕ (Int32))) (h : f_X4_cameAt u p1 p2 = some o) : Ct E yX4_cameAt wsX4_cameAt r_X4_cameAt [.ref (a 0), .int p1, .int p2] (wB E a ++ (wX2 E a 2 lt ls lw lh lx ++ (wX1 E a (18 + 10 * k) nu z q u t c ++ wA E a))) (gO (fun u9 => some (.int u9)) (fun u9 => (wB E a ++ (wX2 E a 2 lt ls lw lh lx ++ (wX1 E a (18 + 10 * k) nu z q u t c ++ wA E a)))) o) := by
  refine Ct.of (cc := cX4_cameAt) (nL := 3) (ret := ((some .int))) (own := RX4) (by decide) rfl rfl (Nat.le_of_ble_eq_true rfl) rfl ?_ ?_
  · intro v w1 hh
    cases o <;> cases hh <;> rfl
  · intro X C hQ
    rw [f_X4_cameAt] at h
    refine g_aload_n C 0 rfl rfl dX4_cameAt_0 ?_
    refine g_iload_n C 1 rfl rfl dX4_cameAt_1 ?_
    obtain ⟨oc2, eoc2, fx3, fk4⟩ := tB_some h
    refine g_callVr (As := [.int p1]) (n9 := 1) (st := []) (w2 := fun g1 => (wB E a ++ (wX2 E a 2 lt ls lw lh lx ++ (wX1 E a (18 + 10 * k) nu z q u t c ++ wA E a)))) C (c_X4_houseAt E a p1 oc2 eoc2) gX4_cameAt_X4_houseAt rfl (by decide +kernel) rfl ⟨by decide, by decide, by decide, by decide, Nat.le_of_ble_eq_true rfl⟩ 0 rfl rfl (gSub.idx [0, 22] rfl rfl) (fun _ => rfl) dX4_cameAt_2 (fun x9 h9 => ⟨hQ, by rw [fx3 x9 h9]; rfl, rfl, (fun _ h => h), by decide, by decide⟩) (fun g1 h9oc2 => ?_)
    replace h := fk4 g1 h9oc2
    obtain rfl : k = g1 := khyp eoc2 h9oc2 hk
    refine g_X1_pastN C i_X4_cameAt_X1 (by decide +kernel) 12 rfl dX4_cameAt_5 ?_
    refine g_iload_n C 2 rfl rfl dX4_cameAt_8 ?_
    obtain ⟨oc6, eoc6, fx7, fk8⟩ := tB_some h
    refine g_callSr (As := [.ref (a (18 + 10 * k + 3)), .int p2]) (n9 := 2) (st := []) (w2 := fun g5 => (wB E a ++ (wX2 E a 2 lt ls lw lh lx ++ (wX1 E a (18 + 10 * k) nu z q u t c ++ wA E a)))) C (c_X4_itemAt E (a (18 + 10 * k + 3)) (a (18 + 10 * k + 4)) 120 u p2 oc6 eoc6) gX4_cameAt_X4_itemAt rfl (by decide +kernel) rfl ⟨by decide, by decide, by decide, by decide, Nat.le_of_ble_eq_true rfl⟩ (gSub.idx [15, 16] rfl rfl) (fun _ => rfl) dX4_cameAt_9 (fun x9 h9 => ⟨hQ, by rw [fx7 x9 h9]; rfl, rfl, (fun _ h => h), by decide, by decide⟩) (fun g5 h9oc6 => ?_)
    replace h := fk8 g5 h9oc6
    obtain rfl := Option.some.inj h
    exact g_iret C hQ rfl ⟨by decide, by decide⟩ dX4_cameAt_12
abbrev r_X4_cameAt_bad : Room := { frames := 9, cells := 2, slots := 12, locals := 141 }
set_option maxHeartbeats 4000000 in
set_option maxRecDepth 100000 in
theorem c_X4_cameAt_bad (E : gE) (a : Nat → Nat) (p1 : Int32) (p2 : Int32) (hbad : ∀ {x : Nat}, f_X4_houseAt p1 = some (.inr x) → False) (o : (String ⊕ (Int32))) (h : f_X4_cameAt_bad p1 = some o) : Ct E yX4_cameAt wsX4_cameAt r_X4_cameAt_bad [.ref (a 0), .int p1, .int p2] (wB E a ++ wA E a) (gO (fun u9 => some (.int u9)) (fun u9 => (wB E a ++ wA E a)) o) := by
  refine Ct.of (cc := cX4_cameAt) (nL := 3) (ret := ((some .int))) (own := RX4) (by decide) rfl rfl (Nat.le_of_ble_eq_true rfl) rfl ?_ ?_
  · intro v w1 hh
    cases o <;> cases hh <;> rfl
  · intro X C hQ
    rw [f_X4_cameAt_bad] at h
    refine g_aload_n C 0 rfl rfl dX4_cameAt_0 ?_
    refine g_iload_n C 1 rfl rfl dX4_cameAt_1 ?_
    obtain ⟨oc2, eoc2, fx3, fk4⟩ := tB_some h
    refine g_callVr (As := [.int p1]) (n9 := 1) (st := []) (w2 := fun g1 => (wB E a ++ wA E a)) C (c_X4_houseAt E a p1 oc2 eoc2) gX4_cameAt_X4_houseAt rfl (by decide +kernel) rfl ⟨by decide, by decide, by decide, by decide, Nat.le_of_ble_eq_true rfl⟩ 0 rfl rfl (gSub.idx [0, 1] rfl rfl) (fun _ => rfl) dX4_cameAt_2 (fun x9 h9 => ⟨hQ, by rw [fx3 x9 h9]; rfl, rfl, (fun _ h => h), by decide, by decide⟩) (fun g1 h9oc2 => ?_)
    replace h := fk4 g1 h9oc2
    exact (hbad (eoc2.trans (congrArg some h9oc2))).elim
abbrev r_X4_nextTime : Room := { frames := 9, cells := 2, slots := 12, locals := 141 }
theorem i_X4_nextTime_X1 : ∀ w ∈ wsX10, w ∈ wsX4_nextTime := by decide +kernel
theorem m_X4_nextTime_1 : Cond.fieldLink RX4 10 "Bookinghouse" "ledger" "LBookinghouse$Ledger;" ∈ wsX4_nextTime := by decide +kernel
theorem i_X4_nextTime_X4 : ∀ w ∈ wsX40, w ∈ wsX4_nextTime := by decide +kernel
theorem i_X4_nextTime_X2 : ∀ w ∈ wsX20, w ∈ wsX4_nextTime := by decide +kernel
theorem tf_X4_nextTime_96 : gThN wsX4_nextTime RX4 96 100 := ⟨by decide +kernel, by decide +kernel, by decide +kernel, by decide +kernel, by decide +kernel⟩
set_option maxHeartbeats 4000000 in
set_option maxRecDepth 100000 in
theorem c_X4_nextTime (E : gE) (a : Nat → Nat) (k : Nat) (lt : RS) (ls : RS) (lw : RS) (lh : RS) (lx : RS) (nu : Int32) (z : Int32) (q : RS) (u : RS) (t : RS) (c : RS) (p1 : Int32) (p2 : Int32) (hk : f_X4_houseAt p1 = some (.inr k)) (o : (String ⊕ (Int32))) (h : f_X4_nextTime lt q p1 p2 = some o) : Ct E yX4_nextTime wsX4_nextTime r_X4_nextTime [.ref (a 0), .int p1, .int p2] (wB E a ++ (wX2 E a 2 lt ls lw lh lx ++ (wX1 E a (18 + 10 * k) nu z q u t c ++ wA E a))) (gO (fun u9 => some (.int u9)) (fun u9 => (wB E a ++ (wX2 E a 2 lt ls lw lh lx ++ (wX1 E a (18 + 10 * k) nu z q u t c ++ wA E a)))) o) := by
  refine Ct.of (cc := cX4_nextTime) (nL := 5) (ret := ((some .int))) (own := RX4) (by decide) rfl rfl (Nat.le_of_ble_eq_true rfl) rfl ?_ ?_
  · intro v w1 hh
    cases o <;> cases hh <;> rfl
  · intro X C hQ
    rw [f_X4_nextTime] at h
    refine g_aload_n C 0 rfl rfl dX4_nextTime_0 ?_
    refine g_iload_n C 1 rfl rfl dX4_nextTime_1 ?_
    obtain ⟨oc2, eoc2, fx3, fk4⟩ := tB_some h
    refine g_callVr (As := [.int p1]) (n9 := 1) (st := []) (w2 := fun g1 => (wB E a ++ (wX2 E a 2 lt ls lw lh lx ++ (wX1 E a (18 + 10 * k) nu z q u t c ++ wA E a)))) C (c_X4_houseAt E a p1 oc2 eoc2) gX4_nextTime_X4_houseAt rfl (by decide +kernel) rfl ⟨by decide, by decide, by decide, by decide, Nat.le_of_ble_eq_true rfl⟩ 0 rfl rfl (gSub.idx [0, 22] rfl rfl) (fun _ => rfl) dX4_nextTime_2 (fun x9 h9 => ⟨hQ, by rw [fx3 x9 h9]; rfl, rfl, (fun _ h => h), by decide, by decide⟩) (fun g1 h9oc2 => ?_)
    replace h := fk4 g1 h9oc2
    obtain rfl : k = g1 := khyp eoc2 h9oc2 hk
    refine g_astore_n C (lv2 := [(3, .ref (a (18 + 10 * k))), (0, .ref (a 0)), (1, .int p1), (2, .int p2)]) rfl (by decide) rfl dX4_nextTime_5 ?_
    refine g_aload_n C 1 rfl rfl dX4_nextTime_6 ?_
    refine g_aload_n C 0 rfl rfl dX4_nextTime_7 ?_
    refine g_iload_n C 3 rfl rfl dX4_nextTime_8 ?_
    obtain ⟨g5, eg5, h⟩ := Option.bind_eq_some_iff.mp h
    refine g_cVr (As := [.ref (a (18 + 10 * k)), .int p2]) (n9 := 2) (st := []) (w2 := (wB E a ++ (wX2 E a 2 lt ls lw lh lx ++ (wX1 E a (18 + 10 * k) nu z q u t c ++ wA E a)))) C (c_X4_waitingAheadOf E a (18 + 10 * k) lt ls lw lh lx nu z q u t c p2 g5 eg5) gX4_nextTime_X4_waitingAheadOf rfl (by decide +kernel) rfl ⟨by decide, by decide, by decide, by decide, Nat.le_of_ble_eq_true rfl⟩ 0 rfl rfl (gSub.pre (S := (wA E a)) (by simp only [List.append_assoc])) (by simp only [List.append_assoc]) dX4_nextTime_9 ?_
    refine g_istore C (lv2 := [(4, .int g5), (3, .ref (a (18 + 10 * k))), (0, .ref (a 0)), (1, .int p1), (2, .int p2)]) rfl (by decide) dX4_nextTime_12 ?_
    refine g_iload C 0 rfl dX4_nextTime_14 ?_
    refine g_aload_n C 1 rfl rfl dX4_nextTime_16 ?_
    refine g_X1_queueN C i_X4_nextTime_X1 (by decide +kernel) 12 rfl dX4_nextTime_17 ?_
    obtain ⟨g6, eg6, h⟩ := Option.bind_eq_some_iff.mp h
    refine g_cVr (As := []) (n9 := 0) (st := [.int g5]) (w2 := (wB E a ++ (wX2 E a 2 lt ls lw lh lx ++ (wX1 E a (18 + 10 * k) nu z q u t c ++ wA E a)))) C (c_X3_size E (a (18 + 10 * k + 1)) (a (18 + 10 * k + 2)) 48 q g6 eg6) gX4_nextTime_X3_size rfl (by decide +kernel) rfl ⟨by decide, by decide, by decide, by decide, Nat.le_of_ble_eq_true rfl⟩ 0 rfl rfl (gSub.idx [13, 14] rfl rfl) rfl dX4_nextTime_20 ?_
    refine g_icmp_lt C (tgt := 36) dX4_nextTime_23 (by decide) (fun cd7 => ?_) (fun cd7 => ?_)
    · replace h := (if_pos cd7).symm.trans h
      refine g_aload_n C 2 rfl rfl dX4_nextTime_36 ?_
      refine g_X4_ledger C i_X4_nextTime_X4 m_X4_nextTime_1 0 rfl dX4_nextTime_37 ?_
      refine g_X2_timesN C i_X4_nextTime_X2 (by decide +kernel) 1 rfl dX4_nextTime_40 ?_
      refine g_aload_n C 1 rfl rfl dX4_nextTime_43 ?_
      refine g_X1_queueN C i_X4_nextTime_X1 (by decide +kernel) 12 rfl dX4_nextTime_44 ?_
      refine g_iload C 0 rfl dX4_nextTime_47 ?_
      obtain ⟨g8, eg8, h⟩ := Option.bind_eq_some_iff.mp h
      refine g_cVr (As := [.int g5]) (n9 := 1) (st := [.ref (a 3)]) (w2 := (wB E a ++ (wX2 E a 2 lt ls lw lh lx ++ (wX1 E a (18 + 10 * k) nu z q u t c ++ wA E a)))) C (c_X3_get E (a (18 + 10 * k + 1)) (a (18 + 10 * k + 2)) 48 q g5 g8 eg8) gX4_nextTime_X3_get rfl (by decide +kernel) rfl ⟨by decide, by decide, by decide, by decide, Nat.le_of_ble_eq_true rfl⟩ 0 rfl rfl (gSub.idx [13, 14] rfl rfl) rfl dX4_nextTime_49 ?_
      obtain ⟨g9, eg9, h⟩ := Option.bind_eq_some_iff.mp h
      refine g_cVr (As := [.int g8]) (n9 := 1) (st := []) (w2 := (wB E a ++ (wX2 E a 2 lt ls lw lh lx ++ (wX1 E a (18 + 10 * k) nu z q u t c ++ wA E a)))) C (c_X3_get E (a 3) (a 4) 120 lt g8 g9 eg9) gX4_nextTime_X3_get rfl (by decide +kernel) rfl ⟨by decide, by decide, by decide, by decide, Nat.le_of_ble_eq_true rfl⟩ 0 rfl rfl (gSub.idx [2, 3] rfl rfl) rfl dX4_nextTime_52 ?_
      obtain rfl := Option.some.inj h
      exact g_iret C hQ rfl ⟨by decide, by decide⟩ dX4_nextTime_55
    · replace h := (if_neg cd7).symm.trans h
      obtain rfl := Option.some.inj h
      exact g_throwN C hQ rfl rfl tf_X4_nextTime_96 (text := "none waits at the time or behind it") (is9 := 157) (by decide +kernel) ⟨by decide, Nat.le_of_ble_eq_true rfl, by decide, by decide, by decide, by decide⟩ dX4_nextTime_26 dX4_nextTime_29 dX4_nextTime_30 dX4_nextTime_32 dX4_nextTime_35
abbrev r_X4_nextTime_bad : Room := { frames := 9, cells := 2, slots := 12, locals := 141 }
set_option maxHeartbeats 4000000 in
set_option maxRecDepth 100000 in
theorem c_X4_nextTime_bad (E : gE) (a : Nat → Nat) (p1 : Int32) (p2 : Int32) (hbad : ∀ {x : Nat}, f_X4_houseAt p1 = some (.inr x) → False) (o : (String ⊕ (Int32))) (h : f_X4_nextTime_bad p1 = some o) : Ct E yX4_nextTime wsX4_nextTime r_X4_nextTime_bad [.ref (a 0), .int p1, .int p2] (wB E a ++ wA E a) (gO (fun u9 => some (.int u9)) (fun u9 => (wB E a ++ wA E a)) o) := by
  refine Ct.of (cc := cX4_nextTime) (nL := 5) (ret := ((some .int))) (own := RX4) (by decide) rfl rfl (Nat.le_of_ble_eq_true rfl) rfl ?_ ?_
  · intro v w1 hh
    cases o <;> cases hh <;> rfl
  · intro X C hQ
    rw [f_X4_nextTime_bad] at h
    refine g_aload_n C 0 rfl rfl dX4_nextTime_0 ?_
    refine g_iload_n C 1 rfl rfl dX4_nextTime_1 ?_
    obtain ⟨oc2, eoc2, fx3, fk4⟩ := tB_some h
    refine g_callVr (As := [.int p1]) (n9 := 1) (st := []) (w2 := fun g1 => (wB E a ++ wA E a)) C (c_X4_houseAt E a p1 oc2 eoc2) gX4_nextTime_X4_houseAt rfl (by decide +kernel) rfl ⟨by decide, by decide, by decide, by decide, Nat.le_of_ble_eq_true rfl⟩ 0 rfl rfl (gSub.idx [0, 1] rfl rfl) (fun _ => rfl) dX4_nextTime_2 (fun x9 h9 => ⟨hQ, by rw [fx3 x9 h9]; rfl, rfl, (fun _ h => h), by decide, by decide⟩) (fun g1 h9oc2 => ?_)
    replace h := fk4 g1 h9oc2
    exact (hbad (eoc2.trans (congrArg some h9oc2))).elim
abbrev r_X4_crowd : Room := { frames := 9, cells := 1, slots := 6, locals := 141 }
theorem i_X4_crowd_X1 : ∀ w ∈ wsX10, w ∈ wsX4_crowd := by decide +kernel
set_option maxHeartbeats 4000000 in
set_option maxRecDepth 100000 in
theorem c_X4_crowd (E : gE) (a : Nat → Nat) (k : Nat) (lt : RS) (ls : RS) (lw : RS) (lh : RS) (lx : RS) (nu : Int32) (z : Int32) (q : RS) (u : RS) (t : RS) (c : RS) (p1 : Int32) (p2 : Int32) (hk : f_X4_houseAt p1 = some (.inr k)) (o : (String ⊕ (Int32))) (h : f_X4_crowd t c p1 p2 = some o) : Ct E yX4_crowd wsX4_crowd r_X4_crowd [.ref (a 0), .int p1, .int p2] (wB E a ++ (wX2 E a 2 lt ls lw lh lx ++ (wX1 E a (18 + 10 * k) nu z q u t c ++ wA E a))) (gO (fun u9 => some (.int u9)) (fun u9 => (wB E a ++ (wX2 E a 2 lt ls lw lh lx ++ (wX1 E a (18 + 10 * k) nu z q u t c ++ wA E a)))) o) := by
  refine Ct.of (cc := cX4_crowd) (nL := 3) (ret := ((some .int))) (own := RX4) (by decide) rfl rfl (Nat.le_of_ble_eq_true rfl) rfl ?_ ?_
  · intro v w1 hh
    cases o <;> cases hh <;> rfl
  · intro X C hQ
    rw [f_X4_crowd] at h
    refine g_aload_n C 0 rfl rfl dX4_crowd_0 ?_
    refine g_iload_n C 1 rfl rfl dX4_crowd_1 ?_
    obtain ⟨oc2, eoc2, fx3, fk4⟩ := tB_some h
    refine g_callVr (As := [.int p1]) (n9 := 1) (st := []) (w2 := fun g1 => (wB E a ++ (wX2 E a 2 lt ls lw lh lx ++ (wX1 E a (18 + 10 * k) nu z q u t c ++ wA E a)))) C (c_X4_houseAt E a p1 oc2 eoc2) gX4_crowd_X4_houseAt rfl (by decide +kernel) rfl ⟨by decide, by decide, by decide, by decide, Nat.le_of_ble_eq_true rfl⟩ 0 rfl rfl (gSub.idx [0, 22] rfl rfl) (fun _ => rfl) dX4_crowd_2 (fun x9 h9 => ⟨hQ, by rw [fx3 x9 h9]; rfl, rfl, (fun _ h => h), by decide, by decide⟩) (fun g1 h9oc2 => ?_)
    replace h := fk4 g1 h9oc2
    obtain rfl : k = g1 := khyp eoc2 h9oc2 hk
    refine g_X1_crowdN C i_X4_crowd_X1 (by decide +kernel) 12 rfl dX4_crowd_5 ?_
    refine g_iload_n C 2 rfl rfl dX4_crowd_8 ?_
    obtain ⟨g5, eg5, h⟩ := Option.bind_eq_some_iff.mp h
    refine g_cVr (As := [.int p2]) (n9 := 1) (st := []) (w2 := (wB E a ++ (wX2 E a 2 lt ls lw lh lx ++ (wX1 E a (18 + 10 * k) nu z q u t c ++ wA E a)))) C (c_X0_at E a (18 + 10 * k + 5) t c p2 g5 eg5) gX4_crowd_X0_at rfl (by decide +kernel) rfl ⟨by decide, by decide, by decide, by decide, Nat.le_of_ble_eq_true rfl⟩ 0 rfl rfl (gSub.idx [17, 18, 19, 20, 21] rfl rfl) rfl dX4_crowd_9 ?_
    obtain rfl := Option.some.inj h
    exact g_iret C hQ rfl ⟨by decide, by decide⟩ dX4_crowd_12
abbrev r_X4_crowd_bad : Room := { frames := 9, cells := 1, slots := 6, locals := 141 }
set_option maxHeartbeats 4000000 in
set_option maxRecDepth 100000 in
theorem c_X4_crowd_bad (E : gE) (a : Nat → Nat) (p1 : Int32) (p2 : Int32) (hbad : ∀ {x : Nat}, f_X4_houseAt p1 = some (.inr x) → False) (o : (String ⊕ (Int32))) (h : f_X4_crowd_bad p1 = some o) : Ct E yX4_crowd wsX4_crowd r_X4_crowd_bad [.ref (a 0), .int p1, .int p2] (wB E a ++ wA E a) (gO (fun u9 => some (.int u9)) (fun u9 => (wB E a ++ wA E a)) o) := by
  refine Ct.of (cc := cX4_crowd) (nL := 3) (ret := ((some .int))) (own := RX4) (by decide) rfl rfl (Nat.le_of_ble_eq_true rfl) rfl ?_ ?_
  · intro v w1 hh
    cases o <;> cases hh <;> rfl
  · intro X C hQ
    rw [f_X4_crowd_bad] at h
    refine g_aload_n C 0 rfl rfl dX4_crowd_0 ?_
    refine g_iload_n C 1 rfl rfl dX4_crowd_1 ?_
    obtain ⟨oc2, eoc2, fx3, fk4⟩ := tB_some h
    refine g_callVr (As := [.int p1]) (n9 := 1) (st := []) (w2 := fun g1 => (wB E a ++ wA E a)) C (c_X4_houseAt E a p1 oc2 eoc2) gX4_crowd_X4_houseAt rfl (by decide +kernel) rfl ⟨by decide, by decide, by decide, by decide, Nat.le_of_ble_eq_true rfl⟩ 0 rfl rfl (gSub.idx [0, 1] rfl rfl) (fun _ => rfl) dX4_crowd_2 (fun x9 h9 => ⟨hQ, by rw [fx3 x9 h9]; rfl, rfl, (fun _ h => h), by decide, by decide⟩) (fun g1 h9oc2 => ?_)
    replace h := fk4 g1 h9oc2
    exact (hbad (eoc2.trans (congrArg some h9oc2))).elim
abbrev r_X4_change : Room := { frames := 9, cells := 1, slots := 6, locals := 141 }
theorem i_X4_change_X1 : ∀ w ∈ wsX10, w ∈ wsX4_change := by decide +kernel
set_option maxHeartbeats 4000000 in
set_option maxRecDepth 100000 in
theorem c_X4_change (E : gE) (a : Nat → Nat) (k : Nat) (lt : RS) (ls : RS) (lw : RS) (lh : RS) (lx : RS) (nu : Int32) (z : Int32) (q : RS) (u : RS) (t : RS) (c : RS) (p1 : Int32) (p2 : Int32) (hk : f_X4_houseAt p1 = some (.inr k)) (o : (String ⊕ (Int32))) (h : f_X4_change t c p1 p2 = some o) : Ct E yX4_change wsX4_change r_X4_change [.ref (a 0), .int p1, .int p2] (wB E a ++ (wX2 E a 2 lt ls lw lh lx ++ (wX1 E a (18 + 10 * k) nu z q u t c ++ wA E a))) (gO (fun u9 => some (.int u9)) (fun u9 => (wB E a ++ (wX2 E a 2 lt ls lw lh lx ++ (wX1 E a (18 + 10 * k) nu z q u t c ++ wA E a)))) o) := by
  refine Ct.of (cc := cX4_change) (nL := 3) (ret := ((some .int))) (own := RX4) (by decide) rfl rfl (Nat.le_of_ble_eq_true rfl) rfl ?_ ?_
  · intro v w1 hh
    cases o <;> cases hh <;> rfl
  · intro X C hQ
    rw [f_X4_change] at h
    refine g_aload_n C 0 rfl rfl dX4_change_0 ?_
    refine g_iload_n C 1 rfl rfl dX4_change_1 ?_
    obtain ⟨oc2, eoc2, fx3, fk4⟩ := tB_some h
    refine g_callVr (As := [.int p1]) (n9 := 1) (st := []) (w2 := fun g1 => (wB E a ++ (wX2 E a 2 lt ls lw lh lx ++ (wX1 E a (18 + 10 * k) nu z q u t c ++ wA E a)))) C (c_X4_houseAt E a p1 oc2 eoc2) gX4_change_X4_houseAt rfl (by decide +kernel) rfl ⟨by decide, by decide, by decide, by decide, Nat.le_of_ble_eq_true rfl⟩ 0 rfl rfl (gSub.idx [0, 22] rfl rfl) (fun _ => rfl) dX4_change_2 (fun x9 h9 => ⟨hQ, by rw [fx3 x9 h9]; rfl, rfl, (fun _ h => h), by decide, by decide⟩) (fun g1 h9oc2 => ?_)
    replace h := fk4 g1 h9oc2
    obtain rfl : k = g1 := khyp eoc2 h9oc2 hk
    refine g_X1_crowdN C i_X4_change_X1 (by decide +kernel) 12 rfl dX4_change_5 ?_
    refine g_iload_n C 2 rfl rfl dX4_change_8 ?_
    obtain ⟨g5, eg5, h⟩ := Option.bind_eq_some_iff.mp h
    refine g_cVr (As := [.int p2]) (n9 := 1) (st := []) (w2 := (wB E a ++ (wX2 E a 2 lt ls lw lh lx ++ (wX1 E a (18 + 10 * k) nu z q u t c ++ wA E a)))) C (c_X0_changeAt E a (18 + 10 * k + 5) t c p2 g5 eg5) gX4_change_X0_changeAt rfl (by decide +kernel) rfl ⟨by decide, by decide, by decide, by decide, Nat.le_of_ble_eq_true rfl⟩ 0 rfl rfl (gSub.idx [17, 18, 19, 20, 21] rfl rfl) rfl dX4_change_9 ?_
    obtain rfl := Option.some.inj h
    exact g_iret C hQ rfl ⟨by decide, by decide⟩ dX4_change_12
abbrev r_X4_change_bad : Room := { frames := 9, cells := 1, slots := 6, locals := 141 }
set_option maxHeartbeats 4000000 in
set_option maxRecDepth 100000 in
theorem c_X4_change_bad (E : gE) (a : Nat → Nat) (p1 : Int32) (p2 : Int32) (hbad : ∀ {x : Nat}, f_X4_houseAt p1 = some (.inr x) → False) (o : (String ⊕ (Int32))) (h : f_X4_change_bad p1 = some o) : Ct E yX4_change wsX4_change r_X4_change_bad [.ref (a 0), .int p1, .int p2] (wB E a ++ wA E a) (gO (fun u9 => some (.int u9)) (fun u9 => (wB E a ++ wA E a)) o) := by
  refine Ct.of (cc := cX4_change) (nL := 3) (ret := ((some .int))) (own := RX4) (by decide) rfl rfl (Nat.le_of_ble_eq_true rfl) rfl ?_ ?_
  · intro v w1 hh
    cases o <;> cases hh <;> rfl
  · intro X C hQ
    rw [f_X4_change_bad] at h
    refine g_aload_n C 0 rfl rfl dX4_change_0 ?_
    refine g_iload_n C 1 rfl rfl dX4_change_1 ?_
    obtain ⟨oc2, eoc2, fx3, fk4⟩ := tB_some h
    refine g_callVr (As := [.int p1]) (n9 := 1) (st := []) (w2 := fun g1 => (wB E a ++ wA E a)) C (c_X4_houseAt E a p1 oc2 eoc2) gX4_change_X4_houseAt rfl (by decide +kernel) rfl ⟨by decide, by decide, by decide, by decide, Nat.le_of_ble_eq_true rfl⟩ 0 rfl rfl (gSub.idx [0, 1] rfl rfl) (fun _ => rfl) dX4_change_2 (fun x9 h9 => ⟨hQ, by rw [fx3 x9 h9]; rfl, rfl, (fun _ h => h), by decide, by decide⟩) (fun g1 h9oc2 => ?_)
    replace h := fk4 g1 h9oc2
    exact (hbad (eoc2.trans (congrArg some h9oc2))).elim
abbrev r_X4_greatest : Room := { frames := 9, cells := 1, slots := 6, locals := 141 }
theorem i_X4_greatest_X1 : ∀ w ∈ wsX10, w ∈ wsX4_greatest := by decide +kernel
set_option maxHeartbeats 4000000 in
set_option maxRecDepth 100000 in
theorem c_X4_greatest (E : gE) (a : Nat → Nat) (k : Nat) (lt : RS) (ls : RS) (lw : RS) (lh : RS) (lx : RS) (nu : Int32) (z : Int32) (q : RS) (u : RS) (t : RS) (c : RS) (p1 : Int32) (hk : f_X4_houseAt p1 = some (.inr k)) (o : (String ⊕ (Int32))) (h : f_X4_greatest t c p1 = some o) : Ct E yX4_greatest wsX4_greatest r_X4_greatest [.ref (a 0), .int p1] (wB E a ++ (wX2 E a 2 lt ls lw lh lx ++ (wX1 E a (18 + 10 * k) nu z q u t c ++ wA E a))) (gO (fun u9 => some (.int u9)) (fun u9 => (wB E a ++ (wX2 E a 2 lt ls lw lh lx ++ (wX1 E a (18 + 10 * k) nu z q u t c ++ wA E a)))) o) := by
  refine Ct.of (cc := cX4_greatest) (nL := 2) (ret := ((some .int))) (own := RX4) (by decide) rfl rfl (Nat.le_of_ble_eq_true rfl) rfl ?_ ?_
  · intro v w1 hh
    cases o <;> cases hh <;> rfl
  · intro X C hQ
    rw [f_X4_greatest] at h
    refine g_aload_n C 0 rfl rfl dX4_greatest_0 ?_
    refine g_iload_n C 1 rfl rfl dX4_greatest_1 ?_
    obtain ⟨oc2, eoc2, fx3, fk4⟩ := tB_some h
    refine g_callVr (As := [.int p1]) (n9 := 1) (st := []) (w2 := fun g1 => (wB E a ++ (wX2 E a 2 lt ls lw lh lx ++ (wX1 E a (18 + 10 * k) nu z q u t c ++ wA E a)))) C (c_X4_houseAt E a p1 oc2 eoc2) gX4_greatest_X4_houseAt rfl (by decide +kernel) rfl ⟨by decide, by decide, by decide, by decide, Nat.le_of_ble_eq_true rfl⟩ 0 rfl rfl (gSub.idx [0, 22] rfl rfl) (fun _ => rfl) dX4_greatest_2 (fun x9 h9 => ⟨hQ, by rw [fx3 x9 h9]; rfl, rfl, (fun _ h => h), by decide, by decide⟩) (fun g1 h9oc2 => ?_)
    replace h := fk4 g1 h9oc2
    obtain rfl : k = g1 := khyp eoc2 h9oc2 hk
    refine g_X1_crowdN C i_X4_greatest_X1 (by decide +kernel) 12 rfl dX4_greatest_5 ?_
    obtain ⟨g5, eg5, h⟩ := Option.bind_eq_some_iff.mp h
    refine g_cVr (As := []) (n9 := 0) (st := []) (w2 := (wB E a ++ (wX2 E a 2 lt ls lw lh lx ++ (wX1 E a (18 + 10 * k) nu z q u t c ++ wA E a)))) C (c_X0_highest E a (18 + 10 * k + 5) t c g5 eg5) gX4_greatest_X0_highest rfl (by decide +kernel) rfl ⟨by decide, by decide, by decide, by decide, Nat.le_of_ble_eq_true rfl⟩ 0 rfl rfl (gSub.idx [17, 18, 19, 20, 21] rfl rfl) rfl dX4_greatest_8 ?_
    obtain rfl := Option.some.inj h
    exact g_iret C hQ rfl ⟨by decide, by decide⟩ dX4_greatest_11
abbrev r_X4_greatest_bad : Room := { frames := 9, cells := 1, slots := 6, locals := 141 }
set_option maxHeartbeats 4000000 in
set_option maxRecDepth 100000 in
theorem c_X4_greatest_bad (E : gE) (a : Nat → Nat) (p1 : Int32) (hbad : ∀ {x : Nat}, f_X4_houseAt p1 = some (.inr x) → False) (o : (String ⊕ (Int32))) (h : f_X4_greatest_bad p1 = some o) : Ct E yX4_greatest wsX4_greatest r_X4_greatest_bad [.ref (a 0), .int p1] (wB E a ++ wA E a) (gO (fun u9 => some (.int u9)) (fun u9 => (wB E a ++ wA E a)) o) := by
  refine Ct.of (cc := cX4_greatest) (nL := 2) (ret := ((some .int))) (own := RX4) (by decide) rfl rfl (Nat.le_of_ble_eq_true rfl) rfl ?_ ?_
  · intro v w1 hh
    cases o <;> cases hh <;> rfl
  · intro X C hQ
    rw [f_X4_greatest_bad] at h
    refine g_aload_n C 0 rfl rfl dX4_greatest_0 ?_
    refine g_iload_n C 1 rfl rfl dX4_greatest_1 ?_
    obtain ⟨oc2, eoc2, fx3, fk4⟩ := tB_some h
    refine g_callVr (As := [.int p1]) (n9 := 1) (st := []) (w2 := fun g1 => (wB E a ++ wA E a)) C (c_X4_houseAt E a p1 oc2 eoc2) gX4_greatest_X4_houseAt rfl (by decide +kernel) rfl ⟨by decide, by decide, by decide, by decide, Nat.le_of_ble_eq_true rfl⟩ 0 rfl rfl (gSub.idx [0, 1] rfl rfl) (fun _ => rfl) dX4_greatest_2 (fun x9 h9 => ⟨hQ, by rw [fx3 x9 h9]; rfl, rfl, (fun _ h => h), by decide, by decide⟩) (fun g1 h9oc2 => ?_)
    replace h := fk4 g1 h9oc2
    exact (hbad (eoc2.trans (congrArg some h9oc2))).elim
abbrev r_X4_greatestFrom : Room := { frames := 9, cells := 2, slots := 12, locals := 141 }
theorem i_X4_greatestFrom_X1 : ∀ w ∈ wsX10, w ∈ wsX4_greatestFrom := by decide +kernel
theorem tf_X4_greatestFrom_96 : gThN wsX4_greatestFrom RX4 96 100 := ⟨by decide +kernel, by decide +kernel, by decide +kernel, by decide +kernel, by decide +kernel⟩
set_option maxHeartbeats 4000000 in
set_option maxRecDepth 100000 in
theorem c_X4_greatestFrom (E : gE) (a : Nat → Nat) (k : Nat) (lt : RS) (ls : RS) (lw : RS) (lh : RS) (lx : RS) (nu : Int32) (z : Int32) (q : RS) (u : RS) (t : RS) (c : RS) (p1 : Int32) (hk : f_X4_houseAt p1 = some (.inr k)) (o : (String ⊕ (Int32))) (h : f_X4_greatestFrom t c p1 = some o) : Ct E yX4_greatestFrom wsX4_greatestFrom r_X4_greatestFrom [.ref (a 0), .int p1] (wB E a ++ (wX2 E a 2 lt ls lw lh lx ++ (wX1 E a (18 + 10 * k) nu z q u t c ++ wA E a))) (gO (fun u9 => some (.int u9)) (fun u9 => (wB E a ++ (wX2 E a 2 lt ls lw lh lx ++ (wX1 E a (18 + 10 * k) nu z q u t c ++ wA E a)))) o) := by
  refine Ct.of (cc := cX4_greatestFrom) (nL := 3) (ret := ((some .int))) (own := RX4) (by decide) rfl rfl (Nat.le_of_ble_eq_true rfl) rfl ?_ ?_
  · intro v w1 hh
    cases o <;> cases hh <;> rfl
  · intro X C hQ
    rw [f_X4_greatestFrom] at h
    refine g_aload_n C 0 rfl rfl dX4_greatestFrom_0 ?_
    refine g_iload_n C 1 rfl rfl dX4_greatestFrom_1 ?_
    obtain ⟨oc2, eoc2, fx3, fk4⟩ := tB_some h
    refine g_callVr (As := [.int p1]) (n9 := 1) (st := []) (w2 := fun g1 => (wB E a ++ (wX2 E a 2 lt ls lw lh lx ++ (wX1 E a (18 + 10 * k) nu z q u t c ++ wA E a)))) C (c_X4_houseAt E a p1 oc2 eoc2) gX4_greatestFrom_X4_houseAt rfl (by decide +kernel) rfl ⟨by decide, by decide, by decide, by decide, Nat.le_of_ble_eq_true rfl⟩ 0 rfl rfl (gSub.idx [0, 22] rfl rfl) (fun _ => rfl) dX4_greatestFrom_2 (fun x9 h9 => ⟨hQ, by rw [fx3 x9 h9]; rfl, rfl, (fun _ h => h), by decide, by decide⟩) (fun g1 h9oc2 => ?_)
    replace h := fk4 g1 h9oc2
    obtain rfl : k = g1 := khyp eoc2 h9oc2 hk
    refine g_X1_crowdN C i_X4_greatestFrom_X1 (by decide +kernel) 12 rfl dX4_greatestFrom_5 ?_
    refine g_astore_n C (lv2 := [(2, .ref (a (18 + 10 * k + 5))), (0, .ref (a 0)), (1, .int p1)]) rfl (by decide) rfl dX4_greatestFrom_8 ?_
    refine g_aload_n C 0 rfl rfl dX4_greatestFrom_9 ?_
    obtain ⟨g5, eg5, h⟩ := Option.bind_eq_some_iff.mp h
    refine g_cVr (As := []) (n9 := 0) (st := []) (w2 := (wB E a ++ (wX2 E a 2 lt ls lw lh lx ++ (wX1 E a (18 + 10 * k) nu z q u t c ++ wA E a)))) C (c_X0_isEmpty E a (18 + 10 * k + 5) t c g5 eg5) gX4_greatestFrom_X0_isEmpty rfl (by decide +kernel) rfl ⟨by decide, by decide, by decide, by decide, Nat.le_of_ble_eq_true rfl⟩ 0 rfl rfl (gSub.idx [17, 18, 19, 20, 21] rfl rfl) rfl dX4_greatestFrom_10 ?_
    refine g_if_eq C (tgt := 26) dX4_greatestFrom_13 (by decide) (fun cd6 => ?_) (fun cd6 => ?_)
    · replace h := (if_pos cd6).symm.trans h
      refine g_aload_n C 0 rfl rfl dX4_greatestFrom_26 ?_
      obtain ⟨g7, eg7, h⟩ := Option.bind_eq_some_iff.mp h
      refine g_cVr (As := []) (n9 := 0) (st := []) (w2 := (wB E a ++ (wX2 E a 2 lt ls lw lh lx ++ (wX1 E a (18 + 10 * k) nu z q u t c ++ wA E a)))) C (c_X0_highestFrom E a (18 + 10 * k + 5) t c g7 eg7) gX4_greatestFrom_X0_highestFrom rfl (by decide +kernel) rfl ⟨by decide, by decide, by decide, by decide, Nat.le_of_ble_eq_true rfl⟩ 0 rfl rfl (gSub.idx [17, 18, 19, 20, 21] rfl rfl) rfl dX4_greatestFrom_27 ?_
      obtain rfl := Option.some.inj h
      exact g_iret C hQ rfl ⟨by decide, by decide⟩ dX4_greatestFrom_30
    · replace h := (if_neg cd6).symm.trans h
      obtain rfl := Option.some.inj h
      exact g_throwN C hQ rfl rfl tf_X4_greatestFrom_96 (text := "no time is busy") (is9 := 194) (by decide +kernel) ⟨by decide, Nat.le_of_ble_eq_true rfl, by decide, by decide, by decide, by decide⟩ dX4_greatestFrom_16 dX4_greatestFrom_19 dX4_greatestFrom_20 dX4_greatestFrom_22 dX4_greatestFrom_25
abbrev r_X4_greatestFrom_bad : Room := { frames := 9, cells := 2, slots := 12, locals := 141 }
set_option maxHeartbeats 4000000 in
set_option maxRecDepth 100000 in
theorem c_X4_greatestFrom_bad (E : gE) (a : Nat → Nat) (p1 : Int32) (hbad : ∀ {x : Nat}, f_X4_houseAt p1 = some (.inr x) → False) (o : (String ⊕ (Int32))) (h : f_X4_greatestFrom_bad p1 = some o) : Ct E yX4_greatestFrom wsX4_greatestFrom r_X4_greatestFrom_bad [.ref (a 0), .int p1] (wB E a ++ wA E a) (gO (fun u9 => some (.int u9)) (fun u9 => (wB E a ++ wA E a)) o) := by
  refine Ct.of (cc := cX4_greatestFrom) (nL := 3) (ret := ((some .int))) (own := RX4) (by decide) rfl rfl (Nat.le_of_ble_eq_true rfl) rfl ?_ ?_
  · intro v w1 hh
    cases o <;> cases hh <;> rfl
  · intro X C hQ
    rw [f_X4_greatestFrom_bad] at h
    refine g_aload_n C 0 rfl rfl dX4_greatestFrom_0 ?_
    refine g_iload_n C 1 rfl rfl dX4_greatestFrom_1 ?_
    obtain ⟨oc2, eoc2, fx3, fk4⟩ := tB_some h
    refine g_callVr (As := [.int p1]) (n9 := 1) (st := []) (w2 := fun g1 => (wB E a ++ wA E a)) C (c_X4_houseAt E a p1 oc2 eoc2) gX4_greatestFrom_X4_houseAt rfl (by decide +kernel) rfl ⟨by decide, by decide, by decide, by decide, Nat.le_of_ble_eq_true rfl⟩ 0 rfl rfl (gSub.idx [0, 1] rfl rfl) (fun _ => rfl) dX4_greatestFrom_2 (fun x9 h9 => ⟨hQ, by rw [fx3 x9 h9]; rfl, rfl, (fun _ h => h), by decide, by decide⟩) (fun g1 h9oc2 => ?_)
    replace h := fk4 g1 h9oc2
    exact (hbad (eoc2.trans (congrArg some h9oc2))).elim
abbrev r_X4_busy : Room := { frames := 9, cells := 2, slots := 12, locals := 141 }
theorem i_X4_busy_X1 : ∀ w ∈ wsX10, w ∈ wsX4_busy := by decide +kernel
set_option maxHeartbeats 4000000 in
set_option maxRecDepth 100000 in
theorem c_X4_busy (E : gE) (a : Nat → Nat) (k : Nat) (lt : RS) (ls : RS) (lw : RS) (lh : RS) (lx : RS) (nu : Int32) (z : Int32) (q : RS) (u : RS) (t : RS) (c : RS) (p1 : Int32) (p2 : Int32) (p3 : Int32) (hk : f_X4_houseAt p1 = some (.inr k)) (o : (String ⊕ (Int32))) (h : f_X4_busy t c p1 p2 p3 = some o) : Ct E yX4_busy wsX4_busy r_X4_busy [.ref (a 0), .int p1, .int p2, .int p3] (wB E a ++ (wX2 E a 2 lt ls lw lh lx ++ (wX1 E a (18 + 10 * k) nu z q u t c ++ wA E a))) (gO (fun u9 => some (.int u9)) (fun u9 => (wB E a ++ (wX2 E a 2 lt ls lw lh lx ++ (wX1 E a (18 + 10 * k) nu z q u t c ++ wA E a)))) o) := by
  refine Ct.of (cc := cX4_busy) (nL := 5) (ret := ((some .int))) (own := RX4) (by decide) rfl rfl (Nat.le_of_ble_eq_true rfl) rfl ?_ ?_
  · intro v w1 hh
    cases o <;> cases hh <;> rfl
  · intro X C hQ
    rw [f_X4_busy] at h
    refine g_aload_n C 0 rfl rfl dX4_busy_0 ?_
    refine g_iload_n C 1 rfl rfl dX4_busy_1 ?_
    obtain ⟨oc2, eoc2, fx3, fk4⟩ := tB_some h
    refine g_callVr (As := [.int p1]) (n9 := 1) (st := []) (w2 := fun g1 => (wB E a ++ (wX2 E a 2 lt ls lw lh lx ++ (wX1 E a (18 + 10 * k) nu z q u t c ++ wA E a)))) C (c_X4_houseAt E a p1 oc2 eoc2) gX4_busy_X4_houseAt rfl (by decide +kernel) rfl ⟨by decide, by decide, by decide, by decide, Nat.le_of_ble_eq_true rfl⟩ 0 rfl rfl (gSub.idx [0, 22] rfl rfl) (fun _ => rfl) dX4_busy_2 (fun x9 h9 => ⟨hQ, by rw [fx3 x9 h9]; rfl, rfl, (fun _ h => h), by decide, by decide⟩) (fun g1 h9oc2 => ?_)
    replace h := fk4 g1 h9oc2
    obtain rfl : k = g1 := khyp eoc2 h9oc2 hk
    refine g_X1_crowdN C i_X4_busy_X1 (by decide +kernel) 12 rfl dX4_busy_5 ?_
    refine g_astore C (lv2 := [(4, .ref (a (18 + 10 * k + 5))), (0, .ref (a 0)), (1, .int p1), (2, .int p2), (3, .int p3)]) rfl (by decide) dX4_busy_8 ?_
    refine g_iload_n C 3 rfl rfl dX4_busy_10 ?_
    refine g_iload_n C 4 rfl rfl dX4_busy_11 ?_
    obtain ⟨oc6, eoc6, fx7, fk8⟩ := tB_some h
    refine g_callSv (As := [.int p2, .int p3]) (n9 := 2) (st := []) (w2 := fun g5 => (wB E a ++ (wX2 E a 2 lt ls lw lh lx ++ (wX1 E a (18 + 10 * k) nu z q u t c ++ wA E a)))) C (c_X4_refuseIfTurned E p2 p3 oc6 eoc6) gX4_busy_X4_refuseIfTurned rfl (by decide +kernel) rfl ⟨by decide, by decide, by decide, by decide, Nat.le_of_ble_eq_true rfl⟩ (gSub.idx [] rfl rfl) (fun _ => rfl) dX4_busy_12 (fun x9 h9 => ⟨hQ, by rw [fx7 x9 h9]; rfl, rfl, (fun _ h => h), by decide, by decide⟩) (fun g5 h9oc6 => ?_)
    replace h := fk8 g5 h9oc6
    refine g_aload C 0 rfl dX4_busy_15 ?_
    refine g_iload_n C 3 rfl rfl dX4_busy_17 ?_
    refine g_iload_n C 4 rfl rfl dX4_busy_18 ?_
    obtain ⟨g9, eg9, h⟩ := Option.bind_eq_some_iff.mp h
    refine g_cVr (As := [.int p2, .int p3]) (n9 := 2) (st := []) (w2 := (wB E a ++ (wX2 E a 2 lt ls lw lh lx ++ (wX1 E a (18 + 10 * k) nu z q u t c ++ wA E a)))) C (c_X0_busyTimes E a (18 + 10 * k + 5) t c p2 p3 g9 eg9) gX4_busy_X0_busyTimes rfl (by decide +kernel) rfl ⟨by decide, by decide, by decide, by decide, Nat.le_of_ble_eq_true rfl⟩ 0 rfl rfl (gSub.idx [17, 18, 19, 20, 21] rfl rfl) rfl dX4_busy_19 ?_
    obtain rfl := Option.some.inj h
    exact g_iret C hQ rfl ⟨by decide, by decide⟩ dX4_busy_22
abbrev r_X4_busy_bad : Room := { frames := 9, cells := 2, slots := 12, locals := 141 }
set_option maxHeartbeats 4000000 in
set_option maxRecDepth 100000 in
theorem c_X4_busy_bad (E : gE) (a : Nat → Nat) (p1 : Int32) (p2 : Int32) (p3 : Int32) (hbad : ∀ {x : Nat}, f_X4_houseAt p1 = some (.inr x) → False) (o : (String ⊕ (Int32))) (h : f_X4_busy_bad p1 = some o) : Ct E yX4_busy wsX4_busy r_X4_busy_bad [.ref (a 0), .int p1, .int p2, .int p3] (wB E a ++ wA E a) (gO (fun u9 => some (.int u9)) (fun u9 => (wB E a ++ wA E a)) o) := by
  refine Ct.of (cc := cX4_busy) (nL := 5) (ret := ((some .int))) (own := RX4) (by decide) rfl rfl (Nat.le_of_ble_eq_true rfl) rfl ?_ ?_
  · intro v w1 hh
    cases o <;> cases hh <;> rfl
  · intro X C hQ
    rw [f_X4_busy_bad] at h
    refine g_aload_n C 0 rfl rfl dX4_busy_0 ?_
    refine g_iload_n C 1 rfl rfl dX4_busy_1 ?_
    obtain ⟨oc2, eoc2, fx3, fk4⟩ := tB_some h
    refine g_callVr (As := [.int p1]) (n9 := 1) (st := []) (w2 := fun g1 => (wB E a ++ wA E a)) C (c_X4_houseAt E a p1 oc2 eoc2) gX4_busy_X4_houseAt rfl (by decide +kernel) rfl ⟨by decide, by decide, by decide, by decide, Nat.le_of_ble_eq_true rfl⟩ 0 rfl rfl (gSub.idx [0, 1] rfl rfl) (fun _ => rfl) dX4_busy_2 (fun x9 h9 => ⟨hQ, by rw [fx3 x9 h9]; rfl, rfl, (fun _ h => h), by decide, by decide⟩) (fun g1 h9oc2 => ?_)
    replace h := fk4 g1 h9oc2
    exact (hbad (eoc2.trans (congrArg some h9oc2))).elim
abbrev r_X4_spans : Room := { frames := 9, cells := 1, slots := 6, locals := 141 }
theorem i_X4_spans_X1 : ∀ w ∈ wsX10, w ∈ wsX4_spans := by decide +kernel
set_option maxHeartbeats 4000000 in
set_option maxRecDepth 100000 in
theorem c_X4_spans (E : gE) (a : Nat → Nat) (k : Nat) (lt : RS) (ls : RS) (lw : RS) (lh : RS) (lx : RS) (nu : Int32) (z : Int32) (q : RS) (u : RS) (t : RS) (c : RS) (p1 : Int32) (hk : f_X4_houseAt p1 = some (.inr k)) (o : (String ⊕ (Int32))) (h : f_X4_spans t c p1 = some o) : Ct E yX4_spans wsX4_spans r_X4_spans [.ref (a 0), .int p1] (wB E a ++ (wX2 E a 2 lt ls lw lh lx ++ (wX1 E a (18 + 10 * k) nu z q u t c ++ wA E a))) (gO (fun u9 => some (.int u9)) (fun u9 => (wB E a ++ (wX2 E a 2 lt ls lw lh lx ++ (wX1 E a (18 + 10 * k) nu z q u t c ++ wA E a)))) o) := by
  refine Ct.of (cc := cX4_spans) (nL := 2) (ret := ((some .int))) (own := RX4) (by decide) rfl rfl (Nat.le_of_ble_eq_true rfl) rfl ?_ ?_
  · intro v w1 hh
    cases o <;> cases hh <;> rfl
  · intro X C hQ
    rw [f_X4_spans] at h
    refine g_aload_n C 0 rfl rfl dX4_spans_0 ?_
    refine g_iload_n C 1 rfl rfl dX4_spans_1 ?_
    obtain ⟨oc2, eoc2, fx3, fk4⟩ := tB_some h
    refine g_callVr (As := [.int p1]) (n9 := 1) (st := []) (w2 := fun g1 => (wB E a ++ (wX2 E a 2 lt ls lw lh lx ++ (wX1 E a (18 + 10 * k) nu z q u t c ++ wA E a)))) C (c_X4_houseAt E a p1 oc2 eoc2) gX4_spans_X4_houseAt rfl (by decide +kernel) rfl ⟨by decide, by decide, by decide, by decide, Nat.le_of_ble_eq_true rfl⟩ 0 rfl rfl (gSub.idx [0, 22] rfl rfl) (fun _ => rfl) dX4_spans_2 (fun x9 h9 => ⟨hQ, by rw [fx3 x9 h9]; rfl, rfl, (fun _ h => h), by decide, by decide⟩) (fun g1 h9oc2 => ?_)
    replace h := fk4 g1 h9oc2
    obtain rfl : k = g1 := khyp eoc2 h9oc2 hk
    refine g_X1_crowdN C i_X4_spans_X1 (by decide +kernel) 12 rfl dX4_spans_5 ?_
    obtain ⟨g5, eg5, h⟩ := Option.bind_eq_some_iff.mp h
    refine g_cVr (As := []) (n9 := 0) (st := []) (w2 := (wB E a ++ (wX2 E a 2 lt ls lw lh lx ++ (wX1 E a (18 + 10 * k) nu z q u t c ++ wA E a)))) C (c_X0_busySpans E a (18 + 10 * k + 5) t c g5 eg5) gX4_spans_X0_busySpans rfl (by decide +kernel) rfl ⟨by decide, by decide, by decide, by decide, Nat.le_of_ble_eq_true rfl⟩ 0 rfl rfl (gSub.idx [17, 18, 19, 20, 21] rfl rfl) rfl dX4_spans_8 ?_
    obtain rfl := Option.some.inj h
    exact g_iret C hQ rfl ⟨by decide, by decide⟩ dX4_spans_11
abbrev r_X4_spans_bad : Room := { frames := 9, cells := 1, slots := 6, locals := 141 }
set_option maxHeartbeats 4000000 in
set_option maxRecDepth 100000 in
theorem c_X4_spans_bad (E : gE) (a : Nat → Nat) (p1 : Int32) (hbad : ∀ {x : Nat}, f_X4_houseAt p1 = some (.inr x) → False) (o : (String ⊕ (Int32))) (h : f_X4_spans_bad p1 = some o) : Ct E yX4_spans wsX4_spans r_X4_spans_bad [.ref (a 0), .int p1] (wB E a ++ wA E a) (gO (fun u9 => some (.int u9)) (fun u9 => (wB E a ++ wA E a)) o) := by
  refine Ct.of (cc := cX4_spans) (nL := 2) (ret := ((some .int))) (own := RX4) (by decide) rfl rfl (Nat.le_of_ble_eq_true rfl) rfl ?_ ?_
  · intro v w1 hh
    cases o <;> cases hh <;> rfl
  · intro X C hQ
    rw [f_X4_spans_bad] at h
    refine g_aload_n C 0 rfl rfl dX4_spans_0 ?_
    refine g_iload_n C 1 rfl rfl dX4_spans_1 ?_
    obtain ⟨oc2, eoc2, fx3, fk4⟩ := tB_some h
    refine g_callVr (As := [.int p1]) (n9 := 1) (st := []) (w2 := fun g1 => (wB E a ++ wA E a)) C (c_X4_houseAt E a p1 oc2 eoc2) gX4_spans_X4_houseAt rfl (by decide +kernel) rfl ⟨by decide, by decide, by decide, by decide, Nat.le_of_ble_eq_true rfl⟩ 0 rfl rfl (gSub.idx [0, 1] rfl rfl) (fun _ => rfl) dX4_spans_2 (fun x9 h9 => ⟨hQ, by rw [fx3 x9 h9]; rfl, rfl, (fun _ h => h), by decide, by decide⟩) (fun g1 h9oc2 => ?_)
    replace h := fk4 g1 h9oc2
    exact (hbad (eoc2.trans (congrArg some h9oc2))).elim
abbrev r_X4_span : Room := { frames := 9, cells := 2, slots := 12, locals := 141 }
theorem i_X4_span_X1 : ∀ w ∈ wsX10, w ∈ wsX4_span := by decide +kernel
theorem tf_X4_span_46 : gTh wsX4_span RX4 "java/lang/IllegalArgumentException" 46 50 := ⟨by decide +kernel, by decide +kernel, by decide +kernel, by decide +kernel, by decide +kernel, by decide +kernel⟩
theorem i_X4_span_X0 : ∀ w ∈ wsX00, w ∈ wsX4_span := by decide +kernel
theorem tf_X4_span_96 : gThN wsX4_span RX4 96 100 := ⟨by decide +kernel, by decide +kernel, by decide +kernel, by decide +kernel, by decide +kernel⟩
set_option maxHeartbeats 4000000 in
set_option maxRecDepth 100000 in
theorem v_X4_span_38 {E : gE} {X : gX} {a : Nat → Nat} {k : Nat} {lt : RS} {ls : RS} {lw : RS} {lh : RS} {lx : RS} {nu : Int32} {z : Int32} {q : RS} {u : RS} {t : RS} {c : RS} {p1 : Int32} {v2 : Int32} {v3 : Int32} {o : (String ⊕ (Int32))} (hk : f_X4_houseAt p1 = some (.inr k)) (C : Cx E X cX4_span 6 RX4 wsX4_span r_X4_span ((some .int)) []) (hQ : gQ E X (wB E a ++ (wX2 E a 2 lt ls lw lh lx ++ (wX1 E a (18 + 10 * k) nu z q u t c ++ wA E a))) r_X4_span (gO (fun u9 => some (.int u9)) (fun u9 => (wB E a ++ (wX2 E a 2 lt ls lw lh lx ++ (wX1 E a (18 + 10 * k) nu z q u t c ++ wA E a)))) o)) (h : b_X4_span_38 t c v2 v3 = some o) : Gx E X (wB E a ++ (wX2 E a 2 lt ls lw lh lx ++ (wX1 E a (18 + 10 * k) nu z q u t c ++ wA E a))) 6 [(2, .int v2), (3, .int v3), (4, .ref (a (18 + 10 * k + 5)))] [] 38 1 6 := by
  rw [b_X4_span_38] at h
  refine g_aload C 2 rfl dX4_span_38 ?_
  refine g_iload_n C 0 rfl rfl dX4_span_40 ?_
  obtain ⟨g1, eg1, h⟩ := Option.bind_eq_some_iff.mp h
  refine g_cVr (As := [.int v2]) (n9 := 1) (st := []) (w2 := (wB E a ++ (wX2 E a 2 lt ls lw lh lx ++ (wX1 E a (18 + 10 * k) nu z q u t c ++ wA E a)))) C (c_X0_firstChangeOf E a (18 + 10 * k + 5) t c v2 g1 eg1) gX4_span_X0_firstChangeOf rfl (by decide +kernel) rfl ⟨by decide, by decide, by decide, by decide, Nat.le_of_ble_eq_true rfl⟩ 0 rfl rfl (gSub.idx [17, 18, 19, 20, 21] rfl rfl) rfl dX4_span_41 ?_
  refine g_istore C (lv2 := [(5, .int g1), (2, .int v2), (3, .int v3), (4, .ref (a (18 + 10 * k + 5)))]) rfl (by decide) dX4_span_44 ?_
  refine g_iload C 0 rfl dX4_span_46 ?_
  refine g_if_ge C (tgt := 61) dX4_span_48 (by decide) (fun cd2 => ?_) (fun cd2 => ?_)
  · replace h := (if_pos cd2).symm.trans h
    refine g_iload_n C 2 rfl rfl dX4_span_61 ?_
    refine g_bipush C (v := 98) (by decide) dX4_span_62 ?_
    refine g_icmp_ne C (tgt := 78) dX4_span_64 (by decide) (fun cd3 => ?_) (fun cd3 => ?_)
    · replace h := (if_neg cd3).symm.trans h
      refine g_iload_n C 2 rfl rfl dX4_span_78 ?_
      refine g_bipush C (v := 101) (by decide) dX4_span_79 ?_
      refine g_icmp_ne C (tgt := 94) dX4_span_81 (by decide) (fun cd4 => ?_) (fun cd4 => ?_)
      · replace h := (if_neg cd4).symm.trans h
        refine g_aload C 3 rfl dX4_span_94 ?_
        refine g_iload C 0 rfl dX4_span_96 ?_
        obtain ⟨g5, eg5, h⟩ := Option.bind_eq_some_iff.mp h
        refine g_cVr (As := [.int g1]) (n9 := 1) (st := []) (w2 := (wB E a ++ (wX2 E a 2 lt ls lw lh lx ++ (wX1 E a (18 + 10 * k) nu z q u t c ++ wA E a)))) C (c_X0_highestOfSpan E a (18 + 10 * k + 5) t c g1 g5 eg5) gX4_span_X0_highestOfSpan rfl (by decide +kernel) rfl ⟨by decide, by decide, by decide, by decide, Nat.le_of_ble_eq_true rfl⟩ 0 rfl rfl (gSub.idx [17, 18, 19, 20, 21] rfl rfl) rfl dX4_span_98 ?_
        obtain rfl := Option.some.inj h
        exact g_iret C hQ rfl ⟨by decide, by decide⟩ dX4_span_101
      · replace h := (if_pos cd4).symm.trans h
        refine g_aload C 3 rfl dX4_span_84 ?_
        refine g_iload C 0 rfl dX4_span_86 ?_
        obtain ⟨g6, eg6, h⟩ := Option.bind_eq_some_iff.mp h
        refine g_cVr (As := [.int g1]) (n9 := 1) (st := []) (w2 := (wB E a ++ (wX2 E a 2 lt ls lw lh lx ++ (wX1 E a (18 + 10 * k) nu z q u t c ++ wA E a)))) C (c_X0_endOfSpan E a (18 + 10 * k + 5) t c g1 g6 eg6) gX4_span_X0_endOfSpan rfl (by decide +kernel) rfl ⟨by decide, by decide, by decide, by decide, Nat.le_of_ble_eq_true rfl⟩ 0 rfl rfl (gSub.idx [17, 18, 19, 20, 21] rfl rfl) rfl dX4_span_88 ?_
        refine g_goto C (tgt := 101) dX4_span_91 (by decide) ?_
        obtain rfl := Option.some.inj h
        exact g_iret C hQ rfl ⟨by decide, by decide⟩ dX4_span_101
    · replace h := (if_pos cd3).symm.trans h
      refine g_aload C 3 rfl dX4_span_67 ?_
      refine g_X0_timesN C i_X4_span_X0 (by decide +kernel) 17 rfl dX4_span_69 ?_
      refine g_iload C 0 rfl dX4_span_72 ?_
      obtain ⟨g7, eg7, h⟩ := Option.bind_eq_some_iff.mp h
      refine g_cVr (As := [.int g1]) (n9 := 1) (st := []) (w2 := (wB E a ++ (wX2 E a 2 lt ls lw lh lx ++ (wX1 E a (18 + 10 * k) nu z q u t c ++ wA E a)))) C (c_X3_get E (a (18 + 10 * k + 5 + 1)) (a (18 + 10 * k + 5 + 2)) 240 t g1 g7 eg7) gX4_span_X3_get rfl (by decide +kernel) rfl ⟨by decide, by decide, by decide, by decide, Nat.le_of_ble_eq_true rfl⟩ 0 rfl rfl (gSub.idx [18, 19] rfl rfl) rfl dX4_span_74 ?_
      obtain rfl := Option.some.inj h
      exact g_iret C hQ rfl ⟨by decide, by decide⟩ dX4_span_77
  · replace h := (if_neg cd2).symm.trans h
    obtain rfl := Option.some.inj h
    exact g_throwN C hQ rfl rfl tf_X4_span_96 (text := "no such place") (is9 := 211) (by decide +kernel) ⟨by decide, Nat.le_of_ble_eq_true rfl, by decide, by decide, by decide, by decide⟩ dX4_span_51 dX4_span_54 dX4_span_55 dX4_span_57 dX4_span_60
set_option maxHeartbeats 4000000 in
set_option maxRecDepth 100000 in
theorem c_X4_span (E : gE) (a : Nat → Nat) (k : Nat) (lt : RS) (ls : RS) (lw : RS) (lh : RS) (lx : RS) (nu : Int32) (z : Int32) (q : RS) (u : RS) (t : RS) (c : RS) (p1 : Int32) (p2 : Int32) (p3 : Int32) (hk : f_X4_houseAt p1 = some (.inr k)) (o : (String ⊕ (Int32))) (h : f_X4_span t c p1 p2 p3 = some o) : Ct E yX4_span wsX4_span r_X4_span [.ref (a 0), .int p1, .int p2, .int p3] (wB E a ++ (wX2 E a 2 lt ls lw lh lx ++ (wX1 E a (18 + 10 * k) nu z q u t c ++ wA E a))) (gO (fun u9 => some (.int u9)) (fun u9 => (wB E a ++ (wX2 E a 2 lt ls lw lh lx ++ (wX1 E a (18 + 10 * k) nu z q u t c ++ wA E a)))) o) := by
  refine Ct.of (cc := cX4_span) (nL := 6) (ret := ((some .int))) (own := RX4) (by decide) rfl rfl (Nat.le_of_ble_eq_true rfl) rfl ?_ ?_
  · intro v w1 hh
    cases o <;> cases hh <;> rfl
  · intro X C hQ
    rw [f_X4_span] at h
    refine g_aload_n C 0 rfl rfl dX4_span_0 ?_
    refine g_iload_n C 1 rfl rfl dX4_span_1 ?_
    obtain ⟨oc2, eoc2, fx3, fk4⟩ := tB_some h
    refine g_callVr (As := [.int p1]) (n9 := 1) (st := []) (w2 := fun g1 => (wB E a ++ (wX2 E a 2 lt ls lw lh lx ++ (wX1 E a (18 + 10 * k) nu z q u t c ++ wA E a)))) C (c_X4_houseAt E a p1 oc2 eoc2) gX4_span_X4_houseAt rfl (by decide +kernel) rfl ⟨by decide, by decide, by decide, by decide, Nat.le_of_ble_eq_true rfl⟩ 0 rfl rfl (gSub.idx [0, 22] rfl rfl) (fun _ => rfl) dX4_span_2 (fun x9 h9 => ⟨hQ, by rw [fx3 x9 h9]; rfl, rfl, (fun _ h => h), by decide, by decide⟩) (fun g1 h9oc2 => ?_)
    replace h := fk4 g1 h9oc2
    obtain rfl : k = g1 := khyp eoc2 h9oc2 hk
    refine g_X1_crowdN C i_X4_span_X1 (by decide +kernel) 12 rfl dX4_span_5 ?_
    refine g_astore C (lv2 := [(4, .ref (a (18 + 10 * k + 5))), (0, .ref (a 0)), (1, .int p1), (2, .int p2), (3, .int p3)]) rfl (by decide) dX4_span_8 ?_
    refine g_iload_n C 4 rfl rfl dX4_span_10 ?_
    refine g_bipush C (v := 98) (by decide) dX4_span_11 ?_
    refine g_icmp_eq C (tgt := 38) dX4_span_13 (by decide) (fun cd5 => ?_) (fun cd5 => ?_)
    · replace h := (if_pos cd5).symm.trans h
      refine g_lv [3, 4, 0] (lv2 := [(2, .int p2), (3, .int p3), (4, .ref (a (18 + 10 * k + 5)))]) rfl ?_
      exact v_X4_span_38 (v2 := p2) (v3 := p3) hk C hQ h
    · replace h := (if_neg cd5).symm.trans h
      refine g_iload_n C 4 rfl rfl dX4_span_16 ?_
      refine g_bipush C (v := 101) (by decide) dX4_span_17 ?_
      refine g_icmp_eq C (tgt := 38) dX4_span_19 (by decide) (fun cd6 => ?_) (fun cd6 => ?_)
      · replace h := (if_pos cd6).symm.trans h
        refine g_lv [3, 4, 0] (lv2 := [(2, .int p2), (3, .int p3), (4, .ref (a (18 + 10 * k + 5)))]) rfl ?_
        exact v_X4_span_38 (v2 := p2) (v3 := p3) hk C hQ h
      · replace h := (if_neg cd6).symm.trans h
        refine g_iload_n C 4 rfl rfl dX4_span_22 ?_
        refine g_bipush C (v := 103) (by decide) dX4_span_23 ?_
        refine g_icmp_eq C (tgt := 38) dX4_span_25 (by decide) (fun cd7 => ?_) (fun cd7 => ?_)
        · replace h := (if_pos cd7).symm.trans h
          refine g_lv [3, 4, 0] (lv2 := [(2, .int p2), (3, .int p3), (4, .ref (a (18 + 10 * k + 5)))]) rfl ?_
          exact v_X4_span_38 (v2 := p2) (v3 := p3) hk C hQ h
        · replace h := (if_neg cd7).symm.trans h
          obtain rfl := Option.some.inj h
          exact g_throwS C hQ rfl rfl tf_X4_span_46 (text := "what is none of b, e and g") (is9 := 206) (by decide +kernel) ⟨by decide, Nat.le_of_ble_eq_true rfl, by decide, by decide, by decide, by decide⟩ dX4_span_28 dX4_span_31 dX4_span_32 dX4_span_34 dX4_span_37
abbrev r_X4_span_bad : Room := { frames := 9, cells := 2, slots := 12, locals := 141 }
set_option maxHeartbeats 4000000 in
set_option maxRecDepth 100000 in
theorem c_X4_span_bad (E : gE) (a : Nat → Nat) (p1 : Int32) (p2 : Int32) (p3 : Int32) (hbad : ∀ {x : Nat}, f_X4_houseAt p1 = some (.inr x) → False) (o : (String ⊕ (Int32))) (h : f_X4_span_bad p1 = some o) : Ct E yX4_span wsX4_span r_X4_span_bad [.ref (a 0), .int p1, .int p2, .int p3] (wB E a ++ wA E a) (gO (fun u9 => some (.int u9)) (fun u9 => (wB E a ++ wA E a)) o) := by
  refine Ct.of (cc := cX4_span) (nL := 6) (ret := ((some .int))) (own := RX4) (by decide) rfl rfl (Nat.le_of_ble_eq_true rfl) rfl ?_ ?_
  · intro v w1 hh
    cases o <;> cases hh <;> rfl
  · intro X C hQ
    rw [f_X4_span_bad] at h
    refine g_aload_n C 0 rfl rfl dX4_span_0 ?_
    refine g_iload_n C 1 rfl rfl dX4_span_1 ?_
    obtain ⟨oc2, eoc2, fx3, fk4⟩ := tB_some h
    refine g_callVr (As := [.int p1]) (n9 := 1) (st := []) (w2 := fun g1 => (wB E a ++ wA E a)) C (c_X4_houseAt E a p1 oc2 eoc2) gX4_span_X4_houseAt rfl (by decide +kernel) rfl ⟨by decide, by decide, by decide, by decide, Nat.le_of_ble_eq_true rfl⟩ 0 rfl rfl (gSub.idx [0, 1] rfl rfl) (fun _ => rfl) dX4_span_2 (fun x9 h9 => ⟨hQ, by rw [fx3 x9 h9]; rfl, rfl, (fun _ h => h), by decide, by decide⟩) (fun g1 h9oc2 => ?_)
    replace h := fk4 g1 h9oc2
    exact (hbad (eoc2.trans (congrArg some h9oc2))).elim
abbrev r_X4_free : Room := { frames := 9, cells := 2, slots := 12, locals := 141 }
theorem i_X4_free_X1 : ∀ w ∈ wsX10, w ∈ wsX4_free := by decide +kernel
theorem tf_X4_free_46 : gTh wsX4_free RX4 "java/lang/IllegalArgumentException" 46 50 := ⟨by decide +kernel, by decide +kernel, by decide +kernel, by decide +kernel, by decide +kernel, by decide +kernel⟩
set_option maxHeartbeats 4000000 in
set_option maxRecDepth 100000 in
theorem c_X4_free (E : gE) (a : Nat → Nat) (k : Nat) (lt : RS) (ls : RS) (lw : RS) (lh : RS) (lx : RS) (nu : Int32) (z : Int32) (q : RS) (u : RS) (t : RS) (c : RS) (p1 : Int32) (p2 : Int32) (p3 : Int32) (hk : f_X4_houseAt p1 = some (.inr k)) (o : (String ⊕ (Int32))) (h : f_X4_free t c p1 p2 p3 = some o) : Ct E yX4_free wsX4_free r_X4_free [.ref (a 0), .int p1, .int p2, .int p3] (wB E a ++ (wX2 E a 2 lt ls lw lh lx ++ (wX1 E a (18 + 10 * k) nu z q u t c ++ wA E a))) (gO (fun u9 => some (.int u9)) (fun u9 => (wB E a ++ (wX2 E a 2 lt ls lw lh lx ++ (wX1 E a (18 + 10 * k) nu z q u t c ++ wA E a)))) o) := by
  refine Ct.of (cc := cX4_free) (nL := 5) (ret := ((some .int))) (own := RX4) (by decide) rfl rfl (Nat.le_of_ble_eq_true rfl) rfl ?_ ?_
  · intro v w1 hh
    cases o <;> cases hh <;> rfl
  · intro X C hQ
    rw [f_X4_free] at h
    refine g_aload_n C 0 rfl rfl dX4_free_0 ?_
    refine g_iload_n C 1 rfl rfl dX4_free_1 ?_
    obtain ⟨oc2, eoc2, fx3, fk4⟩ := tB_some h
    refine g_callVr (As := [.int p1]) (n9 := 1) (st := []) (w2 := fun g1 => (wB E a ++ (wX2 E a 2 lt ls lw lh lx ++ (wX1 E a (18 + 10 * k) nu z q u t c ++ wA E a)))) C (c_X4_houseAt E a p1 oc2 eoc2) gX4_free_X4_houseAt rfl (by decide +kernel) rfl ⟨by decide, by decide, by decide, by decide, Nat.le_of_ble_eq_true rfl⟩ 0 rfl rfl (gSub.idx [0, 22] rfl rfl) (fun _ => rfl) dX4_free_2 (fun x9 h9 => ⟨hQ, by rw [fx3 x9 h9]; rfl, rfl, (fun _ h => h), by decide, by decide⟩) (fun g1 h9oc2 => ?_)
    replace h := fk4 g1 h9oc2
    obtain rfl : k = g1 := khyp eoc2 h9oc2 hk
    refine g_X1_crowdN C i_X4_free_X1 (by decide +kernel) 12 rfl dX4_free_5 ?_
    refine g_astore C (lv2 := [(4, .ref (a (18 + 10 * k + 5))), (0, .ref (a 0)), (1, .int p1), (2, .int p2), (3, .int p3)]) rfl (by decide) dX4_free_8 ?_
    refine g_iload_n C 3 rfl rfl dX4_free_10 ?_
    refine g_iconst C (v := 0) (by decide) dX4_free_11 ?_
    refine g_sipush C (v := 20000) (by decide) dX4_free_12 ?_
    obtain ⟨g5, eg5, h⟩ := Option.bind_eq_some_iff.mp h
    refine g_cSr (As := [.int p2, .int 0, .int 20000]) (n9 := 3) (st := []) (w2 := (wB E a ++ (wX2 E a 2 lt ls lw lh lx ++ (wX1 E a (18 + 10 * k) nu z q u t c ++ wA E a)))) C (c_X4_isIn E p2 0 20000 g5 eg5) gX4_free_X4_isIn rfl (by decide +kernel) rfl ⟨by decide, by decide, by decide, by decide, Nat.le_of_ble_eq_true rfl⟩ (gSub.idx [] rfl rfl) rfl dX4_free_15 ?_
    refine g_if_eq C (tgt := 32) dX4_free_18 (by decide) (fun cd6 => ?_) (fun cd6 => ?_)
    · replace h := (if_pos cd6).symm.trans h
      obtain rfl := Option.some.inj h
      exact g_throwS C hQ rfl rfl tf_X4_free_46 (text := "from or many is out of range") (is9 := 220) (by decide +kernel) ⟨by decide, Nat.le_of_ble_eq_true rfl, by decide, by decide, by decide, by decide⟩ dX4_free_32 dX4_free_35 dX4_free_36 dX4_free_38 dX4_free_41
    · replace h := (if_neg cd6).symm.trans h
      refine g_iload_n C 4 rfl rfl dX4_free_21 ?_
      refine g_iconst C (v := 1) (by decide) dX4_free_22 ?_
      refine g_sipush C (v := 500) (by decide) dX4_free_23 ?_
      obtain ⟨g7, eg7, h⟩ := Option.bind_eq_some_iff.mp h
      refine g_cSr (As := [.int p3, .int 1, .int 500]) (n9 := 3) (st := []) (w2 := (wB E a ++ (wX2 E a 2 lt ls lw lh lx ++ (wX1 E a (18 + 10 * k) nu z q u t c ++ wA E a)))) C (c_X4_isIn E p3 1 500 g7 eg7) gX4_free_X4_isIn rfl (by decide +kernel) rfl ⟨by decide, by decide, by decide, by decide, Nat.le_of_ble_eq_true rfl⟩ (gSub.idx [] rfl rfl) rfl dX4_free_26 ?_
      refine g_if_ne C (tgt := 42) dX4_free_29 (by decide) (fun cd8 => ?_) (fun cd8 => ?_)
      · replace h := (if_neg cd8).symm.trans h
        refine g_aload C 0 rfl dX4_free_42 ?_
        refine g_iload_n C 3 rfl rfl dX4_free_44 ?_
        refine g_iload_n C 4 rfl rfl dX4_free_45 ?_
        obtain ⟨g9, eg9, h⟩ := Option.bind_eq_some_iff.mp h
        refine g_cVr (As := [.int p2, .int p3]) (n9 := 2) (st := []) (w2 := (wB E a ++ (wX2 E a 2 lt ls lw lh lx ++ (wX1 E a (18 + 10 * k) nu z q u t c ++ wA E a)))) C (c_X0_freeFrom E a (18 + 10 * k + 5) t c p2 p3 g9 eg9) gX4_free_X0_freeFrom rfl (by decide +kernel) rfl ⟨by decide, by decide, by decide, by decide, Nat.le_of_ble_eq_true rfl⟩ 0 rfl rfl (gSub.idx [17, 18, 19, 20, 21] rfl rfl) rfl dX4_free_46 ?_
        obtain rfl := Option.some.inj h
        exact g_iret C hQ rfl ⟨by decide, by decide⟩ dX4_free_49
      · replace h := (if_pos cd8).symm.trans h
        obtain rfl := Option.some.inj h
        exact g_throwS C hQ rfl rfl tf_X4_free_46 (text := "from or many is out of range") (is9 := 220) (by decide +kernel) ⟨by decide, Nat.le_of_ble_eq_true rfl, by decide, by decide, by decide, by decide⟩ dX4_free_32 dX4_free_35 dX4_free_36 dX4_free_38 dX4_free_41
abbrev r_X4_free_bad : Room := { frames := 9, cells := 2, slots := 12, locals := 141 }
set_option maxHeartbeats 4000000 in
set_option maxRecDepth 100000 in
theorem c_X4_free_bad (E : gE) (a : Nat → Nat) (p1 : Int32) (p2 : Int32) (p3 : Int32) (hbad : ∀ {x : Nat}, f_X4_houseAt p1 = some (.inr x) → False) (o : (String ⊕ (Int32))) (h : f_X4_free_bad p1 = some o) : Ct E yX4_free wsX4_free r_X4_free_bad [.ref (a 0), .int p1, .int p2, .int p3] (wB E a ++ wA E a) (gO (fun u9 => some (.int u9)) (fun u9 => (wB E a ++ wA E a)) o) := by
  refine Ct.of (cc := cX4_free) (nL := 5) (ret := ((some .int))) (own := RX4) (by decide) rfl rfl (Nat.le_of_ble_eq_true rfl) rfl ?_ ?_
  · intro v w1 hh
    cases o <;> cases hh <;> rfl
  · intro X C hQ
    rw [f_X4_free_bad] at h
    refine g_aload_n C 0 rfl rfl dX4_free_0 ?_
    refine g_iload_n C 1 rfl rfl dX4_free_1 ?_
    obtain ⟨oc2, eoc2, fx3, fk4⟩ := tB_some h
    refine g_callVr (As := [.int p1]) (n9 := 1) (st := []) (w2 := fun g1 => (wB E a ++ wA E a)) C (c_X4_houseAt E a p1 oc2 eoc2) gX4_free_X4_houseAt rfl (by decide +kernel) rfl ⟨by decide, by decide, by decide, by decide, Nat.le_of_ble_eq_true rfl⟩ 0 rfl rfl (gSub.idx [0, 1] rfl rfl) (fun _ => rfl) dX4_free_2 (fun x9 h9 => ⟨hQ, by rw [fx3 x9 h9]; rfl, rfl, (fun _ h => h), by decide, by decide⟩) (fun g1 h9oc2 => ?_)
    replace h := fk4 g1 h9oc2
    exact (hbad (eoc2.trans (congrArg some h9oc2))).elim
abbrev r_X4_load : Room := { frames := 9, cells := 1, slots := 6, locals := 141 }
theorem i_X4_load_X1 : ∀ w ∈ wsX10, w ∈ wsX4_load := by decide +kernel
set_option maxHeartbeats 4000000 in
set_option maxRecDepth 100000 in
theorem c_X4_load (E : gE) (a : Nat → Nat) (k : Nat) (lt : RS) (ls : RS) (lw : RS) (lh : RS) (lx : RS) (nu : Int32) (z : Int32) (q : RS) (u : RS) (t : RS) (c : RS) (p1 : Int32) (hk : f_X4_houseAt p1 = some (.inr k)) (o : (String ⊕ (Int64))) (h : f_X4_load t c p1 = some o) : Ct E yX4_load wsX4_load r_X4_load [.ref (a 0), .int p1] (wB E a ++ (wX2 E a 2 lt ls lw lh lx ++ (wX1 E a (18 + 10 * k) nu z q u t c ++ wA E a))) (gO (fun u9 => some (.long u9)) (fun u9 => (wB E a ++ (wX2 E a 2 lt ls lw lh lx ++ (wX1 E a (18 + 10 * k) nu z q u t c ++ wA E a)))) o) := by
  refine Ct.of (cc := cX4_load) (nL := 2) (ret := ((some .long))) (own := RX4) (by decide) rfl rfl (Nat.le_of_ble_eq_true rfl) rfl ?_ ?_
  · intro v w1 hh
    cases o <;> cases hh <;> rfl
  · intro X C hQ
    rw [f_X4_load] at h
    refine g_aload_n C 0 rfl rfl dX4_load_0 ?_
    refine g_iload_n C 1 rfl rfl dX4_load_1 ?_
    obtain ⟨oc2, eoc2, fx3, fk4⟩ := tB_some h
    refine g_callVr (As := [.int p1]) (n9 := 1) (st := []) (w2 := fun g1 => (wB E a ++ (wX2 E a 2 lt ls lw lh lx ++ (wX1 E a (18 + 10 * k) nu z q u t c ++ wA E a)))) C (c_X4_houseAt E a p1 oc2 eoc2) gX4_load_X4_houseAt rfl (by decide +kernel) rfl ⟨by decide, by decide, by decide, by decide, Nat.le_of_ble_eq_true rfl⟩ 0 rfl rfl (gSub.idx [0, 22] rfl rfl) (fun _ => rfl) dX4_load_2 (fun x9 h9 => ⟨hQ, by rw [fx3 x9 h9]; rfl, rfl, (fun _ h => h), by decide, by decide⟩) (fun g1 h9oc2 => ?_)
    replace h := fk4 g1 h9oc2
    obtain rfl : k = g1 := khyp eoc2 h9oc2 hk
    refine g_X1_crowdN C i_X4_load_X1 (by decide +kernel) 12 rfl dX4_load_5 ?_
    obtain ⟨g5, eg5, h⟩ := Option.bind_eq_some_iff.mp h
    refine g_cVr (As := []) (n9 := 0) (st := []) (w2 := (wB E a ++ (wX2 E a 2 lt ls lw lh lx ++ (wX1 E a (18 + 10 * k) nu z q u t c ++ wA E a)))) C (c_X0_total E a (18 + 10 * k + 5) t c g5 eg5) gX4_load_X0_total rfl (by decide +kernel) rfl ⟨by decide, by decide, by decide, by decide, Nat.le_of_ble_eq_true rfl⟩ 0 rfl rfl (gSub.idx [17, 18, 19, 20, 21] rfl rfl) rfl dX4_load_8 ?_
    obtain rfl := Option.some.inj h
    exact g_lret C hQ rfl ⟨by decide, by decide⟩ dX4_load_11
abbrev r_X4_load_bad : Room := { frames := 9, cells := 1, slots := 6, locals := 141 }
set_option maxHeartbeats 4000000 in
set_option maxRecDepth 100000 in
theorem c_X4_load_bad (E : gE) (a : Nat → Nat) (p1 : Int32) (hbad : ∀ {x : Nat}, f_X4_houseAt p1 = some (.inr x) → False) (o : (String ⊕ (Int64))) (h : f_X4_load_bad p1 = some o) : Ct E yX4_load wsX4_load r_X4_load_bad [.ref (a 0), .int p1] (wB E a ++ wA E a) (gO (fun u9 => some (.long u9)) (fun u9 => (wB E a ++ wA E a)) o) := by
  refine Ct.of (cc := cX4_load) (nL := 2) (ret := ((some .long))) (own := RX4) (by decide) rfl rfl (Nat.le_of_ble_eq_true rfl) rfl ?_ ?_
  · intro v w1 hh
    cases o <;> cases hh <;> rfl
  · intro X C hQ
    rw [f_X4_load_bad] at h
    refine g_aload_n C 0 rfl rfl dX4_load_0 ?_
    refine g_iload_n C 1 rfl rfl dX4_load_1 ?_
    obtain ⟨oc2, eoc2, fx3, fk4⟩ := tB_some h
    refine g_callVr (As := [.int p1]) (n9 := 1) (st := []) (w2 := fun g1 => (wB E a ++ wA E a)) C (c_X4_houseAt E a p1 oc2 eoc2) gX4_load_X4_houseAt rfl (by decide +kernel) rfl ⟨by decide, by decide, by decide, by decide, Nat.le_of_ble_eq_true rfl⟩ 0 rfl rfl (gSub.idx [0, 1] rfl rfl) (fun _ => rfl) dX4_load_2 (fun x9 h9 => ⟨hQ, by rw [fx3 x9 h9]; rfl, rfl, (fun _ h => h), by decide, by decide⟩) (fun g1 h9oc2 => ?_)
    replace h := fk4 g1 h9oc2
    exact (hbad (eoc2.trans (congrArg some h9oc2))).elim
abbrev r_X4_isQuiet : Room := { frames := 9, cells := 1, slots := 6, locals := 141 }
theorem i_X4_isQuiet_X1 : ∀ w ∈ wsX10, w ∈ wsX4_isQuiet := by decide +kernel
set_option maxHeartbeats 4000000 in
set_option maxRecDepth 100000 in
theorem c_X4_isQuiet (E : gE) (a : Nat → Nat) (k : Nat) (lt : RS) (ls : RS) (lw : RS) (lh : RS) (lx : RS) (nu : Int32) (z : Int32) (q : RS) (u : RS) (t : RS) (c : RS) (p1 : Int32) (hk : f_X4_houseAt p1 = some (.inr k)) (o : (String ⊕ (Bool))) (h : f_X4_isQuiet z q t p1 = some o) : Ct E yX4_isQuiet wsX4_isQuiet r_X4_isQuiet [.ref (a 0), .int p1] (wB E a ++ (wX2 E a 2 lt ls lw lh lx ++ (wX1 E a (18 + 10 * k) nu z q u t c ++ wA E a))) (gO (fun u9 => some (.int (bI u9))) (fun u9 => (wB E a ++ (wX2 E a 2 lt ls lw lh lx ++ (wX1 E a (18 + 10 * k) nu z q u t c ++ wA E a)))) o) := by
  refine Ct.of (cc := cX4_isQuiet) (nL := 3) (ret := ((some .boolean))) (own := RX4) (by decide) rfl rfl (Nat.le_of_ble_eq_true rfl) rfl ?_ ?_
  · intro v w1 hh
    cases o <;> cases hh <;> rfl
  · intro X C hQ
    rw [f_X4_isQuiet] at h
    refine g_aload_n C 0 rfl rfl dX4_isQuiet_0 ?_
    refine g_iload_n C 1 rfl rfl dX4_isQuiet_1 ?_
    obtain ⟨oc2, eoc2, fx3, fk4⟩ := tB_some h
    refine g_callVr (As := [.int p1]) (n9 := 1) (st := []) (w2 := fun g1 => (wB E a ++ (wX2 E a 2 lt ls lw lh lx ++ (wX1 E a (18 + 10 * k) nu z q u t c ++ wA E a)))) C (c_X4_houseAt E a p1 oc2 eoc2) gX4_isQuiet_X4_houseAt rfl (by decide +kernel) rfl ⟨by decide, by decide, by decide, by decide, Nat.le_of_ble_eq_true rfl⟩ 0 rfl rfl (gSub.idx [0, 22] rfl rfl) (fun _ => rfl) dX4_isQuiet_2 (fun x9 h9 => ⟨hQ, by rw [fx3 x9 h9]; rfl, rfl, (fun _ h => h), by decide, by decide⟩) (fun g1 h9oc2 => ?_)
    replace h := fk4 g1 h9oc2
    obtain rfl : k = g1 := khyp eoc2 h9oc2 hk
    refine g_astore_n C (lv2 := [(2, .ref (a (18 + 10 * k))), (0, .ref (a 0)), (1, .int p1)]) rfl (by decide) rfl dX4_isQuiet_5 ?_
    refine g_aload_n C 0 rfl rfl dX4_isQuiet_6 ?_
    refine g_X1_queueN C i_X4_isQuiet_X1 (by decide +kernel) 12 rfl dX4_isQuiet_7 ?_
    obtain ⟨g5, eg5, h⟩ := Option.bind_eq_some_iff.mp h
    refine g_cVr (As := []) (n9 := 0) (st := []) (w2 := (wB E a ++ (wX2 E a 2 lt ls lw lh lx ++ (wX1 E a (18 + 10 * k) nu z q u t c ++ wA E a)))) C (c_X3_size E (a (18 + 10 * k + 1)) (a (18 + 10 * k + 2)) 48 q g5 eg5) gX4_isQuiet_X3_size rfl (by decide +kernel) rfl ⟨by decide, by decide, by decide, by decide, Nat.le_of_ble_eq_true rfl⟩ 0 rfl rfl (gSub.idx [13, 14] rfl rfl) rfl dX4_isQuiet_10 ?_
    refine g_if_ne C (tgt := 34) dX4_isQuiet_13 (by decide) (fun cd6 => ?_) (fun cd6 => ?_)
    · replace h := (if_neg cd6).symm.trans h
      refine g_iconst C (v := 0) (by decide) dX4_isQuiet_34 ?_
      obtain rfl := Option.some.inj h
      exact g_zret C hQ rfl rfl ⟨by decide, by decide⟩ dX4_isQuiet_35
    · replace h := (if_pos cd6).symm.trans h
      refine g_aload_n C 0 rfl rfl dX4_isQuiet_16 ?_
      refine g_X1_crowdN C i_X4_isQuiet_X1 (by decide +kernel) 12 rfl dX4_isQuiet_17 ?_
      refine g_aload_n C 0 rfl rfl dX4_isQuiet_20 ?_
      refine g_X1_nowN C i_X4_isQuiet_X1 (by decide +kernel) 12 rfl dX4_isQuiet_21 ?_
      obtain ⟨g7, eg7, h⟩ := Option.bind_eq_some_iff.mp h
      refine g_cVr (As := [.int z]) (n9 := 1) (st := []) (w2 := (wB E a ++ (wX2 E a 2 lt ls lw lh lx ++ (wX1 E a (18 + 10 * k) nu z q u t c ++ wA E a)))) C (c_X0_isOverAt E a (18 + 10 * k + 5) t c z g7 eg7) gX4_isQuiet_X0_isOverAt rfl (by decide +kernel) rfl ⟨by decide, by decide, by decide, by decide, Nat.le_of_ble_eq_true rfl⟩ 0 rfl rfl (gSub.idx [17, 18, 19, 20, 21] rfl rfl) rfl dX4_isQuiet_24 ?_
      refine g_if_eq C (tgt := 34) dX4_isQuiet_27 (by decide) (fun cd8 => ?_) (fun cd8 => ?_)
      · replace h := (if_pos cd8).symm.trans h
        refine g_iconst C (v := 0) (by decide) dX4_isQuiet_34 ?_
        obtain rfl := Option.some.inj h
        exact g_zret C hQ rfl rfl ⟨by decide, by decide⟩ dX4_isQuiet_35
      · replace h := (if_neg cd8).symm.trans h
        refine g_iconst C (v := 1) (by decide) dX4_isQuiet_30 ?_
        refine g_goto C (tgt := 35) dX4_isQuiet_31 (by decide) ?_
        obtain rfl := Option.some.inj h
        exact g_zret C hQ rfl rfl ⟨by decide, by decide⟩ dX4_isQuiet_35
abbrev r_X4_isQuiet_bad : Room := { frames := 9, cells := 1, slots := 6, locals := 141 }
set_option maxHeartbeats 4000000 in
set_option maxRecDepth 100000 in
theorem c_X4_isQuiet_bad (E : gE) (a : Nat → Nat) (p1 : Int32) (hbad : ∀ {x : Nat}, f_X4_houseAt p1 = some (.inr x) → False) (o : (String ⊕ (Bool))) (h : f_X4_isQuiet_bad p1 = some o) : Ct E yX4_isQuiet wsX4_isQuiet r_X4_isQuiet_bad [.ref (a 0), .int p1] (wB E a ++ wA E a) (gO (fun u9 => some (.int (bI u9))) (fun u9 => (wB E a ++ wA E a)) o) := by
  refine Ct.of (cc := cX4_isQuiet) (nL := 3) (ret := ((some .boolean))) (own := RX4) (by decide) rfl rfl (Nat.le_of_ble_eq_true rfl) rfl ?_ ?_
  · intro v w1 hh
    cases o <;> cases hh <;> rfl
  · intro X C hQ
    rw [f_X4_isQuiet_bad] at h
    refine g_aload_n C 0 rfl rfl dX4_isQuiet_0 ?_
    refine g_iload_n C 1 rfl rfl dX4_isQuiet_1 ?_
    obtain ⟨oc2, eoc2, fx3, fk4⟩ := tB_some h
    refine g_callVr (As := [.int p1]) (n9 := 1) (st := []) (w2 := fun g1 => (wB E a ++ wA E a)) C (c_X4_houseAt E a p1 oc2 eoc2) gX4_isQuiet_X4_houseAt rfl (by decide +kernel) rfl ⟨by decide, by decide, by decide, by decide, Nat.le_of_ble_eq_true rfl⟩ 0 rfl rfl (gSub.idx [0, 1] rfl rfl) (fun _ => rfl) dX4_isQuiet_2 (fun x9 h9 => ⟨hQ, by rw [fx3 x9 h9]; rfl, rfl, (fun _ h => h), by decide, by decide⟩) (fun g1 h9oc2 => ?_)
    replace h := fk4 g1 h9oc2
    exact (hbad (eoc2.trans (congrArg some h9oc2))).elim
abbrev r_X4_about : Room := { frames := 7, cells := 1, slots := 6, locals := 120 }
theorem m_X4_about_0 : Cond.fieldLink RX4 10 "Bookinghouse" "ledger" "LBookinghouse$Ledger;" ∈ wsX4_about := by decide +kernel
theorem i_X4_about_X4 : ∀ w ∈ wsX40, w ∈ wsX4_about := by decide +kernel
theorem tf_X4_about_46 : gTh wsX4_about RX4 "java/lang/IllegalArgumentException" 46 50 := ⟨by decide +kernel, by decide +kernel, by decide +kernel, by decide +kernel, by decide +kernel, by decide +kernel⟩
theorem i_X4_about_X2 : ∀ w ∈ wsX20, w ∈ wsX4_about := by decide +kernel
theorem tf_X4_about_159 : gTh wsX4_about RX4 "java/lang/IndexOutOfBoundsException" 159 163 := ⟨by decide +kernel, by decide +kernel, by decide +kernel, by decide +kernel, by decide +kernel, by decide +kernel⟩
set_option maxHeartbeats 4000000 in
set_option maxRecDepth 100000 in
theorem c_X4_about (E : gE) (a : Nat → Nat) (lt : RS) (ls : RS) (lw : RS) (lh : RS) (lx : RS) (p1 : Int32) (p2 : Int32) (o : (String ⊕ (Int64))) (h : f_X4_about lt ls lw lh lx p1 p2 = some o) : Ct E yX4_about wsX4_about r_X4_about [.ref (a 0), .int p1, .int p2] (wB E a ++ (wX2 E a 2 lt ls lw lh lx ++ wA E a)) (gO (fun u9 => some (.long u9)) (fun u9 => (wB E a ++ (wX2 E a 2 lt ls lw lh lx ++ wA E a))) o) := by
  refine Ct.of (cc := cX4_about) (nL := 3) (ret := ((some .long))) (own := RX4) (by decide) rfl rfl (Nat.le_of_ble_eq_true rfl) rfl ?_ ?_
  · intro v w1 hh
    cases o <;> cases hh <;> rfl
  · intro X C hQ
    rw [f_X4_about] at h
    refine g_iload_n C 1 rfl rfl dX4_about_0 ?_
    refine g_iconst C (v := 0) (by decide) dX4_about_1 ?_
    refine g_aload_n C 0 rfl rfl dX4_about_2 ?_
    refine g_X4_ledger C i_X4_about_X4 m_X4_about_0 0 rfl dX4_about_3 ?_
    refine g_perm (ws2 := (wX2 E a 2 lt ls lw lh lx ++ (wB E a ++ wA E a))) (List.perm_append_comm_assoc _ _ _) ?_
    obtain ⟨g1, eg1, h⟩ := Option.bind_eq_some_iff.mp h
    refine g_cVr (As := []) (n9 := 0) (st := [.int 0, .int p1]) (w2 := (wX2 E a 2 lt ls lw lh lx ++ (wB E a ++ wA E a))) C (c_X2_size E a 2 lt ls lw lh lx g1 eg1) gX4_about_X2_size rfl (by decide +kernel) rfl ⟨by decide, by decide, by decide, by decide, Nat.le_of_ble_eq_true rfl⟩ 0 rfl rfl (gSub.pre (S := (wB E a ++ wA E a)) rfl) rfl dX4_about_6 ?_
    refine g_perm (ws2 := (wB E a ++ (wX2 E a 2 lt ls lw lh lx ++ wA E a))) (List.perm_append_comm_assoc _ _ _) ?_
    refine g_iconst C (v := 1) (by decide) dX4_about_9 ?_
    refine g_isub C dX4_about_10 ?_
    obtain ⟨g2, eg2, h⟩ := Option.bind_eq_some_iff.mp h
    refine g_cSr (As := [.int p1, .int 0, .int (g1 - 1)]) (n9 := 3) (st := []) (w2 := (wB E a ++ (wX2 E a 2 lt ls lw lh lx ++ wA E a))) C (c_X4_isIn E p1 0 (g1 - 1) g2 eg2) gX4_about_X4_isIn rfl (by decide +kernel) rfl ⟨by decide, by decide, by decide, by decide, Nat.le_of_ble_eq_true rfl⟩ (gSub.idx [] rfl rfl) rfl dX4_about_11 ?_
    refine g_if_ne C (tgt := 27) dX4_about_14 (by decide) (fun cd3 => ?_) (fun cd3 => ?_)
    · replace h := (if_neg cd3).symm.trans h
      refine g_iload_n C 2 rfl rfl dX4_about_27 ?_
      refine g_bipush C (v := 116) (by decide) dX4_about_28 ?_
      refine g_icmp_ne C (tgt := 46) dX4_about_30 (by decide) (fun cd4 => ?_) (fun cd4 => ?_)
      · replace h := (if_neg cd4).symm.trans h
        refine g_iload_n C 2 rfl rfl dX4_about_46 ?_
        refine g_bipush C (v := 115) (by decide) dX4_about_47 ?_
        refine g_icmp_ne C (tgt := 65) dX4_about_49 (by decide) (fun cd5 => ?_) (fun cd5 => ?_)
        · replace h := (if_neg cd5).symm.trans h
          refine g_iload_n C 2 rfl rfl dX4_about_65 ?_
          refine g_bipush C (v := 119) (by decide) dX4_about_66 ?_
          refine g_icmp_ne C (tgt := 84) dX4_about_68 (by decide) (fun cd6 => ?_) (fun cd6 => ?_)
          · replace h := (if_neg cd6).symm.trans h
            refine g_iload_n C 2 rfl rfl dX4_about_84 ?_
            refine g_bipush C (v := 104) (by decide) dX4_about_85 ?_
            refine g_icmp_ne C (tgt := 103) dX4_about_87 (by decide) (fun cd7 => ?_) (fun cd7 => ?_)
            · replace h := (if_neg cd7).symm.trans h
              refine g_iload_n C 2 rfl rfl dX4_about_103 ?_
              refine g_bipush C (v := 120) (by decide) dX4_about_104 ?_
              refine g_icmp_ne C (tgt := 122) dX4_about_106 (by decide) (fun cd8 => ?_) (fun cd8 => ?_)
              · replace h := (if_neg cd8).symm.trans h
                obtain rfl := Option.some.inj h
                exact g_throwS C hQ rfl rfl tf_X4_about_46 (text := "what is none of t, s, w, h and x") (is9 := 176) (by decide +kernel) ⟨by decide, Nat.le_of_ble_eq_true rfl, by decide, by decide, by decide, by decide⟩ dX4_about_122 dX4_about_125 dX4_about_126 dX4_about_128 dX4_about_131
              · replace h := (if_pos cd8).symm.trans h
                refine g_aload_n C 0 rfl rfl dX4_about_109 ?_
                refine g_X4_ledger C i_X4_about_X4 m_X4_about_0 0 rfl dX4_about_110 ?_
                refine g_X2_statesN C i_X4_about_X2 (by decide +kernel) 1 rfl dX4_about_113 ?_
                refine g_iload_n C 1 rfl rfl dX4_about_116 ?_
                obtain ⟨g9, eg9, h⟩ := Option.bind_eq_some_iff.mp h
                refine g_cVr (As := [.int p1]) (n9 := 1) (st := []) (w2 := (wB E a ++ (wX2 E a 2 lt ls lw lh lx ++ wA E a))) C (c_X3_get E (a 11) (a 12) 120 lx p1 g9 eg9) gX4_about_X3_get rfl (by decide +kernel) rfl ⟨by decide, by decide, by decide, by decide, Nat.le_of_ble_eq_true rfl⟩ 0 rfl rfl (gSub.idx [10, 11] rfl rfl) rfl dX4_about_117 ?_
                refine g_i2l C dX4_about_120 ?_
                obtain rfl := Option.some.inj h
                exact g_lret C hQ rfl ⟨by decide, by decide⟩ dX4_about_121
            · replace h := (if_pos cd7).symm.trans h
              refine g_aload_n C 0 rfl rfl dX4_about_90 ?_
              refine g_X4_ledger C i_X4_about_X4 m_X4_about_0 0 rfl dX4_about_91 ?_
              refine g_X2_homesN C i_X4_about_X2 (by decide +kernel) 1 rfl dX4_about_94 ?_
              refine g_iload_n C 1 rfl rfl dX4_about_97 ?_
              obtain ⟨g10, eg10, h⟩ := Option.bind_eq_some_iff.mp h
              refine g_cVr (As := [.int p1]) (n9 := 1) (st := []) (w2 := (wB E a ++ (wX2 E a 2 lt ls lw lh lx ++ wA E a))) C (c_X3_get E (a 9) (a 10) 120 lh p1 g10 eg10) gX4_about_X3_get rfl (by decide +kernel) rfl ⟨by decide, by decide, by decide, by decide, Nat.le_of_ble_eq_true rfl⟩ 0 rfl rfl (gSub.idx [8, 9] rfl rfl) rfl dX4_about_98 ?_
              refine g_i2l C dX4_about_101 ?_
              obtain rfl := Option.some.inj h
              exact g_lret C hQ rfl ⟨by decide, by decide⟩ dX4_about_102
          · replace h := (if_pos cd6).symm.trans h
            refine g_aload_n C 0 rfl rfl dX4_about_71 ?_
            refine g_X4_ledger C i_X4_about_X4 m_X4_about_0 0 rfl dX4_about_72 ?_
            refine g_X2_weightsN C i_X4_about_X2 (by decide +kernel) 1 rfl dX4_about_75 ?_
            refine g_iload_n C 1 rfl rfl dX4_about_78 ?_
            obtain ⟨g11, eg11, h⟩ := Option.bind_eq_some_iff.mp h
            refine g_cVr (As := [.int p1]) (n9 := 1) (st := []) (w2 := (wB E a ++ (wX2 E a 2 lt ls lw lh lx ++ wA E a))) C (c_X3_get E (a 7) (a 8) 120 lw p1 g11 eg11) gX4_about_X3_get rfl (by decide +kernel) rfl ⟨by decide, by decide, by decide, by decide, Nat.le_of_ble_eq_true rfl⟩ 0 rfl rfl (gSub.idx [6, 7] rfl rfl) rfl dX4_about_79 ?_
            refine g_i2l C dX4_about_82 ?_
            obtain rfl := Option.some.inj h
            exact g_lret C hQ rfl ⟨by decide, by decide⟩ dX4_about_83
        · replace h := (if_pos cd5).symm.trans h
          refine g_aload_n C 0 rfl rfl dX4_about_52 ?_
          refine g_X4_ledger C i_X4_about_X4 m_X4_about_0 0 rfl dX4_about_53 ?_
          refine g_X2_spansN C i_X4_about_X2 (by decide +kernel) 1 rfl dX4_about_56 ?_
          refine g_iload_n C 1 rfl rfl dX4_about_59 ?_
          obtain ⟨g12, eg12, h⟩ := Option.bind_eq_some_iff.mp h
          refine g_cVr (As := [.int p1]) (n9 := 1) (st := []) (w2 := (wB E a ++ (wX2 E a 2 lt ls lw lh lx ++ wA E a))) C (c_X3_get E (a 5) (a 6) 120 ls p1 g12 eg12) gX4_about_X3_get rfl (by decide +kernel) rfl ⟨by decide, by decide, by decide, by decide, Nat.le_of_ble_eq_true rfl⟩ 0 rfl rfl (gSub.idx [4, 5] rfl rfl) rfl dX4_about_60 ?_
          refine g_i2l C dX4_about_63 ?_
          obtain rfl := Option.some.inj h
          exact g_lret C hQ rfl ⟨by decide, by decide⟩ dX4_about_64
      · replace h := (if_pos cd4).symm.trans h
        refine g_aload_n C 0 rfl rfl dX4_about_33 ?_
        refine g_X4_ledger C i_X4_about_X4 m_X4_about_0 0 rfl dX4_about_34 ?_
        refine g_X2_timesN C i_X4_about_X2 (by decide +kernel) 1 rfl dX4_about_37 ?_
        refine g_iload_n C 1 rfl rfl dX4_about_40 ?_
        obtain ⟨g13, eg13, h⟩ := Option.bind_eq_some_iff.mp h
        refine g_cVr (As := [.int p1]) (n9 := 1) (st := []) (w2 := (wB E a ++ (wX2 E a 2 lt ls lw lh lx ++ wA E a))) C (c_X3_get E (a 3) (a 4) 120 lt p1 g13 eg13) gX4_about_X3_get rfl (by decide +kernel) rfl ⟨by decide, by decide, by decide, by decide, Nat.le_of_ble_eq_true rfl⟩ 0 rfl rfl (gSub.idx [2, 3] rfl rfl) rfl dX4_about_41 ?_
        refine g_i2l C dX4_about_44 ?_
        obtain rfl := Option.some.inj h
        exact g_lret C hQ rfl ⟨by decide, by decide⟩ dX4_about_45
    · replace h := (if_pos cd3).symm.trans h
      obtain rfl := Option.some.inj h
      exact g_throwS C hQ rfl rfl tf_X4_about_159 (text := "no such booking") (is9 := 161) (by decide +kernel) ⟨by decide, Nat.le_of_ble_eq_true rfl, by decide, by decide, by decide, by decide⟩ dX4_about_17 dX4_about_20 dX4_about_21 dX4_about_23 dX4_about_26
abbrev r_X4_join : Room := { frames := 9, cells := 4, slots := 24, locals := 145 }
set_option maxHeartbeats 4000000 in
set_option maxRecDepth 100000 in
theorem c_X4_join (E : gE) (a : Nat → Nat) (k : Nat) (k2 : Nat) (lt : RS) (ls : RS) (lw : RS) (lh : RS) (lx : RS) (nu : Int32) (z : Int32) (q : RS) (u : RS) (t : RS) (c : RS) (nu2 : Int32) (z2 : Int32) (q2 : RS) (u2 : RS) (t2 : RS) (c2 : RS) (p1 : Int32) (p2 : Int32) (hk : f_X4_houseAt p1 = some (.inr k)) (hk2 : f_X4_houseAt p2 = some (.inr k2)) (o : (String ⊕ (Int32 × RS × RS × RS × RS))) (h : f_X4_join lt lh lx nu z q q2 p1 p2 = some o) : Ct E yX4_join wsX4_join r_X4_join [.ref (a 0), .int p1, .int p2] (wB E a ++ (wX2 E a 2 lt ls lw lh lx ++ (wX1 E a (18 + 10 * k) nu z q u t c ++ (wX1 E a (18 + 10 * k2) nu2 z2 q2 u2 t2 c2 ++ wA E a)))) (gO (fun u9 => some (.int u9.1)) (fun u9 => (wB E a ++ (wX2 E a 2 lt ls lw u9.2.1 u9.2.2.1 ++ (wX1 E a (18 + 10 * k) nu z u9.2.2.2.1 u t c ++ (wX1 E a (18 + 10 * k2) nu2 z2 u9.2.2.2.2 u2 t2 c2 ++ wA E a))))) o) := by
  refine Ct.of (cc := cX4_join) (nL := 5) (ret := ((some .int))) (own := RX4) (by decide) rfl rfl (Nat.le_of_ble_eq_true rfl) rfl ?_ ?_
  · intro v w1 hh
    cases o <;> cases hh <;> rfl
  · intro X C hQ
    rw [f_X4_join] at h
    refine g_aload_n C 0 rfl rfl dX4_join_0 ?_
    refine g_iload_n C 1 rfl rfl dX4_join_1 ?_
    obtain ⟨oc2, eoc2, fx3, fk4⟩ := tB_some h
    refine g_callVr (As := [.int p1]) (n9 := 1) (st := []) (w2 := fun g1 => (wB E a ++ (wX2 E a 2 lt ls lw lh lx ++ (wX1 E a (18 + 10 * k) nu z q u t c ++ (wX1 E a (18 + 10 * k2) nu2 z2 q2 u2 t2 c2 ++ wA E a))))) C (c_X4_houseAt E a p1 oc2 eoc2) gX4_join_X4_houseAt rfl (by decide +kernel) rfl ⟨by decide, by decide, by decide, by decide, Nat.le_of_ble_eq_true rfl⟩ 0 rfl rfl (gSub.idx [0, 32] rfl rfl) (fun _ => rfl) dX4_join_2 (fun x9 h9 => ⟨hQ, by rw [fx3 x9 h9]; rfl, rfl, (fun _ h => h), by decide, by decide⟩) (fun g1 h9oc2 => ?_)
    replace h := fk4 g1 h9oc2
    obtain rfl : k = g1 := khyp eoc2 h9oc2 hk
    refine g_astore_n C (lv2 := [(3, .ref (a (18 + 10 * k))), (0, .ref (a 0)), (1, .int p1), (2, .int p2)]) rfl (by decide) rfl dX4_join_5 ?_
    refine g_aload_n C 1 rfl rfl dX4_join_6 ?_
    refine g_iload_n C 3 rfl rfl dX4_join_7 ?_
    obtain ⟨oc6, eoc6, fx7, fk8⟩ := tB_some h
    refine g_callVr (As := [.int p2]) (n9 := 1) (st := []) (w2 := fun g5 => (wB E a ++ (wX2 E a 2 lt ls lw lh lx ++ (wX1 E a (18 + 10 * k) nu z q u t c ++ (wX1 E a (18 + 10 * k2) nu2 z2 q2 u2 t2 c2 ++ wA E a))))) C (c_X4_houseAt E a p2 oc6 eoc6) gX4_join_X4_houseAt rfl (by decide +kernel) rfl ⟨by decide, by decide, by decide, by decide, Nat.le_of_ble_eq_true rfl⟩ 0 rfl rfl (gSub.idx [0, 32] rfl rfl) (fun _ => rfl) dX4_join_8 (fun x9 h9 => ⟨hQ, by rw [fx7 x9 h9]; rfl, rfl, (fun _ h => h), by decide, by decide⟩) (fun g5 h9oc6 => ?_)
    replace h := fk8 g5 h9oc6
    obtain rfl : k2 = g5 := khyp eoc6 h9oc6 hk2
    refine g_astore C (lv2 := [(4, .ref (a (18 + 10 * k2))), (3, .ref (a (18 + 10 * k))), (0, .ref (a 0)), (1, .int p1), (2, .int p2)]) rfl (by decide) dX4_join_11 ?_
    refine g_iload_n C 3 rfl rfl dX4_join_13 ?_
    refine g_iload_n C 4 rfl rfl dX4_join_14 ?_
    obtain ⟨oc10, eoc10, fx11, fk12⟩ := tB_some h
    refine g_callSv (As := [.int p1, .int p2]) (n9 := 2) (st := []) (w2 := fun g9 => (wB E a ++ (wX2 E a 2 lt ls lw lh lx ++ (wX1 E a (18 + 10 * k) nu z q u t c ++ (wX1 E a (18 + 10 * k2) nu2 z2 q2 u2 t2 c2 ++ wA E a))))) C (c_X4_refuseIfSame E p1 p2 oc10 eoc10) gX4_join_X4_refuseIfSame rfl (by decide +kernel) rfl ⟨by decide, by decide, by decide, by decide, Nat.le_of_ble_eq_true rfl⟩ (gSub.idx [] rfl rfl) (fun _ => rfl) dX4_join_15 (fun x9 h9 => ⟨hQ, by rw [fx11 x9 h9]; rfl, rfl, (fun _ h => h), by decide, by decide⟩) (fun g9 h9oc10 => ?_)
    replace h := fk12 g9 h9oc10
    refine g_aload_n C 2 rfl rfl dX4_join_18 ?_
    refine g_aload C 0 rfl dX4_join_19 ?_
    refine g_iconst C (v := 0) (by decide) dX4_join_21 ?_
    refine g_aload_n C 1 rfl rfl dX4_join_22 ?_
    obtain ⟨oc14, eoc14, fx15, fk16⟩ := tB_some h
    refine g_callVr (As := [.ref (a (18 + 10 * k2)), .int 0, .ref (a (18 + 10 * k))]) (n9 := 3) (st := []) (w2 := fun g13 => (wB E a ++ (wX2 E a 2 lt ls lw g13.2.1 g13.2.2.1 ++ (wX1 E a (18 + 10 * k) nu z g13.2.2.2.1 u t c ++ (wX1 E a (18 + 10 * k2) nu2 z2 g13.2.2.2.2 u2 t2 c2 ++ wA E a))))) C (c_X4_move E a (18 + 10 * k2) (18 + 10 * k) lt ls lw lh lx nu2 z2 q2 u2 t2 c2 nu z q u t c 0 oc14 eoc14) gX4_join_X4_move rfl (by decide +kernel) rfl ⟨by decide, by decide, by decide, by decide, Nat.le_of_ble_eq_true rfl⟩ 0 rfl rfl (gSub.pre (S := (wA E a)) (by simp only [List.append_assoc])) (fun _ => (by simp only [List.append_assoc])) dX4_join_23 (fun x9 h9 => ⟨hQ, by rw [fx15 x9 h9]; rfl, rfl, (fun _ h => h), by decide, by decide⟩) (fun g13 h9oc14 => ?_)
    replace h := fk16 g13 h9oc14
    obtain rfl := Option.some.inj h
    exact g_iret C hQ (by dsimp only [gO]) ⟨by decide, by decide⟩ dX4_join_26
abbrev r_X4_join_bad : Room := { frames := 9, cells := 4, slots := 24, locals := 145 }
set_option maxHeartbeats 4000000 in
set_option maxRecDepth 100000 in
theorem c_X4_join_bad (E : gE) (a : Nat → Nat) (p1 : Int32) (p2 : Int32) (hbad : ∀ {x x2 : Nat} {v : Unit}, f_X4_houseAt p1 = some (.inr x) → f_X4_houseAt p2 = some (.inr x2) → f_X4_refuseIfSame p1 p2 = some (.inr v) → False) (o : (String ⊕ (Int32))) (h : f_X4_join_bad p1 p2 = some o) : Ct E yX4_join wsX4_join r_X4_join_bad [.ref (a 0), .int p1, .int p2] (wB E a ++ wA E a) (gO (fun u9 => some (.int u9)) (fun u9 => (wB E a ++ wA E a)) o) := by
  refine Ct.of (cc := cX4_join) (nL := 5) (ret := ((some .int))) (own := RX4) (by decide) rfl rfl (Nat.le_of_ble_eq_true rfl) rfl ?_ ?_
  · intro v w1 hh
    cases o <;> cases hh <;> rfl
  · intro X C hQ
    rw [f_X4_join_bad] at h
    refine g_aload_n C 0 rfl rfl dX4_join_0 ?_
    refine g_iload_n C 1 rfl rfl dX4_join_1 ?_
    obtain ⟨oc2, eoc2, fx3, fk4⟩ := tB_some h
    refine g_callVr (As := [.int p1]) (n9 := 1) (st := []) (w2 := fun g1 => (wB E a ++ wA E a)) C (c_X4_houseAt E a p1 oc2 eoc2) gX4_join_X4_houseAt rfl (by decide +kernel) rfl ⟨by decide, by decide, by decide, by decide, Nat.le_of_ble_eq_true rfl⟩ 0 rfl rfl (gSub.idx [0, 1] rfl rfl) (fun _ => rfl) dX4_join_2 (fun x9 h9 => ⟨hQ, by rw [fx3 x9 h9]; rfl, rfl, (fun _ h => h), by decide, by decide⟩) (fun g1 h9oc2 => ?_)
    replace h := fk4 g1 h9oc2
    refine g_astore_n C (lv2 := [(3, .ref (a (18 + 10 * g1))), (0, .ref (a 0)), (1, .int p1), (2, .int p2)]) rfl (by decide) rfl dX4_join_5 ?_
    refine g_aload_n C 1 rfl rfl dX4_join_6 ?_
    refine g_iload_n C 3 rfl rfl dX4_join_7 ?_
    obtain ⟨oc6, eoc6, fx7, fk8⟩ := tB_some h
    refine g_callVr (As := [.int p2]) (n9 := 1) (st := []) (w2 := fun g5 => (wB E a ++ wA E a)) C (c_X4_houseAt E a p2 oc6 eoc6) gX4_join_X4_houseAt rfl (by decide +kernel) rfl ⟨by decide, by decide, by decide, by decide, Nat.le_of_ble_eq_true rfl⟩ 0 rfl rfl (gSub.idx [0, 1] rfl rfl) (fun _ => rfl) dX4_join_8 (fun x9 h9 => ⟨hQ, by rw [fx7 x9 h9]; rfl, rfl, (fun _ h => h), by decide, by decide⟩) (fun g5 h9oc6 => ?_)
    replace h := fk8 g5 h9oc6
    refine g_astore C (lv2 := [(4, .ref (a (18 + 10 * g5))), (3, .ref (a (18 + 10 * g1))), (0, .ref (a 0)), (1, .int p1), (2, .int p2)]) rfl (by decide) dX4_join_11 ?_
    refine g_iload_n C 3 rfl rfl dX4_join_13 ?_
    refine g_iload_n C 4 rfl rfl dX4_join_14 ?_
    obtain ⟨oc10, eoc10, fx11, fk12⟩ := tB_some h
    refine g_callSv (As := [.int p1, .int p2]) (n9 := 2) (st := []) (w2 := fun g9 => (wB E a ++ wA E a)) C (c_X4_refuseIfSame E p1 p2 oc10 eoc10) gX4_join_X4_refuseIfSame rfl (by decide +kernel) rfl ⟨by decide, by decide, by decide, by decide, Nat.le_of_ble_eq_true rfl⟩ (gSub.idx [] rfl rfl) (fun _ => rfl) dX4_join_15 (fun x9 h9 => ⟨hQ, by rw [fx11 x9 h9]; rfl, rfl, (fun _ h => h), by decide, by decide⟩) (fun g9 h9oc10 => ?_)
    replace h := fk12 g9 h9oc10
    exact (hbad (eoc2.trans (congrArg some h9oc2)) (eoc6.trans (congrArg some h9oc6)) (eoc10.trans (congrArg some h9oc10))).elim
abbrev r_X4_part : Room := { frames := 9, cells := 4, slots := 24, locals := 145 }
set_option maxHeartbeats 4000000 in
set_option maxRecDepth 100000 in
theorem c_X4_part (E : gE) (a : Nat → Nat) (k : Nat) (k2 : Nat) (lt : RS) (ls : RS) (lw : RS) (lh : RS) (lx : RS) (nu : Int32) (z : Int32) (q : RS) (u : RS) (t : RS) (c : RS) (nu2 : Int32) (z2 : Int32) (q2 : RS) (u2 : RS) (t2 : RS) (c2 : RS) (p1 : Int32) (p2 : Int32) (p3 : Int32) (hk : f_X4_houseAt p1 = some (.inr k)) (hk2 : f_X4_houseAt p2 = some (.inr k2)) (o : (String ⊕ (Int32 × RS × RS × RS × RS))) (h : f_X4_part lt lh lx q nu2 z2 q2 p1 p2 p3 = some o) : Ct E yX4_part wsX4_part r_X4_part [.ref (a 0), .int p1, .int p2, .int p3] (wB E a ++ (wX2 E a 2 lt ls lw lh lx ++ (wX1 E a (18 + 10 * k2) nu2 z2 q2 u2 t2 c2 ++ (wX1 E a (18 + 10 * k) nu z q u t c ++ wA E a)))) (gO (fun u9 => some (.int u9.1)) (fun u9 => (wB E a ++ (wX2 E a 2 lt ls lw u9.2.1 u9.2.2.1 ++ (wX1 E a (18 + 10 * k2) nu2 z2 u9.2.2.2.1 u2 t2 c2 ++ (wX1 E a (18 + 10 * k) nu z u9.2.2.2.2 u t c ++ wA E a))))) o) := by
  refine Ct.of (cc := cX4_part) (nL := 6) (ret := ((some .int))) (own := RX4) (by decide) rfl rfl (Nat.le_of_ble_eq_true rfl) rfl ?_ ?_
  · intro v w1 hh
    cases o <;> cases hh <;> rfl
  · intro X C hQ
    rw [f_X4_part] at h
    refine g_aload_n C 0 rfl rfl dX4_part_0 ?_
    refine g_iload_n C 1 rfl rfl dX4_part_1 ?_
    obtain ⟨oc2, eoc2, fx3, fk4⟩ := tB_some h
    refine g_callVr (As := [.int p1]) (n9 := 1) (st := []) (w2 := fun g1 => (wB E a ++ (wX2 E a 2 lt ls lw lh lx ++ (wX1 E a (18 + 10 * k2) nu2 z2 q2 u2 t2 c2 ++ (wX1 E a (18 + 10 * k) nu z q u t c ++ wA E a))))) C (c_X4_houseAt E a p1 oc2 eoc2) gX4_part_X4_houseAt rfl (by decide +kernel) rfl ⟨by decide, by decide, by decide, by decide, Nat.le_of_ble_eq_true rfl⟩ 0 rfl rfl (gSub.idx [0, 32] rfl rfl) (fun _ => rfl) dX4_part_2 (fun x9 h9 => ⟨hQ, by rw [fx3 x9 h9]; rfl, rfl, (fun _ h => h), by decide, by decide⟩) (fun g1 h9oc2 => ?_)
    replace h := fk4 g1 h9oc2
    obtain rfl : k = g1 := khyp eoc2 h9oc2 hk
    refine g_astore C (lv2 := [(4, .ref (a (18 + 10 * k))), (0, .ref (a 0)), (1, .int p1), (2, .int p2), (3, .int p3)]) rfl (by decide) dX4_part_5 ?_
    refine g_aload_n C 1 rfl rfl dX4_part_7 ?_
    refine g_iload_n C 3 rfl rfl dX4_part_8 ?_
    obtain ⟨oc6, eoc6, fx7, fk8⟩ := tB_some h
    refine g_callVr (As := [.int p2]) (n9 := 1) (st := []) (w2 := fun g5 => (wB E a ++ (wX2 E a 2 lt ls lw lh lx ++ (wX1 E a (18 + 10 * k2) nu2 z2 q2 u2 t2 c2 ++ (wX1 E a (18 + 10 * k) nu z q u t c ++ wA E a))))) C (c_X4_houseAt E a p2 oc6 eoc6) gX4_part_X4_houseAt rfl (by decide +kernel) rfl ⟨by decide, by decide, by decide, by decide, Nat.le_of_ble_eq_true rfl⟩ 0 rfl rfl (gSub.idx [0, 32] rfl rfl) (fun _ => rfl) dX4_part_9 (fun x9 h9 => ⟨hQ, by rw [fx7 x9 h9]; rfl, rfl, (fun _ h => h), by decide, by decide⟩) (fun g5 h9oc6 => ?_)
    replace h := fk8 g5 h9oc6
    obtain rfl : k2 = g5 := khyp eoc6 h9oc6 hk2
    refine g_astore C (lv2 := [(5, .ref (a (18 + 10 * k2))), (4, .ref (a (18 + 10 * k))), (0, .ref (a 0)), (1, .int p1), (2, .int p2), (3, .int p3)]) rfl (by decide) dX4_part_12 ?_
    refine g_iload_n C 3 rfl rfl dX4_part_14 ?_
    refine g_iload_n C 4 rfl rfl dX4_part_15 ?_
    obtain ⟨oc10, eoc10, fx11, fk12⟩ := tB_some h
    refine g_callSv (As := [.int p1, .int p2]) (n9 := 2) (st := []) (w2 := fun g9 => (wB E a ++ (wX2 E a 2 lt ls lw lh lx ++ (wX1 E a (18 + 10 * k2) nu2 z2 q2 u2 t2 c2 ++ (wX1 E a (18 + 10 * k) nu z q u t c ++ wA E a))))) C (c_X4_refuseIfSame E p1 p2 oc10 eoc10) gX4_part_X4_refuseIfSame rfl (by decide +kernel) rfl ⟨by decide, by decide, by decide, by decide, Nat.le_of_ble_eq_true rfl⟩ (gSub.idx [] rfl rfl) (fun _ => rfl) dX4_part_16 (fun x9 h9 => ⟨hQ, by rw [fx11 x9 h9]; rfl, rfl, (fun _ h => h), by decide, by decide⟩) (fun g9 h9oc10 => ?_)
    replace h := fk12 g9 h9oc10
    refine g_aload_n C 2 rfl rfl dX4_part_19 ?_
    refine g_aload C 1 rfl dX4_part_20 ?_
    refine g_aload_n C 2 rfl rfl dX4_part_22 ?_
    refine g_aload C 1 rfl dX4_part_23 ?_
    refine g_iload_n C 5 rfl rfl dX4_part_25 ?_
    refine g_perm (ws2 := (wB E a ++ (wX2 E a 2 lt ls lw lh lx ++ (wX1 E a (18 + 10 * k) nu z q u t c ++ (wX1 E a (18 + 10 * k2) nu2 z2 q2 u2 t2 c2 ++ wA E a))))) (List.Perm.append_left _ (List.Perm.append_left _ (List.perm_append_comm_assoc _ _ _))) ?_
    obtain ⟨g13, eg13, h⟩ := Option.bind_eq_some_iff.mp h
    refine g_cVr (As := [.ref (a (18 + 10 * k)), .int p3]) (n9 := 2) (st := [.ref (a (18 + 10 * k)), .ref (a 0)]) (w2 := (wB E a ++ (wX2 E a 2 lt ls lw lh lx ++ (wX1 E a (18 + 10 * k) nu z q u t c ++ (wX1 E a (18 + 10 * k2) nu2 z2 q2 u2 t2 c2 ++ wA E a))))) C (c_X4_waitingAheadOf E a (18 + 10 * k) lt ls lw lh lx nu z q u t c p3 g13 eg13) gX4_part_X4_waitingAheadOf rfl (by decide +kernel) rfl ⟨by decide, by decide, by decide, by decide, Nat.le_of_ble_eq_true rfl⟩ 0 rfl rfl (gSub.pre (S := (wX1 E a (18 + 10 * k2) nu2 z2 q2 u2 t2 c2 ++ wA E a)) (by simp only [List.append_assoc])) (by simp only [List.append_assoc]) dX4_part_26 ?_
    refine g_perm (ws2 := (wB E a ++ (wX2 E a 2 lt ls lw lh lx ++ (wX1 E a (18 + 10 * k2) nu2 z2 q2 u2 t2 c2 ++ (wX1 E a (18 + 10 * k) nu z q u t c ++ wA E a))))) (List.Perm.append_left _ (List.Perm.append_left _ (List.perm_append_comm_assoc _ _ _))) ?_
    refine g_aload C 0 rfl dX4_part_29 ?_
    obtain ⟨oc15, eoc15, fx16, fk17⟩ := tB_some h
    refine g_callVr (As := [.ref (a (18 + 10 * k)), .int g13, .ref (a (18 + 10 * k2))]) (n9 := 3) (st := []) (w2 := fun g14 => (wB E a ++ (wX2 E a 2 lt ls lw g14.2.1 g14.2.2.1 ++ (wX1 E a (18 + 10 * k2) nu2 z2 g14.2.2.2.1 u2 t2 c2 ++ (wX1 E a (18 + 10 * k) nu z g14.2.2.2.2 u t c ++ wA E a))))) C (c_X4_move E a (18 + 10 * k) (18 + 10 * k2) lt ls lw lh lx nu z q u t c nu2 z2 q2 u2 t2 c2 g13 oc15 eoc15) gX4_part_X4_move rfl (by decide +kernel) rfl ⟨by decide, by decide, by decide, by decide, Nat.le_of_ble_eq_true rfl⟩ 0 rfl rfl (gSub.pre (S := (wA E a)) (by simp only [List.append_assoc])) (fun _ => (by simp only [List.append_assoc])) dX4_part_31 (fun x9 h9 => ⟨hQ, by rw [fx16 x9 h9]; rfl, rfl, (fun _ h => h), by decide, by decide⟩) (fun g14 h9oc15 => ?_)
    replace h := fk17 g14 h9oc15
    obtain rfl := Option.some.inj h
    exact g_iret C hQ (by dsimp only [gO]) ⟨by decide, by decide⟩ dX4_part_34
abbrev r_X4_part_bad : Room := { frames := 9, cells := 4, slots := 24, locals := 145 }
set_option maxHeartbeats 4000000 in
set_option maxRecDepth 100000 in
theorem c_X4_part_bad (E : gE) (a : Nat → Nat) (p1 : Int32) (p2 : Int32) (p3 : Int32) (hbad : ∀ {x x2 : Nat} {v : Unit}, f_X4_houseAt p1 = some (.inr x) → f_X4_houseAt p2 = some (.inr x2) → f_X4_refuseIfSame p1 p2 = some (.inr v) → False) (o : (String ⊕ (Int32))) (h : f_X4_part_bad p1 p2 = some o) : Ct E yX4_part wsX4_part r_X4_part_bad [.ref (a 0), .int p1, .int p2, .int p3] (wB E a ++ wA E a) (gO (fun u9 => some (.int u9)) (fun u9 => (wB E a ++ wA E a)) o) := by
  refine Ct.of (cc := cX4_part) (nL := 6) (ret := ((some .int))) (own := RX4) (by decide) rfl rfl (Nat.le_of_ble_eq_true rfl) rfl ?_ ?_
  · intro v w1 hh
    cases o <;> cases hh <;> rfl
  · intro X C hQ
    rw [f_X4_part_bad] at h
    refine g_aload_n C 0 rfl rfl dX4_part_0 ?_
    refine g_iload_n C 1 rfl rfl dX4_part_1 ?_
    obtain ⟨oc2, eoc2, fx3, fk4⟩ := tB_some h
    refine g_callVr (As := [.int p1]) (n9 := 1) (st := []) (w2 := fun g1 => (wB E a ++ wA E a)) C (c_X4_houseAt E a p1 oc2 eoc2) gX4_part_X4_houseAt rfl (by decide +kernel) rfl ⟨by decide, by decide, by decide, by decide, Nat.le_of_ble_eq_true rfl⟩ 0 rfl rfl (gSub.idx [0, 1] rfl rfl) (fun _ => rfl) dX4_part_2 (fun x9 h9 => ⟨hQ, by rw [fx3 x9 h9]; rfl, rfl, (fun _ h => h), by decide, by decide⟩) (fun g1 h9oc2 => ?_)
    replace h := fk4 g1 h9oc2
    refine g_astore C (lv2 := [(4, .ref (a (18 + 10 * g1))), (0, .ref (a 0)), (1, .int p1), (2, .int p2), (3, .int p3)]) rfl (by decide) dX4_part_5 ?_
    refine g_aload_n C 1 rfl rfl dX4_part_7 ?_
    refine g_iload_n C 3 rfl rfl dX4_part_8 ?_
    obtain ⟨oc6, eoc6, fx7, fk8⟩ := tB_some h
    refine g_callVr (As := [.int p2]) (n9 := 1) (st := []) (w2 := fun g5 => (wB E a ++ wA E a)) C (c_X4_houseAt E a p2 oc6 eoc6) gX4_part_X4_houseAt rfl (by decide +kernel) rfl ⟨by decide, by decide, by decide, by decide, Nat.le_of_ble_eq_true rfl⟩ 0 rfl rfl (gSub.idx [0, 1] rfl rfl) (fun _ => rfl) dX4_part_9 (fun x9 h9 => ⟨hQ, by rw [fx7 x9 h9]; rfl, rfl, (fun _ h => h), by decide, by decide⟩) (fun g5 h9oc6 => ?_)
    replace h := fk8 g5 h9oc6
    refine g_astore C (lv2 := [(5, .ref (a (18 + 10 * g5))), (4, .ref (a (18 + 10 * g1))), (0, .ref (a 0)), (1, .int p1), (2, .int p2), (3, .int p3)]) rfl (by decide) dX4_part_12 ?_
    refine g_iload_n C 3 rfl rfl dX4_part_14 ?_
    refine g_iload_n C 4 rfl rfl dX4_part_15 ?_
    obtain ⟨oc10, eoc10, fx11, fk12⟩ := tB_some h
    refine g_callSv (As := [.int p1, .int p2]) (n9 := 2) (st := []) (w2 := fun g9 => (wB E a ++ wA E a)) C (c_X4_refuseIfSame E p1 p2 oc10 eoc10) gX4_part_X4_refuseIfSame rfl (by decide +kernel) rfl ⟨by decide, by decide, by decide, by decide, Nat.le_of_ble_eq_true rfl⟩ (gSub.idx [] rfl rfl) (fun _ => rfl) dX4_part_16 (fun x9 h9 => ⟨hQ, by rw [fx11 x9 h9]; rfl, rfl, (fun _ h => h), by decide, by decide⟩) (fun g9 h9oc10 => ?_)
    replace h := fk12 g9 h9oc10
    exact (hbad (eoc2.trans (congrArg some h9oc2)) (eoc6.trans (congrArg some h9oc6)) (eoc10.trans (congrArg some h9oc10))).elim
