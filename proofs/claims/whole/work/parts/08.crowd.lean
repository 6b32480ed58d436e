/-! crowd: pure functions, printed by wip/whole/gen.py out of the bytecode, and their walks -/
def f_X0_clear (t : RS) (c : RS) : Option (RS × RS) := ((f_X3_clear t).bind fun g1 => ((f_X3_clear c).bind fun g2 => some (g1, g2)))
def f_X0_isEmpty (t : RS) : Option (Bool) := ((f_X3_size t).bind fun g1 => (if g1 = 0 then some true else some false))
def b_X0_alter_55 (t : RS) (c : RS) (v1 : Int32) (v2 : Int32) (v3 : Int32) : Option (RS × RS) := ((f_X3_insert 240 t v3 v1).bind fun g1 => ((f_X3_insert 240 c v3 v2).bind fun g2 => some (g1, g2)))
def b_X0_alter_32 (t : RS) (c : RS) (v1 : Int32) (v2 : Int32) (v3 : Int32) : Option (RS × RS) := ((f_X3_size t).bind fun g1 => (if g1 ≤ v3 then b_X0_alter_55 t c v1 v2 v3 else ((f_X3_get 240 t v3).bind fun g3 => (if g3 = v1 then ((f_X3_get 240 c v3).bind fun g5 => (if (g5 + v2) = 0 then ((f_X3_remove 240 t v3).bind fun g9 => ((f_X3_remove 240 c v3).bind fun g10 => some (g9.2, g10.2))) else ((f_X3_get 240 c v3).bind fun g7 => ((f_X3_set 240 c v3 (g7 + v2)).bind fun g8 => some (t, g8))))) else b_X0_alter_55 t c v1 v2 v3))))
def l_X0_alter_8 (t : RS) (c : RS) (v1 : Int32) (v2 : Int32) : Nat → Int32 → Option (RS × RS)
  | 0, _ => none
  | F + 1, v3 => (if v3 ≤ 0 then b_X0_alter_32 t c v1 v2 v3 else ((f_X3_get 240 t (v3 - 1)).bind fun g2 => (if g2 < v1 then b_X0_alter_32 t c v1 v2 v3 else l_X0_alter_8 t c v1 v2 F (v3 + (-1)))))
def f_X0_alter (t : RS) (c : RS) (p1 : Int32) (p2 : Int32) : Option (RS × RS) := ((f_X3_size t).bind fun g1 => l_X0_alter_8 t c p1 p2 FU g1)
def f_X0_enter (t : RS) (c : RS) (p1 : Int32) (p2 : Int32) (p3 : Int32) : Option (RS × RS) := (if p2 ≤ p1 then some (t, c) else ((f_X0_alter t c p1 p3).bind fun g2 => ((f_X0_alter g2.1 g2.2 p2 (-p3)).bind fun g3 => some (g3.1, g3.2))))
def l_X0_at_4 (t : RS) (c : RS) (v1 : Int32) : Nat → Int32 → Int32 → Option (Int32)
  | 0, _, _ => none
  | F + 1, v2, v3 => ((f_X3_size t).bind fun g1 => (if g1 ≤ v3 then some v2 else ((f_X3_get 240 t v3).bind fun g3 => (if v1 < g3 then some v2 else ((f_X3_get 240 c v3).bind fun g5 => l_X0_at_4 t c v1 F (v2 + g5) (v3 + 1))))))
def f_X0_at (t : RS) (c : RS) (p1 : Int32) : Option (Int32) := l_X0_at_4 t c p1 FU 0 0
def f_X0_changeAt (t : RS) (c : RS) (p1 : Int32) : Option (Int32) := ((f_X3_placeOf 240 t p1).bind fun g1 => (if 0 ≤ g1 then ((f_X3_get 240 c g1).bind fun g3 => some g3) else some 0))
def l_X0_highest_6 (t : RS) (c : RS) : Nat → Int32 → Int32 → Int32 → Option (Int32)
  | 0, _, _, _ => none
  | F + 1, v1, v2, v3 => ((f_X3_size t).bind fun g1 => (if g1 ≤ v3 then some v2 else ((f_X3_get 240 c v3).bind fun g3 => l_X0_highest_6 t c F (v1 + g3) (if v2 < (v1 + g3) then (v1 + g3) else v2) (v3 + 1))))
def f_X0_highest (t : RS) (c : RS) : Option (Int32) := l_X0_highest_6 t c FU 0 0 0
def l_X0_highestFrom_9 (t : RS) (c : RS) : Nat → Int32 → Int32 → Int32 → Int32 → Option (Int32)
  | 0, _, _, _, _ => none
  | F + 1, v1, v2, v3, v4 => ((f_X3_size t).bind fun g1 => (if g1 ≤ v4 then some v3 else ((f_X3_get 240 c v4).bind fun g3 => (if (v1 + g3) ≤ v2 then l_X0_highestFrom_9 t c F (v1 + g3) v2 v3 (v4 + 1) else ((f_X3_get 240 t v4).bind fun g5 => l_X0_highestFrom_9 t c F (v1 + g3) (v1 + g3) g5 (v4 + 1))))))
def f_X0_highestFrom (t : RS) (c : RS) : Option (Int32) := l_X0_highestFrom_9 t c FU 0 0 0 0
def l_X0_busyTimes_8 (t : RS) (c : RS) (v1 : Int32) (v2 : Int32) : Nat → Int32 → Int32 → Int32 → Option (Int32)
  | 0, _, _, _ => none
  | F + 1, v3, v4, v5 => ((f_X3_size t).bind fun g1 => (if g1 ≤ v5 then some v4 else ((f_X3_get 240 c v5).bind fun g3 => ((f_X3_get 240 t v5).bind fun g4 => ((f_X3_get 240 t (v5 + 1)).bind fun g5 => (if (v3 + g3) = 0 then l_X0_busyTimes_8 t c v1 v2 F (v3 + g3) v4 (v5 + 1) else (if (if g5 < v2 then g5 else v2) ≤ (if v1 < g4 then g4 else v1) then l_X0_busyTimes_8 t c v1 v2 F (v3 + g3) v4 (v5 + 1) else l_X0_busyTimes_8 t c v1 v2 F (v3 + g3) (v4 + ((if g5 < v2 then g5 else v2) - (if v1 < g4 then g4 else v1))) (v5 + 1))))))))
def f_X0_busyTimes (t : RS) (c : RS) (p1 : Int32) (p2 : Int32) : Option (Int32) := l_X0_busyTimes_8 t c p1 p2 FU 0 0 0
def f_X0_allBusyTimes (t : RS) (c : RS) : Option (Int32) := ((f_X3_size t).bind fun g1 => ((f_X3_get 240 t (g1 - 1)).bind fun g2 => ((f_X0_busyTimes t c 0 g2).bind fun g3 => some g3)))
def b_X0_busySpans_27 (c : RS) (ko6 : Int32 → Int32 → Int32 → Option (Int32)) (v1 : Int32) (v3 : Int32) (s0 : Int32) (s1 : Bool) : Option (Int32) := ((f_X3_get 240 c v3).bind fun g1 => ko6 (v1 + g1) (s0 + (bI s1)) (v3 + 1))
def l_X0_busySpans_6 (t : RS) (c : RS) : Nat → Int32 → Int32 → Int32 → Option (Int32)
  | 0, _, _, _ => none
  | F + 1, v1, v2, v3 => ((f_X3_size t).bind fun g1 => (if g1 ≤ v3 then some v2 else (if v1 = 0 then b_X0_busySpans_27 c (fun qv1 qv2 qv3 => l_X0_busySpans_6 t c F qv1 qv2 qv3) v1 v3 v2 true else b_X0_busySpans_27 c (fun qv1 qv2 qv3 => l_X0_busySpans_6 t c F qv1 qv2 qv3) v1 v3 v2 false)))
def f_X0_busySpans (t : RS) (c : RS) : Option (Int32) := l_X0_busySpans_6 t c FU 0 0 0
def b_X0_firstChangeOf_34 (c : RS) (ko7 : Int32 → Int32 → Int32 → Option (Int32)) (v1 : Int32) (v2 : Int32) (v3 : Int32) (v4 : Int32) : Option (Int32) := ((f_X3_get 240 c v4).bind fun g1 => ko7 (v2 + g1) v3 (v4 + 1))
def l_X0_firstChangeOf_7 (t : RS) (c : RS) (v1 : Int32) : Nat → Int32 → Int32 → Int32 → Option (Int32)
  | 0, _, _, _ => none
  | F + 1, v2, v3, v4 => ((f_X3_size t).bind fun g1 => (if g1 ≤ v4 then some (-1) else (if v2 = 0 then (if v3 = v1 then some v4 else b_X0_firstChangeOf_34 c (fun qv2 qv3 qv4 => l_X0_firstChangeOf_7 t c v1 F qv2 qv3 qv4) v1 v2 (v3 + 1) v4) else b_X0_firstChangeOf_34 c (fun qv2 qv3 qv4 => l_X0_firstChangeOf_7 t c v1 F qv2 qv3 qv4) v1 v2 v3 v4)))
def f_X0_firstChangeOf (t : RS) (c : RS) (p1 : Int32) : Option (Int32) := l_X0_firstChangeOf_7 t c p1 FU 0 0 0
def l_X0_endOfSpan_4 (t : RS) (c : RS) : Nat → Int32 → Int32 → Option (Int32)
  | 0, _, _ => none
  | F + 1, v2, v3 => ((f_X3_size t).bind fun g1 => (if g1 ≤ v3 then some 0 else ((f_X3_get 240 c v3).bind fun g3 => (if (v2 + g3) = 0 then ((f_X3_get 240 t v3).bind fun g5 => some g5) else l_X0_endOfSpan_4 t c F (v2 + g3) (v3 + 1)))))
def f_X0_endOfSpan (t : RS) (c : RS) (p1 : Int32) : Option (Int32) := l_X0_endOfSpan_4 t c FU 0 p1
def l_X0_highestOfSpan_7 (t : RS) (c : RS) : Nat → Int32 → Int32 → Int32 → Option (Int32)
  | 0, _, _, _ => none
  | F + 1, v2, v3, v4 => ((f_X3_size t).bind fun g1 => (if g1 ≤ v4 then some v3 else ((f_X3_get 240 c v4).bind fun g3 => (if (v2 + g3) = 0 then some v3 else l_X0_highestOfSpan_7 t c F (v2 + g3) (if v3 < (v2 + g3) then (v2 + g3) else v3) (v4 + 1)))))
def f_X0_highestOfSpan (t : RS) (c : RS) (p1 : Int32) : Option (Int32) := l_X0_highestOfSpan_7 t c FU 0 0 p1
def l_X0_freeFrom_8 (t : RS) (c : RS) (v2 : Int32) : Nat → Int32 → Int32 → Int32 → Option (Int32)
  | 0, _, _, _ => none
  | F + 1, v3, v4, v5 => ((f_X3_size t).bind fun g1 => (if g1 ≤ v5 then some v4 else ((f_X3_get 240 c v5).bind fun g3 => (if (v3 + g3) = 0 then l_X0_freeFrom_8 t c v2 F (v3 + g3) v4 (v5 + 1) else ((f_X3_get 240 t v5).bind fun g5 => (if (v4 + v2) ≤ g5 then l_X0_freeFrom_8 t c v2 F (v3 + g3) v4 (v5 + 1) else ((f_X3_get 240 t (v5 + 1)).bind fun g7 => l_X0_freeFrom_8 t c v2 F (v3 + g3) (if v4 < g7 then g7 else v4) (v5 + 1))))))))
def f_X0_freeFrom (t : RS) (c : RS) (p1 : Int32) (p2 : Int32) : Option (Int32) := l_X0_freeFrom_8 t c p2 FU 0 p1 0
def l_X0_total_7 (t : RS) (c : RS) : Nat → Int32 → Int64 → Int32 → Option (Int64)
  | 0, _, _, _ => none
  | F + 1, v1, v2, v4 => ((f_X3_size t).bind fun g1 => (if g1 ≤ v4 then some v2 else ((f_X3_get 240 c v4).bind fun g3 => (if (v1 + g3) = 0 then l_X0_total_7 t c F (v1 + g3) v2 (v4 + 1) else ((f_X3_get 240 t (v4 + 1)).bind fun g5 => ((f_X3_get 240 t v4).bind fun g6 => l_X0_total_7 t c F (v1 + g3) (v2 + (((v1 + g3).toInt64) * ((g5 - g6).toInt64))) (v4 + 1)))))))
def f_X0_total (t : RS) (c : RS) : Option (Int64) := l_X0_total_7 t c FU 0 0 0
def l_X0_isLevelInTheEnd_4 (c : RS) : Nat → Int32 → Int32 → Option (Bool)
  | 0, _, _ => none
  | F + 1, v1, v2 => ((f_X3_size c).bind fun g1 => (if g1 ≤ v2 then (if v1 = 0 then some true else some false) else ((f_X3_get 240 c v2).bind fun g4 => l_X0_isLevelInTheEnd_4 c F (v1 + g4) (v2 + 1))))
def f_X0_isLevelInTheEnd (c : RS) : Option (Bool) := l_X0_isLevelInTheEnd_4 c FU 0 0
def f_X0_isOverAt (t : RS) (p1 : Int32) : Option (Bool) := ((f_X0_isEmpty t).bind fun g1 => (if (bI g1) = 0 then ((f_X3_size t).bind fun g3 => ((f_X3_get 240 t (g3 - 1)).bind fun g4 => (if p1 < g4 then some false else some true))) else some true))
def f_X0_isLike (t : RS) (c : RS) (t2 : RS) (c2 : RS) : Option (Bool) := ((f_X3_isLike 240 t 240 t2).bind fun g1 => (if (bI g1) = 0 then some false else ((f_X3_isLike 240 c 240 c2).bind fun g3 => (if (bI g3) = 0 then some false else some true))))
abbrev r_X0_clear : Room := { frames := 2, cells := 0, slots := 0, locals := 40 }
theorem m_X0_clear_0 : Cond.fieldLink RX0 14 "Bookinghouse$Crowd" "times" "LBookinghouse$Row;" ∈ wsX0_clear := by decide +kernel
theorem i_X0_clear_X0 : ∀ w ∈ wsX00, w ∈ wsX0_clear := by decide +kernel
theorem m_X0_clear_2 : Cond.fieldLink RX0 20 "Bookinghouse$Crowd" "changes" "LBookinghouse$Row;" ∈ wsX0_clear := by decide +kernel
set_option maxHeartbeats 4000000 in
set_option maxRecDepth 100000 in
theorem c_X0_clear (E : gE) (a : Nat → Nat) (i : Nat) (t : RS) (c : RS) (o : (RS × RS)) (h : f_X0_clear t c = some o) : Ct E yX0_clear wsX0_clear r_X0_clear [.ref (a i)] (wX0 E a i t c) (gO (fun u9 => none) (fun u9 => (wX0 E a i u9.1 u9.2)) (.inr o)) := by
  refine Ct.of (cc := cX0_clear) (nL := 1) (ret := (none)) (own := RX0) (by decide) rfl rfl (Nat.le_of_ble_eq_true rfl) rfl ?_ ?_
  · intro v w1 hh
    cases hh; rfl
  · intro X C hQ
    rw [f_X0_clear] at h
    refine g_aload_n C 0 rfl rfl dX0_clear_0 ?_
    refine g_X0_times C i_X0_clear_X0 m_X0_clear_0 0 rfl dX0_clear_1 ?_
    obtain ⟨g1, eg1, h⟩ := Option.bind_eq_some_iff.mp h
    refine g_cVv (As := []) (n9 := 0) (st := []) (w2 := (wX0 E a i g1 c)) C (c_X3_clear E (a (i + 1)) (a (i + 2)) 240 t g1 eg1) gX0_clear_X3_clear rfl (by decide +kernel) rfl ⟨by decide, by decide, by decide, by decide, Nat.le_of_ble_eq_true rfl⟩ 0 rfl rfl (gSub.idx [1, 2] rfl rfl) rfl dX0_clear_4 ?_
    refine g_aload_n C 0 rfl rfl dX0_clear_7 ?_
    refine g_X0_changes C i_X0_clear_X0 m_X0_clear_2 0 rfl dX0_clear_8 ?_
    obtain ⟨g2, eg2, h⟩ := Option.bind_eq_some_iff.mp h
    refine g_cVv (As := []) (n9 := 0) (st := []) (w2 := (wX0 E a i g1 g2)) C (c_X3_clear E (a (i + 3)) (a (i + 4)) 240 c g2 eg2) gX0_clear_X3_clear rfl (by decide +kernel) rfl ⟨by decide, by decide, by decide, by decide, Nat.le_of_ble_eq_true rfl⟩ 0 rfl rfl (gSub.idx [3, 4] rfl rfl) rfl dX0_clear_11 ?_
    obtain rfl := Option.some.inj h
    exact g_vret C hQ rfl ⟨by decide, by decide⟩ dX0_clear_14
abbrev r_X0_isEmpty : Room := { frames := 2, cells := 0, slots := 0, locals := 40 }
theorem m_X0_isEmpty_0 : Cond.fieldLink RX0 14 "Bookinghouse$Crowd" "times" "LBookinghouse$Row;" ∈ wsX0_isEmpty := by decide +kernel
theorem i_X0_isEmpty_X0 : ∀ w ∈ wsX00, w ∈ wsX0_isEmpty := by decide +kernel
set_option maxHeartbeats 4000000 in
set_option maxRecDepth 100000 in
theorem c_X0_isEmpty (E : gE) (a : Nat → Nat) (i : Nat) (t : RS) (c : RS) (o : (Bool)) (h : f_X0_isEmpty t = some o) : Ct E yX0_isEmpty wsX0_isEmpty r_X0_isEmpty [.ref (a i)] (wX0 E a i t c) (gO (fun u9 => some (.int (bI u9))) (fun u9 => (wX0 E a i t c)) (.inr o)) := by
  refine Ct.of (cc := cX0_isEmpty) (nL := 1) (ret := ((some .boolean))) (own := RX0) (by decide) rfl rfl (Nat.le_of_ble_eq_true rfl) rfl ?_ ?_
  · intro v w1 hh
    cases hh; rfl
  · intro X C hQ
    rw [f_X0_isEmpty] at h
    refine g_aload_n C 0 rfl rfl dX0_isEmpty_0 ?_
    refine g_X0_times C i_X0_isEmpty_X0 m_X0_isEmpty_0 0 rfl dX0_isEmpty_1 ?_
    obtain ⟨g1, eg1, h⟩ := Option.bind_eq_some_iff.mp h
    refine g_cVr (As := []) (n9 := 0) (st := []) (w2 := (wX0 E a i t c)) C (c_X3_size E (a (i + 1)) (a (i + 2)) 240 t g1 eg1) gX0_isEmpty_X3_size rfl (by decide +kernel) rfl ⟨by decide, by decide, by decide, by decide, Nat.le_of_ble_eq_true rfl⟩ 0 rfl rfl (gSub.idx [1, 2] rfl rfl) rfl dX0_isEmpty_4 ?_
    refine g_if_ne C (tgt := 14) dX0_isEmpty_7 (by decide) (fun cd2 => ?_) (fun cd2 => ?_)
    · replace h := (if_neg cd2).symm.trans h
      refine g_iconst C (v := 0) (by decide) dX0_isEmpty_14 ?_
      obtain rfl := Option.some.inj h
      exact g_zret C hQ rfl rfl ⟨by decide, by decide⟩ dX0_isEmpty_15
    · replace h := (if_pos cd2).symm.trans h
      refine g_iconst C (v := 1) (by decide) dX0_isEmpty_10 ?_
      refine g_goto C (tgt := 15) dX0_isEmpty_11 (by decide) ?_
      obtain rfl := Option.some.inj h
      exact g_zret C hQ rfl rfl ⟨by decide, by decide⟩ dX0_isEmpty_15
abbrev r_X0_alter : Room := { frames := 3, cells := 0, slots := 0, locals := 82 }
theorem m_X0_alter_0 : Cond.fieldLink RX0 14 "Bookinghouse$Crowd" "times" "LBookinghouse$Row;" ∈ wsX0_alter := by decide +kernel
theorem i_X0_alter_X0 : ∀ w ∈ wsX00, w ∈ wsX0_alter := by decide +kernel
theorem m_X0_alter_2 : Cond.fieldLink RX0 20 "Bookinghouse$Crowd" "changes" "LBookinghouse$Row;" ∈ wsX0_alter := by decide +kernel
set_option maxHeartbeats 4000000 in
set_option maxRecDepth 100000 in
theorem v_X0_alter_55 {E : gE} {X : gX} {a : Nat → Nat} {i : Nat} {t : RS} {c : RS} {v1 : Int32} {v2 : Int32} {v3 : Int32} {o : (RS × RS)} (C : Cx E X cX0_alter 4 RX0 wsX0_alter r_X0_alter (none) []) (hQ : gQ E X (wX0 E a i t c) r_X0_alter (gO (fun u9 => none) (fun u9 => (wX0 E a i u9.1 u9.2)) (.inr o))) (h : b_X0_alter_55 t c v1 v2 v3 = some o) : Gx E X (wX0 E a i t c) 4 [(0, .ref (a i)), (1, .int v1), (2, .int v2), (3, .int v3)] [] 55 0 0 := by
  rw [b_X0_alter_55] at h
  refine g_aload_n C 0 rfl rfl dX0_alter_55 ?_
  refine g_X0_times C i_X0_alter_X0 m_X0_alter_0 0 rfl dX0_alter_56 ?_
  refine g_iload_n C 3 rfl rfl dX0_alter_59 ?_
  refine g_iload_n C 1 rfl rfl dX0_alter_60 ?_
  obtain ⟨g1, eg1, h⟩ := Option.bind_eq_some_iff.mp h
  refine g_cVv (As := [.int v3, .int v1]) (n9 := 2) (st := []) (w2 := (wX0 E a i g1 c)) C (c_X3_insert E (a (i + 1)) (a (i + 2)) 240 t v3 v1 g1 eg1) gX0_alter_X3_insert rfl (by decide +kernel) rfl ⟨by decide, by decide, by decide, by decide, Nat.le_of_ble_eq_true rfl⟩ 0 rfl rfl (gSub.idx [1, 2] rfl rfl) rfl dX0_alter_61 ?_
  refine g_aload_n C 0 rfl rfl dX0_alter_64 ?_
  refine g_X0_changes C i_X0_alter_X0 m_X0_alter_2 0 rfl dX0_alter_65 ?_
  refine g_iload_n C 3 rfl rfl dX0_alter_68 ?_
  refine g_iload_n C 2 rfl rfl dX0_alter_69 ?_
  obtain ⟨g2, eg2, h⟩ := Option.bind_eq_some_iff.mp h
  refine g_cVv (As := [.int v3, .int v2]) (n9 := 2) (st := []) (w2 := (wX0 E a i g1 g2)) C (c_X3_insert E (a (i + 3)) (a (i + 4)) 240 c v3 v2 g2 eg2) gX0_alter_X3_insert rfl (by decide +kernel) rfl ⟨by decide, by decide, by decide, by decide, Nat.le_of_ble_eq_true rfl⟩ 0 rfl rfl (gSub.idx [3, 4] rfl rfl) rfl dX0_alter_70 ?_
  refine g_goto C (tgt := 128) dX0_alter_73 (by decide) ?_
  obtain rfl := Option.some.inj h
  exact g_vret C hQ rfl ⟨by decide, by decide⟩ dX0_alter_128
set_option maxHeartbeats 4000000 in
set_option maxRecDepth 100000 in
theorem v_X0_alter_32 {E : gE} {X : gX} {a : Nat → Nat} {i : Nat} {t : RS} {c : RS} {v1 : Int32} {v2 : Int32} {v3 : Int32} {o : (RS × RS)} (C : Cx E X cX0_alter 4 RX0 wsX0_alter r_X0_alter (none) []) (hQ : gQ E X (wX0 E a i t c) r_X0_alter (gO (fun u9 => none) (fun u9 => (wX0 E a i u9.1 u9.2)) (.inr o))) (h : b_X0_alter_32 t c v1 v2 v3 = some o) : Gx E X (wX0 E a i t c) 4 [(0, .ref (a i)), (1, .int v1), (2, .int v2), (3, .int v3)] [] 32 0 0 := by
  rw [b_X0_alter_32] at h
  refine g_iload_n C 3 rfl rfl dX0_alter_32 ?_
  refine g_aload_n C 0 rfl rfl dX0_alter_33 ?_
  refine g_X0_times C i_X0_alter_X0 m_X0_alter_0 0 rfl dX0_alter_34 ?_
  obtain ⟨g1, eg1, h⟩ := Option.bind_eq_some_iff.mp h
  refine g_cVr (As := []) (n9 := 0) (st := [.int v3]) (w2 := (wX0 E a i t c)) C (c_X3_size E (a (i + 1)) (a (i + 2)) 240 t g1 eg1) gX0_alter_X3_size rfl (by decide +kernel) rfl ⟨by decide, by decide, by decide, by decide, Nat.le_of_ble_eq_true rfl⟩ 0 rfl rfl (gSub.idx [1, 2] rfl rfl) rfl dX0_alter_37 ?_
  refine g_icmp_ge C (tgt := 55) dX0_alter_40 (by decide) (fun cd2 => ?_) (fun cd2 => ?_)
  · replace h := (if_pos cd2).symm.trans h
    exact v_X0_alter_55 (v1 := v1) (v2 := v2) (v3 := v3) C hQ h
  · replace h := (if_neg cd2).symm.trans h
    refine g_aload_n C 0 rfl rfl dX0_alter_43 ?_
    refine g_X0_times C i_X0_alter_X0 m_X0_alter_0 0 rfl dX0_alter_44 ?_
    refine g_iload_n C 3 rfl rfl dX0_alter_47 ?_
    obtain ⟨g3, eg3, h⟩ := Option.bind_eq_some_iff.mp h
    refine g_cVr (As := [.int v3]) (n9 := 1) (st := []) (w2 := (wX0 E a i t c)) C (c_X3_get E (a (i + 1)) (a (i + 2)) 240 t v3 g3 eg3) gX0_alter_X3_get rfl (by decide +kernel) rfl ⟨by decide, by decide, by decide, by decide, Nat.le_of_ble_eq_true rfl⟩ 0 rfl rfl (gSub.idx [1, 2] rfl rfl) rfl dX0_alter_48 ?_
    refine g_iload_n C 1 rfl rfl dX0_alter_51 ?_
    refine g_icmp_eq C (tgt := 76) dX0_alter_52 (by decide) (fun cd4 => ?_) (fun cd4 => ?_)
    · replace h := (if_pos cd4).symm.trans h
      refine g_aload_n C 0 rfl rfl dX0_alter_76 ?_
      refine g_X0_changes C i_X0_alter_X0 m_X0_alter_2 0 rfl dX0_alter_77 ?_
      refine g_iload_n C 3 rfl rfl dX0_alter_80 ?_
      obtain ⟨g5, eg5, h⟩ := Option.bind_eq_some_iff.mp h
      refine g_cVr (As := [.int v3]) (n9 := 1) (st := []) (w2 := (wX0 E a i t c)) C (c_X3_get E (a (i + 3)) (a (i + 4)) 240 c v3 g5 eg5) gX0_alter_X3_get rfl (by decide +kernel) rfl ⟨by decide, by decide, by decide, by decide, Nat.le_of_ble_eq_true rfl⟩ 0 rfl rfl (gSub.idx [3, 4] rfl rfl) rfl dX0_alter_81 ?_
      refine g_iload_n C 2 rfl rfl dX0_alter_84 ?_
      refine g_iadd C dX0_alter_85 ?_
      refine g_if_ne C (tgt := 110) dX0_alter_86 (by decide) (fun cd6 => ?_) (fun cd6 => ?_)
      · replace h := (if_neg cd6).symm.trans h
        refine g_aload_n C 0 rfl rfl dX0_alter_110 ?_
        refine g_X0_changes C i_X0_alter_X0 m_X0_alter_2 0 rfl dX0_alter_111 ?_
        refine g_iload_n C 3 rfl rfl dX0_alter_114 ?_
        refine g_aload_n C 0 rfl rfl dX0_alter_115 ?_
        refine g_X0_changes C i_X0_alter_X0 m_X0_alter_2 0 rfl dX0_alter_116 ?_
        refine g_iload_n C 3 rfl rfl dX0_alter_119 ?_
        obtain ⟨g7, eg7, h⟩ := Option.bind_eq_some_iff.mp h
        refine g_cVr (As := [.int v3]) (n9 := 1) (st := [.int v3, .ref (a (i + 3))]) (w2 := (wX0 E a i t c)) C (c_X3_get E (a (i + 3)) (a (i + 4)) 240 c v3 g7 eg7) gX0_alter_X3_get rfl (by decide +kernel) rfl ⟨by decide, by decide, by decide, by decide, Nat.le_of_ble_eq_true rfl⟩ 0 rfl rfl (gSub.idx [3, 4] rfl rfl) rfl dX0_alter_120 ?_
        refine g_iload_n C 2 rfl rfl dX0_alter_123 ?_
        refine g_iadd C dX0_alter_124 ?_
        obtain ⟨g8, eg8, h⟩ := Option.bind_eq_some_iff.mp h
        refine g_cVv (As := [.int v3, .int (g7 + v2)]) (n9 := 2) (st := []) (w2 := (wX0 E a i t g8)) C (c_X3_set E (a (i + 3)) (a (i + 4)) 240 c v3 (g7 + v2) g8 eg8) gX0_alter_X3_set rfl (by decide +kernel) rfl ⟨by decide, by decide, by decide, by decide, Nat.le_of_ble_eq_true rfl⟩ 0 rfl rfl (gSub.idx [3, 4] rfl rfl) rfl dX0_alter_125 ?_
        obtain rfl := Option.some.inj h
        exact g_vret C hQ rfl ⟨by decide, by decide⟩ dX0_alter_128
      · replace h := (if_pos cd6).symm.trans h
        refine g_aload_n C 0 rfl rfl dX0_alter_89 ?_
        refine g_X0_times C i_X0_alter_X0 m_X0_alter_0 0 rfl dX0_alter_90 ?_
        refine g_iload_n C 3 rfl rfl dX0_alter_93 ?_
        obtain ⟨g9, eg9, h⟩ := Option.bind_eq_some_iff.mp h
        refine g_cVr (As := [.int v3]) (n9 := 1) (st := []) (w2 := (wX0 E a i g9.2 c)) C (c_X3_remove E (a (i + 1)) (a (i + 2)) 240 t v3 g9 eg9) gX0_alter_X3_remove rfl (by decide +kernel) rfl ⟨by decide, by decide, by decide, by decide, Nat.le_of_ble_eq_true rfl⟩ 0 rfl rfl (gSub.idx [1, 2] rfl rfl) rfl dX0_alter_94 ?_
        refine g_pop C rfl dX0_alter_97 ?_
        refine g_aload_n C 0 rfl rfl dX0_alter_98 ?_
        refine g_X0_changes C i_X0_alter_X0 m_X0_alter_2 0 rfl dX0_alter_99 ?_
        refine g_iload_n C 3 rfl rfl dX0_alter_102 ?_
        obtain ⟨g10, eg10, h⟩ := Option.bind_eq_some_iff.mp h
        refine g_cVr (As := [.int v3]) (n9 := 1) (st := []) (w2 := (wX0 E a i g9.2 g10.2)) C (c_X3_remove E (a (i + 3)) (a (i + 4)) 240 c v3 g10 eg10) gX0_alter_X3_remove rfl (by decide +kernel) rfl ⟨by decide, by decide, by decide, by decide, Nat.le_of_ble_eq_true rfl⟩ 0 rfl rfl (gSub.idx [3, 4] rfl rfl) rfl dX0_alter_103 ?_
        refine g_pop C rfl dX0_alter_106 ?_
        refine g_goto C (tgt := 128) dX0_alter_107 (by decide) ?_
        obtain rfl := Option.some.inj h
        exact g_vret C hQ rfl ⟨by decide, by decide⟩ dX0_alter_128
    · replace h := (if_neg cd4).symm.trans h
      exact v_X0_alter_55 (v1 := v1) (v2 := v2) (v3 := v3) C hQ h
set_option maxHeartbeats 4000000 in
set_option maxRecDepth 100000 in
theorem w_X0_alter_8 {E : gE} {X : gX} {a : Nat → Nat} {i : Nat} {t : RS} {c : RS} {v1 : Int32} {v2 : Int32} {o : (RS × RS)} (C : Cx E X cX0_alter 4 RX0 wsX0_alter r_X0_alter (none) []) (hQ : gQ E X (wX0 E a i t c) r_X0_alter (gO (fun u9 => none) (fun u9 => (wX0 E a i u9.1 u9.2)) (.inr o))) : ∀ (F : Nat) (v3 : Int32), l_X0_alter_8 t c v1 v2 F v3 = some o → Gx E X (wX0 E a i t c) 4 [(0, .ref (a i)), (1, .int v1), (2, .int v2), (3, .int v3)] [] 8 0 0 := by
  intro F
  induction F with
  | zero => intro v3 h; exact absurd h (by simp [l_X0_alter_8])
  | succ F ih =>
    intro v3 h
    rw [l_X0_alter_8] at h
    refine g_iload_n C 3 rfl rfl dX0_alter_8 ?_
    refine g_if_le C (tgt := 32) dX0_alter_9 (by decide) (fun cd1 => ?_) (fun cd1 => ?_)
    · replace h := (if_pos cd1).symm.trans h
      exact v_X0_alter_32 (v1 := v1) (v2 := v2) (v3 := v3) C hQ h
    · replace h := (if_neg cd1).symm.trans h
      refine g_aload_n C 0 rfl rfl dX0_alter_12 ?_
      refine g_X0_times C i_X0_alter_X0 m_X0_alter_0 0 rfl dX0_alter_13 ?_
      refine g_iload_n C 3 rfl rfl dX0_alter_16 ?_
      refine g_iconst C (v := 1) (by decide) dX0_alter_17 ?_
      refine g_isub C dX0_alter_18 ?_
      obtain ⟨g2, eg2, h⟩ := Option.bind_eq_some_iff.mp h
      refine g_cVr (As := [.int (v3 - 1)]) (n9 := 1) (st := []) (w2 := (wX0 E a i t c)) C (c_X3_get E (a (i + 1)) (a (i + 2)) 240 t (v3 - 1) g2 eg2) gX0_alter_X3_get rfl (by decide +kernel) rfl ⟨by decide, by decide, by decide, by decide, Nat.le_of_ble_eq_true rfl⟩ 0 rfl rfl (gSub.idx [1, 2] rfl rfl) rfl dX0_alter_19 ?_
      refine g_iload_n C 1 rfl rfl dX0_alter_22 ?_
      refine g_icmp_lt C (tgt := 32) dX0_alter_23 (by decide) (fun cd3 => ?_) (fun cd3 => ?_)
      · replace h := (if_pos cd3).symm.trans h
        exact v_X0_alter_32 (v1 := v1) (v2 := v2) (v3 := v3) C hQ h
      · replace h := (if_neg cd3).symm.trans h
        refine g_iinc C (v := v3 + (-1)) 3 rfl (show v3 + Int32.ofInt (-1) = v3 + (-1) from congrArg (fun z9 => v3 + z9) (by decide)) (lv2 := [(3, .int (v3 + (-1))), (0, .ref (a i)), (1, .int v1), (2, .int v2)]) rfl (by decide) dX0_alter_26 ?_
        refine g_goto C (tgt := 8) dX0_alter_29 (by decide) ?_
        refine g_lv [1, 2, 3, 0] (lv2 := [(0, .ref (a i)), (1, .int v1), (2, .int v2), (3, .int (v3 + (-1)))]) rfl ?_
        exact ih (v3 + (-1)) h
set_option maxHeartbeats 4000000 in
set_option maxRecDepth 100000 in
theorem c_X0_alter (E : gE) (a : Nat → Nat) (i : Nat) (t : RS) (c : RS) (p1 : Int32) (p2 : Int32) (o : (RS × RS)) (h : f_X0_alter t c p1 p2 = some o) : Ct E yX0_alter wsX0_alter r_X0_alter [.ref (a i), .int p1, .int p2] (wX0 E a i t c) (gO (fun u9 => none) (fun u9 => (wX0 E a i u9.1 u9.2)) (.inr o)) := by
  refine Ct.of (cc := cX0_alter) (nL := 4) (ret := (none)) (own := RX0) (by decide) rfl rfl (Nat.le_of_ble_eq_true rfl) rfl ?_ ?_
  · intro v w1 hh
    cases hh; rfl
  · intro X C hQ
    rw [f_X0_alter] at h
    refine g_aload_n C 0 rfl rfl dX0_alter_0 ?_
    refine g_X0_times C i_X0_alter_X0 m_X0_alter_0 0 rfl dX0_alter_1 ?_
    obtain ⟨g1, eg1, h⟩ := Option.bind_eq_some_iff.mp h
    refine g_cVr (As := []) (n9 := 0) (st := []) (w2 := (wX0 E a i t c)) C (c_X3_size E (a (i + 1)) (a (i + 2)) 240 t g1 eg1) gX0_alter_X3_size rfl (by decide +kernel) rfl ⟨by decide, by decide, by decide, by decide, Nat.le_of_ble_eq_true rfl⟩ 0 rfl rfl (gSub.idx [1, 2] rfl rfl) rfl dX0_alter_4 ?_
    refine g_istore_n C (lv2 := [(3, .int g1), (0, .ref (a i)), (1, .int p1), (2, .int p2)]) rfl (by decide) rfl dX0_alter_7 ?_
    refine g_lv [1, 2, 3, 0] (lv2 := [(0, .ref (a i)), (1, .int p1), (2, .int p2), (3, .int g1)]) rfl ?_
    exact w_X0_alter_8 (v1 := p1) (v2 := p2) C hQ FU g1 h
abbrev r_X0_enter : Room := { frames := 4, cells := 0, slots := 0, locals := 105 }
set_option maxHeartbeats 4000000 in
set_option maxRecDepth 100000 in
theorem c_X0_enter (E : gE) (a : Nat → Nat) (i : Nat) (t : RS) (c : RS) (p1 : Int32) (p2 : Int32) (p3 : Int32) (o : (RS × RS)) (h : f_X0_enter t c p1 p2 p3 = some o) : Ct E yX0_enter wsX0_enter r_X0_enter [.ref (a i), .int p1, .int p2, .int p3] (wX0 E a i t c) (gO (fun u9 => none) (fun u9 => (wX0 E a i u9.1 u9.2)) (.inr o)) := by
  refine Ct.of (cc := cX0_enter) (nL := 4) (ret := (none)) (own := RX0) (by decide) rfl rfl (Nat.le_of_ble_eq_true rfl) rfl ?_ ?_
  · intro v w1 hh
    cases hh; rfl
  · intro X C hQ
    rw [f_X0_enter] at h
    refine g_iload_n C 1 rfl rfl dX0_enter_0 ?_
    refine g_iload_n C 2 rfl rfl dX0_enter_1 ?_
    refine g_icmp_ge C (tgt := 18) dX0_enter_2 (by decide) (fun cd1 => ?_) (fun cd1 => ?_)
    · replace h := (if_pos cd1).symm.trans h
      obtain rfl := Option.some.inj h
      exact g_vret C hQ rfl ⟨by decide, by decide⟩ dX0_enter_18
    · replace h := (if_neg cd1).symm.trans h
      refine g_aload_n C 0 rfl rfl dX0_enter_5 ?_
      refine g_iload_n C 1 rfl rfl dX0_enter_6 ?_
      refine g_iload_n C 3 rfl rfl dX0_enter_7 ?_
      obtain ⟨g2, eg2, h⟩ := Option.bind_eq_some_iff.mp h
      refine g_cVv (As := [.int p1, .int p3]) (n9 := 2) (st := []) (w2 := (wX0 E a i g2.1 g2.2)) C (c_X0_alter E a i t c p1 p3 g2 eg2) gX0_enter_X0_alter rfl (by decide +kernel) rfl ⟨by decide, by decide, by decide, by decide, Nat.le_of_ble_eq_true rfl⟩ 0 rfl rfl (gSub.idx [0, 1, 2, 3, 4] rfl rfl) rfl dX0_enter_8 ?_
      refine g_aload_n C 0 rfl rfl dX0_enter_11 ?_
      refine g_iload_n C 2 rfl rfl dX0_enter_12 ?_
      refine g_iload_n C 3 rfl rfl dX0_enter_13 ?_
      refine g_ineg C dX0_enter_14 ?_
      obtain ⟨g3, eg3, h⟩ := Option.bind_eq_some_iff.mp h
      refine g_cVv (As := [.int p2, .int (-p3)]) (n9 := 2) (st := []) (w2 := (wX0 E a i g3.1 g3.2)) C (c_X0_alter E a i g2.1 g2.2 p2 (-p3) g3 eg3) gX0_enter_X0_alter rfl (by decide +kernel) rfl ⟨by decide, by decide, by decide, by decide, Nat.le_of_ble_eq_true rfl⟩ 0 rfl rfl (gSub.idx [0, 1, 2, 3, 4] rfl rfl) rfl dX0_enter_15 ?_
      obtain rfl := Option.some.inj h
      exact g_vret C hQ rfl ⟨by decide, by decide⟩ dX0_enter_18
abbrev r_X0_at : Room := { frames := 3, cells := 0, slots := 0, locals := 62 }
theorem m_X0_at_0 : Cond.fieldLink RX0 14 "Bookinghouse$Crowd" "times" "LBookinghouse$Row;" ∈ wsX0_at := by decide +kernel
theorem i_X0_at_X0 : ∀ w ∈ wsX00, w ∈ wsX0_at := by decide +kernel
theorem m_X0_at_2 : Cond.fieldLink RX0 20 "Bookinghouse$Crowd" "changes" "LBookinghouse$Row;" ∈ wsX0_at := by decide +kernel
set_option maxHeartbeats 4000000 in
set_option maxRecDepth 100000 in
theorem w_X0_at_4 {E : gE} {X : gX} {a : Nat → Nat} {i : Nat} {t : RS} {c : RS} {v1 : Int32} {o : (Int32)} (C : Cx E X cX0_at 4 RX0 wsX0_at r_X0_at ((some .int)) []) (hQ : gQ E X (wX0 E a i t c) r_X0_at (gO (fun u9 => some (.int u9)) (fun u9 => (wX0 E a i t c)) (.inr o))) : ∀ (F : Nat) (v2 : Int32) (v3 : Int32), l_X0_at_4 t c v1 F v2 v3 = some o → Gx E X (wX0 E a i t c) 4 [(0, .ref (a i)), (1, .int v1), (2, .int v2), (3, .int v3)] [] 4 0 0 := by
  intro F
  induction F with
  | zero => intro v2 v3 h; exact absurd h (by simp [l_X0_at_4])
  | succ F ih =>
    intro v2 v3 h
    rw [l_X0_at_4] at h
    refine g_iload_n C 3 rfl rfl dX0_at_4 ?_
    refine g_aload_n C 0 rfl rfl dX0_at_5 ?_
    refine g_X0_times C i_X0_at_X0 m_X0_at_0 0 rfl dX0_at_6 ?_
    obtain ⟨g1, eg1, h⟩ := Option.bind_eq_some_iff.mp h
    refine g_cVr (As := []) (n9 := 0) (st := [.int v3]) (w2 := (wX0 E a i t c)) C (c_X3_size E (a (i + 1)) (a (i + 2)) 240 t g1 eg1) gX0_at_X3_size rfl (by decide +kernel) rfl ⟨by decide, by decide, by decide, by decide, Nat.le_of_ble_eq_true rfl⟩ 0 rfl rfl (gSub.idx [1, 2] rfl rfl) rfl dX0_at_9 ?_
    refine g_icmp_ge C (tgt := 44) dX0_at_12 (by decide) (fun cd2 => ?_) (fun cd2 => ?_)
    · replace h := (if_pos cd2).symm.trans h
      refine g_iload_n C 2 rfl rfl dX0_at_44 ?_
      obtain rfl := Option.some.inj h
      exact g_iret C hQ rfl ⟨by decide, by decide⟩ dX0_at_45
    · replace h := (if_neg cd2).symm.trans h
      refine g_aload_n C 0 rfl rfl dX0_at_15 ?_
      refine g_X0_times C i_X0_at_X0 m_X0_at_0 0 rfl dX0_at_16 ?_
      refine g_iload_n C 3 rfl rfl dX0_at_19 ?_
      obtain ⟨g3, eg3, h⟩ := Option.bind_eq_some_iff.mp h
      refine g_cVr (As := [.int v3]) (n9 := 1) (st := []) (w2 := (wX0 E a i t c)) C (c_X3_get E (a (i + 1)) (a (i + 2)) 240 t v3 g3 eg3) gX0_at_X3_get rfl (by decide +kernel) rfl ⟨by decide, by decide, by decide, by decide, Nat.le_of_ble_eq_true rfl⟩ 0 rfl rfl (gSub.idx [1, 2] rfl rfl) rfl dX0_at_20 ?_
      refine g_iload_n C 1 rfl rfl dX0_at_23 ?_
      refine g_icmp_gt C (tgt := 44) dX0_at_24 (by decide) (fun cd4 => ?_) (fun cd4 => ?_)
      · replace h := (if_pos cd4).symm.trans h
        refine g_iload_n C 2 rfl rfl dX0_at_44 ?_
        obtain rfl := Option.some.inj h
        exact g_iret C hQ rfl ⟨by decide, by decide⟩ dX0_at_45
      · replace h := (if_neg cd4).symm.trans h
        refine g_iload_n C 2 rfl rfl dX0_at_27 ?_
        refine g_aload_n C 0 rfl rfl dX0_at_28 ?_
        refine g_X0_changes C i_X0_at_X0 m_X0_at_2 0 rfl dX0_at_29 ?_
        refine g_iload_n C 3 rfl rfl dX0_at_32 ?_
        obtain ⟨g5, eg5, h⟩ := Option.bind_eq_some_iff.mp h
        refine g_cVr (As := [.int v3]) (n9 := 1) (st := [.int v2]) (w2 := (wX0 E a i t c)) C (c_X3_get E (a (i + 3)) (a (i + 4)) 240 c v3 g5 eg5) gX0_at_X3_get rfl (by decide +kernel) rfl ⟨by decide, by decide, by decide, by decide, Nat.le_of_ble_eq_true rfl⟩ 0 rfl rfl (gSub.idx [3, 4] rfl rfl) rfl dX0_at_33 ?_
        refine g_iadd C dX0_at_36 ?_
        refine g_istore_n C (lv2 := [(2, .int (v2 + g5)), (0, .ref (a i)), (1, .int v1), (3, .int v3)]) rfl (by decide) rfl dX0_at_37 ?_
        refine g_iinc C (v := v3 + 1) 3 rfl rfl (lv2 := [(3, .int (v3 + 1)), (2, .int (v2 + g5)), (0, .ref (a i)), (1, .int v1)]) rfl (by decide) dX0_at_38 ?_
        refine g_goto C (tgt := 4) dX0_at_41 (by decide) ?_
        refine g_lv [2, 3, 1, 0] (lv2 := [(0, .ref (a i)), (1, .int v1), (2, .int (v2 + g5)), (3, .int (v3 + 1))]) rfl ?_
        exact ih (v2 + g5) (v3 + 1) h
set_option maxHeartbeats 4000000 in
set_option maxRecDepth 100000 in
theorem c_X0_at (E : gE) (a : Nat → Nat) (i : Nat) (t : RS) (c : RS) (p1 : Int32) (o : (Int32)) (h : f_X0_at t c p1 = some o) : Ct E yX0_at wsX0_at r_X0_at [.ref (a i), .int p1] (wX0 E a i t c) (gO (fun u9 => some (.int u9)) (fun u9 => (wX0 E a i t c)) (.inr o)) := by
  refine Ct.of (cc := cX0_at) (nL := 4) (ret := ((some .int))) (own := RX0) (by decide) rfl rfl (Nat.le_of_ble_eq_true rfl) rfl ?_ ?_
  · intro v w1 hh
    cases hh; rfl
  · intro X C hQ
    rw [f_X0_at] at h
    refine g_iconst C (v := 0) (by decide) dX0_at_0 ?_
    refine g_istore_n C (lv2 := [(2, .int 0), (0, .ref (a i)), (1, .int p1)]) rfl (by decide) rfl dX0_at_1 ?_
    refine g_iconst C (v := 0) (by decide) dX0_at_2 ?_
    refine g_istore_n C (lv2 := [(3, .int 0), (2, .int 0), (0, .ref (a i)), (1, .int p1)]) rfl (by decide) rfl dX0_at_3 ?_
    refine g_lv [2, 3, 1, 0] (lv2 := [(0, .ref (a i)), (1, .int p1), (2, .int 0), (3, .int 0)]) rfl ?_
    exact w_X0_at_4 (v1 := p1) C hQ FU 0 0 h
abbrev r_X0_changeAt : Room := { frames := 4, cells := 0, slots := 0, locals := 84 }
theorem m_X0_changeAt_0 : Cond.fieldLink RX0 14 "Bookinghouse$Crowd" "times" "LBookinghouse$Row;" ∈ wsX0_changeAt := by decide +kernel
theorem i_X0_changeAt_X0 : ∀ w ∈ wsX00, w ∈ wsX0_changeAt := by decide +kernel
theorem m_X0_changeAt_2 : Cond.fieldLink RX0 20 "Bookinghouse$Crowd" "changes" "LBookinghouse$Row;" ∈ wsX0_changeAt := by decide +kernel
set_option maxHeartbeats 4000000 in
set_option maxRecDepth 100000 in
theorem c_X0_changeAt (E : gE) (a : Nat → Nat) (i : Nat) (t : RS) (c : RS) (p1 : Int32) (o : (Int32)) (h : f_X0_changeAt t c p1 = some o) : Ct E yX0_changeAt wsX0_changeAt r_X0_changeAt [.ref (a i), .int p1] (wX0 E a i t c) (gO (fun u9 => some (.int u9)) (fun u9 => (wX0 E a i t c)) (.inr o)) := by
  refine Ct.of (cc := cX0_changeAt) (nL := 3) (ret := ((some .int))) (own := RX0) (by decide) rfl rfl (Nat.le_of_ble_eq_true rfl) rfl ?_ ?_
  · intro v w1 hh
    cases hh; rfl
  · intro X C hQ
    rw [f_X0_changeAt] at h
    refine g_aload_n C 0 rfl rfl dX0_changeAt_0 ?_
    refine g_X0_times C i_X0_changeAt_X0 m_X0_changeAt_0 0 rfl dX0_changeAt_1 ?_
    refine g_iload_n C 1 rfl rfl dX0_changeAt_4 ?_
    obtain ⟨g1, eg1, h⟩ := Option.bind_eq_some_iff.mp h
    refine g_cVr (As := [.int p1]) (n9 := 1) (st := []) (w2 := (wX0 E a i t c)) C (c_X3_placeOf E (a (i + 1)) (a (i + 2)) 240 t p1 g1 eg1) gX0_changeAt_X3_placeOf rfl (by decide +kernel) rfl ⟨by decide, by decide, by decide, by decide, Nat.le_of_ble_eq_true rfl⟩ 0 rfl rfl (gSub.idx [1, 2] rfl rfl) rfl dX0_changeAt_5 ?_
    refine g_istore_n C (lv2 := [(2, .int g1), (0, .ref (a i)), (1, .int p1)]) rfl (by decide) rfl dX0_changeAt_8 ?_
    refine g_iload_n C 0 rfl rfl dX0_changeAt_9 ?_
    refine g_if_ge C (tgt := 17) dX0_changeAt_10 (by decide) (fun cd2 => ?_) (fun cd2 => ?_)
    · replace h := (if_pos cd2).symm.trans h
      refine g_aload_n C 1 rfl rfl dX0_changeAt_17 ?_
      refine g_X0_changes C i_X0_changeAt_X0 m_X0_changeAt_2 0 rfl dX0_changeAt_18 ?_
      refine g_iload_n C 0 rfl rfl dX0_changeAt_21 ?_
      obtain ⟨g3, eg3, h⟩ := Option.bind_eq_some_iff.mp h
      refine g_cVr (As := [.int g1]) (n9 := 1) (st := []) (w2 := (wX0 E a i t c)) C (c_X3_get E (a (i + 3)) (a (i + 4)) 240 c g1 g3 eg3) gX0_changeAt_X3_get rfl (by decide +kernel) rfl ⟨by decide, by decide, by decide, by decide, Nat.le_of_ble_eq_true rfl⟩ 0 rfl rfl (gSub.idx [3, 4] rfl rfl) rfl dX0_changeAt_22 ?_
      obtain rfl := Option.some.inj h
      exact g_iret C hQ rfl ⟨by decide, by decide⟩ dX0_changeAt_25
    · replace h := (if_neg cd2).symm.trans h
      refine g_iconst C (v := 0) (by decide) dX0_changeAt_13 ?_
      refine g_goto C (tgt := 25) dX0_changeAt_14 (by decide) ?_
      obtain rfl := Option.some.inj h
      exact g_iret C hQ rfl ⟨by decide, by decide⟩ dX0_changeAt_25
abbrev r_X0_highest : Room := { frames := 3, cells := 0, slots := 0, locals := 62 }
theorem m_X0_highest_0 : Cond.fieldLink RX0 14 "Bookinghouse$Crowd" "times" "LBookinghouse$Row;" ∈ wsX0_highest := by decide +kernel
theorem i_X0_highest_X0 : ∀ w ∈ wsX00, w ∈ wsX0_highest := by decide +kernel
theorem m_X0_highest_2 : Cond.fieldLink RX0 20 "Bookinghouse$Crowd" "changes" "LBookinghouse$Row;" ∈ wsX0_highest := by decide +kernel
theorem m_X0_highest_3 : Cond.methodLink RX0 54 Lib.Math.max.name ∈ wsX0_highest := by decide +kernel
theorem m_X0_highest_4 : Cond.static Lib.Math.max.name ∈ wsX0_highest := by decide +kernel
theorem m_X0_highest_5 : Cond.initialized "java/lang/Math" ∈ wsX0_highest := by decide +kernel
theorem m_X0_highest_6 : Cond.code Lib.Math.max.name Lib.Math.max.code 2 (some .int) ∈ wsX0_highest := by decide +kernel
set_option maxHeartbeats 4000000 in
set_option maxRecDepth 100000 in
theorem w_X0_highest_6 {E : gE} {X : gX} {a : Nat → Nat} {i : Nat} {t : RS} {c : RS} {o : (Int32)} (C : Cx E X cX0_highest 4 RX0 wsX0_highest r_X0_highest ((some .int)) []) (hQ : gQ E X (wX0 E a i t c) r_X0_highest (gO (fun u9 => some (.int u9)) (fun u9 => (wX0 E a i t c)) (.inr o))) : ∀ (F : Nat) (v1 : Int32) (v2 : Int32) (v3 : Int32), l_X0_highest_6 t c F v1 v2 v3 = some o → Gx E X (wX0 E a i t c) 4 [(0, .ref (a i)), (1, .int v1), (2, .int v2), (3, .int v3)] [] 6 0 0 := by
  intro F
  induction F with
  | zero => intro v1 v2 v3 h; exact absurd h (by simp [l_X0_highest_6])
  | succ F ih =>
    intro v1 v2 v3 h
    rw [l_X0_highest_6] at h
    refine g_iload_n C 3 rfl rfl dX0_highest_6 ?_
    refine g_aload_n C 0 rfl rfl dX0_highest_7 ?_
    refine g_X0_times C i_X0_highest_X0 m_X0_highest_0 0 rfl dX0_highest_8 ?_
    obtain ⟨g1, eg1, h⟩ := Option.bind_eq_some_iff.mp h
    refine g_cVr (As := []) (n9 := 0) (st := [.int v3]) (w2 := (wX0 E a i t c)) C (c_X3_size E (a (i + 1)) (a (i + 2)) 240 t g1 eg1) gX0_highest_X3_size rfl (by decide +kernel) rfl ⟨by decide, by decide, by decide, by decide, Nat.le_of_ble_eq_true rfl⟩ 0 rfl rfl (gSub.idx [1, 2] rfl rfl) rfl dX0_highest_11 ?_
    refine g_icmp_ge C (tgt := 40) dX0_highest_14 (by decide) (fun cd2 => ?_) (fun cd2 => ?_)
    · replace h := (if_pos cd2).symm.trans h
      refine g_iload_n C 2 rfl rfl dX0_highest_40 ?_
      obtain rfl := Option.some.inj h
      exact g_iret C hQ rfl ⟨by decide, by decide⟩ dX0_highest_41
    · replace h := (if_neg cd2).symm.trans h
      refine g_iload_n C 1 rfl rfl dX0_highest_17 ?_
      refine g_aload_n C 0 rfl rfl dX0_highest_18 ?_
      refine g_X0_changes C i_X0_highest_X0 m_X0_highest_2 0 rfl dX0_highest_19 ?_
      refine g_iload_n C 3 rfl rfl dX0_highest_22 ?_
      obtain ⟨g3, eg3, h⟩ := Option.bind_eq_some_iff.mp h
      refine g_cVr (As := [.int v3]) (n9 := 1) (st := [.int v1]) (w2 := (wX0 E a i t c)) C (c_X3_get E (a (i + 3)) (a (i + 4)) 240 c v3 g3 eg3) gX0_highest_X3_get rfl (by decide +kernel) rfl ⟨by decide, by decide, by decide, by decide, Nat.le_of_ble_eq_true rfl⟩ 0 rfl rfl (gSub.idx [3, 4] rfl rfl) rfl dX0_highest_23 ?_
      refine g_iadd C dX0_highest_26 ?_
      refine g_istore_n C (lv2 := [(1, .int (v1 + g3)), (0, .ref (a i)), (2, .int v2), (3, .int v3)]) rfl (by decide) rfl dX0_highest_27 ?_
      refine g_iload_n C 2 rfl rfl dX0_highest_28 ?_
      refine g_iload_n C 0 rfl rfl dX0_highest_29 ?_
      refine g_mmax C m_X0_highest_3 m_X0_highest_4 m_X0_highest_5 m_X0_highest_6 ⟨by decide, Nat.le_of_ble_eq_true rfl, by decide, by decide⟩ dX0_highest_30 ?_
      refine g_istore_n C (lv2 := [(2, .int (if v2 < (v1 + g3) then (v1 + g3) else v2)), (1, .int (v1 + g3)), (0, .ref (a i)), (3, .int v3)]) rfl (by decide) rfl dX0_highest_33 ?_
      refine g_iinc C (v := v3 + 1) 3 rfl rfl (lv2 := [(3, .int (v3 + 1)), (2, .int (if v2 < (v1 + g3) then (v1 + g3) else v2)), (1, .int (v1 + g3)), (0, .ref (a i))]) rfl (by decide) dX0_highest_34 ?_
      refine g_goto C (tgt := 6) dX0_highest_37 (by decide) ?_
      refine g_lv [3, 2, 1, 0] (lv2 := [(0, .ref (a i)), (1, .int (v1 + g3)), (2, .int (if v2 < (v1 + g3) then (v1 + g3) else v2)), (3, .int (v3 + 1))]) rfl ?_
      exact ih (v1 + g3) (if v2 < (v1 + g3) then (v1 + g3) else v2) (v3 + 1) h
set_option maxHeartbeats 4000000 in
set_option maxRecDepth 100000 in
theorem c_X0_highest (E : gE) (a : Nat → Nat) (i : Nat) (t : RS) (c : RS) (o : (Int32)) (h : f_X0_highest t c = some o) : Ct E yX0_highest wsX0_highest r_X0_highest [.ref (a i)] (wX0 E a i t c) (gO (fun u9 => some (.int u9)) (fun u9 => (wX0 E a i t c)) (.inr o)) := by
  refine Ct.of (cc := cX0_highest) (nL := 4) (ret := ((some .int))) (own := RX0) (by decide) rfl rfl (Nat.le_of_ble_eq_true rfl) rfl ?_ ?_
  · intro v w1 hh
    cases hh; rfl
  · intro X C hQ
    rw [f_X0_highest] at h
    refine g_iconst C (v := 0) (by decide) dX0_highest_0 ?_
    refine g_istore_n C (lv2 := [(1, .int 0), (0, .ref (a i))]) rfl (by decide) rfl dX0_highest_1 ?_
    refine g_iconst C (v := 0) (by decide) dX0_highest_2 ?_
    refine g_istore_n C (lv2 := [(2, .int 0), (1, .int 0), (0, .ref (a i))]) rfl (by decide) rfl dX0_highest_3 ?_
    refine g_iconst C (v := 0) (by decide) dX0_highest_4 ?_
    refine g_istore_n C (lv2 := [(3, .int 0), (2, .int 0), (1, .int 0), (0, .ref (a i))]) rfl (by decide) rfl dX0_highest_5 ?_
    refine g_lv [3, 2, 1, 0] (lv2 := [(0, .ref (a i)), (1, .int 0), (2, .int 0), (3, .int 0)]) rfl ?_
    exact w_X0_highest_6 C hQ FU 0 0 0 h
abbrev r_X0_highestFrom : Room := { frames := 3, cells := 0, slots := 0, locals := 62 }
theorem m_X0_highestFrom_0 : Cond.fieldLink RX0 14 "Bookinghouse$Crowd" "times" "LBookinghouse$Row;" ∈ wsX0_highestFrom := by decide +kernel
theorem i_X0_highestFrom_X0 : ∀ w ∈ wsX00, w ∈ wsX0_highestFrom := by decide +kernel
theorem m_X0_highestFrom_2 : Cond.fieldLink RX0 20 "Bookinghouse$Crowd" "changes" "LBookinghouse$Row;" ∈ wsX0_highestFrom := by decide +kernel
set_option maxHeartbeats 4000000 in
set_option maxRecDepth 100000 in
theorem w_X0_highestFrom_9 {E : gE} {X : gX} {a : Nat → Nat} {i : Nat} {t : RS} {c : RS} {o : (Int32)} (C : Cx E X cX0_highestFrom 5 RX0 wsX0_highestFrom r_X0_highestFrom ((some .int)) []) (hQ : gQ E X (wX0 E a i t c) r_X0_highestFrom (gO (fun u9 => some (.int u9)) (fun u9 => (wX0 E a i t c)) (.inr o))) : ∀ (F : Nat) (v1 : Int32) (v2 : Int32) (v3 : Int32) (v4 : Int32), l_X0_highestFrom_9 t c F v1 v2 v3 v4 = some o → Gx E X (wX0 E a i t c) 5 [(0, .ref (a i)), (1, .int v1), (2, .int v2), (3, .int v3), (4, .int v4)] [] 9 0 0 := by
  intro F
  induction F with
  | zero => intro v1 v2 v3 v4 h; exact absurd h (by simp [l_X0_highestFrom_9])
  | succ F ih =>
    intro v1 v2 v3 v4 h
    rw [l_X0_highestFrom_9] at h
    refine g_iload C 4 rfl dX0_highestFrom_9 ?_
    refine g_aload_n C 0 rfl rfl dX0_highestFrom_11 ?_
    refine g_X0_times C i_X0_highestFrom_X0 m_X0_highestFrom_0 0 rfl dX0_highestFrom_12 ?_
    obtain ⟨g1, eg1, h⟩ := Option.bind_eq_some_iff.mp h
    refine g_cVr (As := []) (n9 := 0) (st := [.int v4]) (w2 := (wX0 E a i t c)) C (c_X3_size E (a (i + 1)) (a (i + 2)) 240 t g1 eg1) gX0_highestFrom_X3_size rfl (by decide +kernel) rfl ⟨by decide, by decide, by decide, by decide, Nat.le_of_ble_eq_true rfl⟩ 0 rfl rfl (gSub.idx [1, 2] rfl rfl) rfl dX0_highestFrom_15 ?_
    refine g_icmp_ge C (tgt := 56) dX0_highestFrom_18 (by decide) (fun cd2 => ?_) (fun cd2 => ?_)
    · replace h := (if_pos cd2).symm.trans h
      refine g_iload_n C 3 rfl rfl dX0_highestFrom_56 ?_
      obtain rfl := Option.some.inj h
      exact g_iret C hQ rfl ⟨by decide, by decide⟩ dX0_highestFrom_57
    · replace h := (if_neg cd2).symm.trans h
      refine g_iload_n C 1 rfl rfl dX0_highestFrom_21 ?_
      refine g_aload_n C 0 rfl rfl dX0_highestFrom_22 ?_
      refine g_X0_changes C i_X0_highestFrom_X0 m_X0_highestFrom_2 0 rfl dX0_highestFrom_23 ?_
      refine g_iload C 4 rfl dX0_highestFrom_26 ?_
      obtain ⟨g3, eg3, h⟩ := Option.bind_eq_some_iff.mp h
      refine g_cVr (As := [.int v4]) (n9 := 1) (st := [.int v1]) (w2 := (wX0 E a i t c)) C (c_X3_get E (a (i + 3)) (a (i + 4)) 240 c v4 g3 eg3) gX0_highestFrom_X3_get rfl (by decide +kernel) rfl ⟨by decide, by decide, by decide, by decide, Nat.le_of_ble_eq_true rfl⟩ 0 rfl rfl (gSub.idx [3, 4] rfl rfl) rfl dX0_highestFrom_28 ?_
      refine g_iadd C dX0_highestFrom_31 ?_
      refine g_istore_n C (lv2 := [(1, .int (v1 + g3)), (0, .ref (a i)), (2, .int v2), (3, .int v3), (4, .int v4)]) rfl (by decide) rfl dX0_highestFrom_32 ?_
      refine g_iload_n C 0 rfl rfl dX0_highestFrom_33 ?_
      refine g_iload_n C 2 rfl rfl dX0_highestFrom_34 ?_
      refine g_icmp_le C (tgt := 50) dX0_highestFrom_35 (by decide) (fun cd4 => ?_) (fun cd4 => ?_)
      · replace h := (if_pos cd4).symm.trans h
        refine g_iinc C (v := v4 + 1) 4 rfl rfl (lv2 := [(4, .int (v4 + 1)), (1, .int (v1 + g3)), (0, .ref (a i)), (2, .int v2), (3, .int v3)]) rfl (by decide) dX0_highestFrom_50 ?_
        refine g_goto C (tgt := 9) dX0_highestFrom_53 (by decide) ?_
        refine g_lv [2, 1, 3, 4, 0] (lv2 := [(0, .ref (a i)), (1, .int (v1 + g3)), (2, .int v2), (3, .int v3), (4, .int (v4 + 1))]) rfl ?_
        exact ih (v1 + g3) v2 v3 (v4 + 1) h
      · replace h := (if_neg cd4).symm.trans h
        refine g_iload_n C 0 rfl rfl dX0_highestFrom_38 ?_
        refine g_istore_n C (lv2 := [(2, .int (v1 + g3)), (1, .int (v1 + g3)), (0, .ref (a i)), (3, .int v3), (4, .int v4)]) rfl (by decide) rfl dX0_highestFrom_39 ?_
        refine g_aload_n C 2 rfl rfl dX0_highestFrom_40 ?_
        refine g_X0_times C i_X0_highestFrom_X0 m_X0_highestFrom_0 0 rfl dX0_highestFrom_41 ?_
        refine g_iload C 4 rfl dX0_highestFrom_44 ?_
        obtain ⟨g5, eg5, h⟩ := Option.bind_eq_some_iff.mp h
        refine g_cVr (As := [.int v4]) (n9 := 1) (st := []) (w2 := (wX0 E a i t c)) C (c_X3_get E (a (i + 1)) (a (i + 2)) 240 t v4 g5 eg5) gX0_highestFrom_X3_get rfl (by decide +kernel) rfl ⟨by decide, by decide, by decide, by decide, Nat.le_of_ble_eq_true rfl⟩ 0 rfl rfl (gSub.idx [1, 2] rfl rfl) rfl dX0_highestFrom_46 ?_
        refine g_istore_n C (lv2 := [(3, .int g5), (2, .int (v1 + g3)), (1, .int (v1 + g3)), (0, .ref (a i)), (4, .int v4)]) rfl (by decide) rfl dX0_highestFrom_49 ?_
        refine g_iinc C (v := v4 + 1) 4 rfl rfl (lv2 := [(4, .int (v4 + 1)), (3, .int g5), (2, .int (v1 + g3)), (1, .int (v1 + g3)), (0, .ref (a i))]) rfl (by decide) dX0_highestFrom_50 ?_
        refine g_goto C (tgt := 9) dX0_highestFrom_53 (by decide) ?_
        refine g_lv [4, 3, 2, 1, 0] (lv2 := [(0, .ref (a i)), (1, .int (v1 + g3)), (2, .int (v1 + g3)), (3, .int g5), (4, .int (v4 + 1))]) rfl ?_
        exact ih (v1 + g3) (v1 + g3) g5 (v4 + 1) h
set_option maxHeartbeats 4000000 in
set_option maxRecDepth 100000 in
theorem c_X0_highestFrom (E : gE) (a : Nat → Nat) (i : Nat) (t : RS) (c : RS) (o : (Int32)) (h : f_X0_highestFrom t c = some o) : Ct E yX0_highestFrom wsX0_highestFrom r_X0_highestFrom [.ref (a i)] (wX0 E a i t c) (gO (fun u9 => some (.int u9)) (fun u9 => (wX0 E a i t c)) (.inr o)) := by
  refine Ct.of (cc := cX0_highestFrom) (nL := 5) (ret := ((some .int))) (own := RX0) (by decide) rfl rfl (Nat.le_of_ble_eq_true rfl) rfl ?_ ?_
  · intro v w1 hh
    cases hh; rfl
  · intro X C hQ
    rw [f_X0_highestFrom] at h
    refine g_iconst C (v := 0) (by decide) dX0_highestFrom_0 ?_
    refine g_istore_n C (lv2 := [(1, .int 0), (0, .ref (a i))]) rfl (by decide) rfl dX0_highestFrom_1 ?_
    refine g_iconst C (v := 0) (by decide) dX0_highestFrom_2 ?_
    refine g_istore_n C (lv2 := [(2, .int 0), (1, .int 0), (0, .ref (a i))]) rfl (by decide) rfl dX0_highestFrom_3 ?_
    refine g_iconst C (v := 0) (by decide) dX0_highestFrom_4 ?_
    refine g_istore_n C (lv2 := [(3, .int 0), (2, .int 0), (1, .int 0), (0, .ref (a i))]) rfl (by decide) rfl dX0_highestFrom_5 ?_
    refine g_iconst C (v := 0) (by decide) dX0_highestFrom_6 ?_
    refine g_istore C (lv2 := [(4, .int 0), (3, .int 0), (2, .int 0), (1, .int 0), (0, .ref (a i))]) rfl (by decide) dX0_highestFrom_7 ?_
    refine g_lv [4, 3, 2, 1, 0] (lv2 := [(0, .ref (a i)), (1, .int 0), (2, .int 0), (3, .int 0), (4, .int 0)]) rfl ?_
    exact w_X0_highestFrom_9 C hQ FU 0 0 0 0 h
abbrev r_X0_busyTimes : Room := { frames := 3, cells := 0, slots := 0, locals := 62 }
theorem m_X0_busyTimes_0 : Cond.fieldLink RX0 14 "Bookinghouse$Crowd" "times" "LBookinghouse$Row;" ∈ wsX0_busyTimes := by decide +kernel
theorem i_X0_busyTimes_X0 : ∀ w ∈ wsX00, w ∈ wsX0_busyTimes := by decide +kernel
theorem m_X0_busyTimes_2 : Cond.fieldLink RX0 20 "Bookinghouse$Crowd" "changes" "LBookinghouse$Row;" ∈ wsX0_busyTimes := by decide +kernel
theorem m_X0_busyTimes_3 : Cond.methodLink RX0 54 Lib.Math.max.name ∈ wsX0_busyTimes := by decide +kernel
theorem m_X0_busyTimes_4 : Cond.static Lib.Math.max.name ∈ wsX0_busyTimes := by decide +kernel
theorem m_X0_busyTimes_5 : Cond.initialized "java/lang/Math" ∈ wsX0_busyTimes := by decide +kernel
theorem m_X0_busyTimes_6 : Cond.code Lib.Math.max.name Lib.Math.max.code 2 (some .int) ∈ wsX0_busyTimes := by decide +kernel
theorem m_X0_busyTimes_7 : Cond.methodLink RX0 63 Lib.Math.min.name ∈ wsX0_busyTimes := by decide +kernel
theorem m_X0_busyTimes_8 : Cond.static Lib.Math.min.name ∈ wsX0_busyTimes := by decide +kernel
theorem m_X0_busyTimes_9 : Cond.code Lib.Math.min.name Lib.Math.min.code 2 (some .int) ∈ wsX0_busyTimes := by decide +kernel
set_option maxHeartbeats 4000000 in
set_option maxRecDepth 100000 in
theorem w_X0_busyTimes_8 {E : gE} {X : gX} {a : Nat → Nat} {i : Nat} {t : RS} {c : RS} {v1 : Int32} {v2 : Int32} {o : (Int32)} (C : Cx E X cX0_busyTimes 8 RX0 wsX0_busyTimes r_X0_busyTimes ((some .int)) []) (hQ : gQ E X (wX0 E a i t c) r_X0_busyTimes (gO (fun u9 => some (.int u9)) (fun u9 => (wX0 E a i t c)) (.inr o))) : ∀ (F : Nat) (v3 : Int32) (v4 : Int32) (v5 : Int32), l_X0_busyTimes_8 t c v1 v2 F v3 v4 v5 = some o → Gx E X (wX0 E a i t c) 8 [(0, .ref (a i)), (1, .int v1), (2, .int v2), (3, .int v3), (4, .int v4), (5, .int v5)] [] 8 0 0 := by
  intro F
  induction F with
  | zero => intro v3 v4 v5 h; exact absurd h (by simp [l_X0_busyTimes_8])
  | succ F ih =>
    intro v3 v4 v5 h
    rw [l_X0_busyTimes_8] at h
    refine g_iload C 5 rfl dX0_busyTimes_8 ?_
    refine g_aload_n C 0 rfl rfl dX0_busyTimes_10 ?_
    refine g_X0_times C i_X0_busyTimes_X0 m_X0_busyTimes_0 0 rfl dX0_busyTimes_11 ?_
    obtain ⟨g1, eg1, h⟩ := Option.bind_eq_some_iff.mp h
    refine g_cVr (As := []) (n9 := 0) (st := [.int v5]) (w2 := (wX0 E a i t c)) C (c_X3_size E (a (i + 1)) (a (i + 2)) 240 t g1 eg1) gX0_busyTimes_X3_size rfl (by decide +kernel) rfl ⟨by decide, by decide, by decide, by decide, Nat.le_of_ble_eq_true rfl⟩ 0 rfl rfl (gSub.idx [1, 2] rfl rfl) rfl dX0_busyTimes_14 ?_
    refine g_icmp_ge C (tgt := 91) dX0_busyTimes_17 (by decide) (fun cd2 => ?_) (fun cd2 => ?_)
    · replace h := (if_pos cd2).symm.trans h
      refine g_iload C 4 rfl dX0_busyTimes_91 ?_
      obtain rfl := Option.some.inj h
      exact g_iret C hQ rfl ⟨by decide, by decide⟩ dX0_busyTimes_93
    · replace h := (if_neg cd2).symm.trans h
      refine g_iload_n C 3 rfl rfl dX0_busyTimes_20 ?_
      refine g_aload_n C 0 rfl rfl dX0_busyTimes_21 ?_
      refine g_X0_changes C i_X0_busyTimes_X0 m_X0_busyTimes_2 0 rfl dX0_busyTimes_22 ?_
      refine g_iload C 5 rfl dX0_busyTimes_25 ?_
      obtain ⟨g3, eg3, h⟩ := Option.bind_eq_some_iff.mp h
      refine g_cVr (As := [.int v5]) (n9 := 1) (st := [.int v3]) (w2 := (wX0 E a i t c)) C (c_X3_get E (a (i + 3)) (a (i + 4)) 240 c v5 g3 eg3) gX0_busyTimes_X3_get rfl (by decide +kernel) rfl ⟨by decide, by decide, by decide, by decide, Nat.le_of_ble_eq_true rfl⟩ 0 rfl rfl (gSub.idx [3, 4] rfl rfl) rfl dX0_busyTimes_27 ?_
      refine g_iadd C dX0_busyTimes_30 ?_
      refine g_istore_n C (lv2 := [(3, .int (v3 + g3)), (0, .ref (a i)), (1, .int v1), (2, .int v2), (4, .int v4), (5, .int v5)]) rfl (by decide) rfl dX0_busyTimes_31 ?_
      refine g_iload_n C 2 rfl rfl dX0_busyTimes_32 ?_
      refine g_aload_n C 1 rfl rfl dX0_busyTimes_33 ?_
      refine g_X0_times C i_X0_busyTimes_X0 m_X0_busyTimes_0 0 rfl dX0_busyTimes_34 ?_
      refine g_iload C 5 rfl dX0_busyTimes_37 ?_
      obtain ⟨g4, eg4, h⟩ := Option.bind_eq_some_iff.mp h
      refine g_cVr (As := [.int v5]) (n9 := 1) (st := [.int v1]) (w2 := (wX0 E a i t c)) C (c_X3_get E (a (i + 1)) (a (i + 2)) 240 t v5 g4 eg4) gX0_busyTimes_X3_get rfl (by decide +kernel) rfl ⟨by decide, by decide, by decide, by decide, Nat.le_of_ble_eq_true rfl⟩ 0 rfl rfl (gSub.idx [1, 2] rfl rfl) rfl dX0_busyTimes_39 ?_
      refine g_mmax C m_X0_busyTimes_3 m_X0_busyTimes_4 m_X0_busyTimes_5 m_X0_busyTimes_6 ⟨by decide, Nat.le_of_ble_eq_true rfl, by decide, by decide⟩ dX0_busyTimes_42 ?_
      refine g_istore C (lv2 := [(6, .int (if v1 < g4 then g4 else v1)), (3, .int (v3 + g3)), (0, .ref (a i)), (1, .int v1), (2, .int v2), (4, .int v4), (5, .int v5)]) rfl (by decide) dX0_busyTimes_45 ?_
      refine g_iload_n C 4 rfl rfl dX0_busyTimes_47 ?_
      refine g_aload_n C 2 rfl rfl dX0_busyTimes_48 ?_
      refine g_X0_times C i_X0_busyTimes_X0 m_X0_busyTimes_0 0 rfl dX0_busyTimes_49 ?_
      refine g_iload C 6 rfl dX0_busyTimes_52 ?_
      refine g_iconst C (v := 1) (by decide) dX0_busyTimes_54 ?_
      refine g_iadd C dX0_busyTimes_55 ?_
      obtain ⟨g5, eg5, h⟩ := Option.bind_eq_some_iff.mp h
      refine g_cVr (As := [.int (v5 + 1)]) (n9 := 1) (st := [.int v2]) (w2 := (wX0 E a i t c)) C (c_X3_get E (a (i + 1)) (a (i + 2)) 240 t (v5 + 1) g5 eg5) gX0_busyTimes_X3_get rfl (by decide +kernel) rfl ⟨by decide, by decide, by decide, by decide, Nat.le_of_ble_eq_true rfl⟩ 0 rfl rfl (gSub.idx [1, 2] rfl rfl) rfl dX0_busyTimes_56 ?_
      refine g_mmin C m_X0_busyTimes_7 m_X0_busyTimes_8 m_X0_busyTimes_5 m_X0_busyTimes_9 ⟨by decide, Nat.le_of_ble_eq_true rfl, by decide, by decide⟩ dX0_busyTimes_59 ?_
      refine g_istore C (lv2 := [(7, .int (if g5 < v2 then g5 else v2)), (6, .int (if v1 < g4 then g4 else v1)), (3, .int (v3 + g3)), (0, .ref (a i)), (1, .int v1), (2, .int v2), (4, .int v4), (5, .int v5)]) rfl (by decide) dX0_busyTimes_62 ?_
      refine g_iload_n C 2 rfl rfl dX0_busyTimes_64 ?_
      refine g_if_eq C (tgt := 85) dX0_busyTimes_65 (by decide) (fun cd6 => ?_) (fun cd6 => ?_)
      · replace h := (if_pos cd6).symm.trans h
        refine g_iinc C (v := v5 + 1) 7 rfl rfl (lv2 := [(5, .int (v5 + 1)), (7, .int (if g5 < v2 then g5 else v2)), (6, .int (if v1 < g4 then g4 else v1)), (3, .int (v3 + g3)), (0, .ref (a i)), (1, .int v1), (2, .int v2), (4, .int v4)]) rfl (by decide) dX0_busyTimes_85 ?_
        refine g_goto C (tgt := 8) dX0_busyTimes_88 (by decide) ?_
        refine g_lv [4, 5, 6, 3, 7, 0] (lv2 := [(0, .ref (a i)), (1, .int v1), (2, .int v2), (3, .int (v3 + g3)), (4, .int v4), (5, .int (v5 + 1))]) rfl ?_
        exact ih (v3 + g3) v4 (v5 + 1) h
      · replace h := (if_neg cd6).symm.trans h
        refine g_iload C 1 rfl dX0_busyTimes_68 ?_
        refine g_iload C 0 rfl dX0_busyTimes_70 ?_
        refine g_icmp_ge C (tgt := 85) dX0_busyTimes_72 (by decide) (fun cd7 => ?_) (fun cd7 => ?_)
        · replace h := (if_pos cd7).symm.trans h
          refine g_iinc C (v := v5 + 1) 7 rfl rfl (lv2 := [(5, .int (v5 + 1)), (7, .int (if g5 < v2 then g5 else v2)), (6, .int (if v1 < g4 then g4 else v1)), (3, .int (v3 + g3)), (0, .ref (a i)), (1, .int v1), (2, .int v2), (4, .int v4)]) rfl (by decide) dX0_busyTimes_85 ?_
          refine g_goto C (tgt := 8) dX0_busyTimes_88 (by decide) ?_
          refine g_lv [4, 5, 6, 3, 7, 0] (lv2 := [(0, .ref (a i)), (1, .int v1), (2, .int v2), (3, .int (v3 + g3)), (4, .int v4), (5, .int (v5 + 1))]) rfl ?_
          exact ih (v3 + g3) v4 (v5 + 1) h
        · replace h := (if_neg cd7).symm.trans h
          refine g_iload C 6 rfl dX0_busyTimes_75 ?_
          refine g_iload C 0 rfl dX0_busyTimes_77 ?_
          refine g_iload C 1 rfl dX0_busyTimes_79 ?_
          refine g_isub C dX0_busyTimes_81 ?_
          refine g_iadd C dX0_busyTimes_82 ?_
          refine g_istore C (lv2 := [(4, .int (v4 + ((if g5 < v2 then g5 else v2) - (if v1 < g4 then g4 else v1)))), (7, .int (if g5 < v2 then g5 else v2)), (6, .int (if v1 < g4 then g4 else v1)), (3, .int (v3 + g3)), (0, .ref (a i)), (1, .int v1), (2, .int v2), (5, .int v5)]) rfl (by decide) dX0_busyTimes_83 ?_
          refine g_iinc C (v := v5 + 1) 7 rfl rfl (lv2 := [(5, .int (v5 + 1)), (4, .int (v4 + ((if g5 < v2 then g5 else v2) - (if v1 < g4 then g4 else v1)))), (7, .int (if g5 < v2 then g5 else v2)), (6, .int (if v1 < g4 then g4 else v1)), (3, .int (v3 + g3)), (0, .ref (a i)), (1, .int v1), (2, .int v2)]) rfl (by decide) dX0_busyTimes_85 ?_
          refine g_goto C (tgt := 8) dX0_busyTimes_88 (by decide) ?_
          refine g_lv [5, 6, 7, 4, 1, 0] (lv2 := [(0, .ref (a i)), (1, .int v1), (2, .int v2), (3, .int (v3 + g3)), (4, .int (v4 + ((if g5 < v2 then g5 else v2) - (if v1 < g4 then g4 else v1)))), (5, .int (v5 + 1))]) rfl ?_
          exact ih (v3 + g3) (v4 + ((if g5 < v2 then g5 else v2) - (if v1 < g4 then g4 else v1))) (v5 + 1) h
set_option maxHeartbeats 4000000 in
set_option maxRecDepth 100000 in
theorem c_X0_busyTimes (E : gE) (a : Nat → Nat) (i : Nat) (t : RS) (c : RS) (p1 : Int32) (p2 : Int32) (o : (Int32)) (h : f_X0_busyTimes t c p1 p2 = some o) : Ct E yX0_busyTimes wsX0_busyTimes r_X0_busyTimes [.ref (a i), .int p1, .int p2] (wX0 E a i t c) (gO (fun u9 => some (.int u9)) (fun u9 => (wX0 E a i t c)) (.inr o)) := by
  refine Ct.of (cc := cX0_busyTimes) (nL := 8) (ret := ((some .int))) (own := RX0) (by decide) rfl rfl (Nat.le_of_ble_eq_true rfl) rfl ?_ ?_
  · intro v w1 hh
    cases hh; rfl
  · intro X C hQ
    rw [f_X0_busyTimes] at h
    refine g_iconst C (v := 0) (by decide) dX0_busyTimes_0 ?_
    refine g_istore_n C (lv2 := [(3, .int 0), (0, .ref (a i)), (1, .int p1), (2, .int p2)]) rfl (by decide) rfl dX0_busyTimes_1 ?_
    refine g_iconst C (v := 0) (by decide) dX0_busyTimes_2 ?_
    refine g_istore C (lv2 := [(4, .int 0), (3, .int 0), (0, .ref (a i)), (1, .int p1), (2, .int p2)]) rfl (by decide) dX0_busyTimes_3 ?_
    refine g_iconst C (v := 0) (by decide) dX0_busyTimes_5 ?_
    refine g_istore C (lv2 := [(5, .int 0), (4, .int 0), (3, .int 0), (0, .ref (a i)), (1, .int p1), (2, .int p2)]) rfl (by decide) dX0_busyTimes_6 ?_
    refine g_lv [3, 4, 5, 2, 1, 0] (lv2 := [(0, .ref (a i)), (1, .int p1), (2, .int p2), (3, .int 0), (4, .int 0), (5, .int 0)]) rfl ?_
    exact w_X0_busyTimes_8 (v1 := p1) (v2 := p2) C hQ FU 0 0 0 h
abbrev r_X0_allBusyTimes : Room := { frames := 4, cells := 0, slots := 0, locals := 89 }
theorem m_X0_allBusyTimes_0 : Cond.fieldLink RX0 14 "Bookinghouse$Crowd" "times" "LBookinghouse$Row;" ∈ wsX0_allBusyTimes := by decide +kernel
theorem i_X0_allBusyTimes_X0 : ∀ w ∈ wsX00, w ∈ wsX0_allBusyTimes := by decide +kernel
set_option maxHeartbeats 4000000 in
set_option maxRecDepth 100000 in
theorem c_X0_allBusyTimes (E : gE) (a : Nat → Nat) (i : Nat) (t : RS) (c : RS) (o : (Int32)) (h : f_X0_allBusyTimes t c = some o) : Ct E yX0_allBusyTimes wsX0_allBusyTimes r_X0_allBusyTimes [.ref (a i)] (wX0 E a i t c) (gO (fun u9 => some (.int u9)) (fun u9 => (wX0 E a i t c)) (.inr o)) := by
  refine Ct.of (cc := cX0_allBusyTimes) (nL := 1) (ret := ((some .int))) (own := RX0) (by decide) rfl rfl (Nat.le_of_ble_eq_true rfl) rfl ?_ ?_
  · intro v w1 hh
    cases hh; rfl
  · intro X C hQ
    rw [f_X0_allBusyTimes] at h
    refine g_aload_n C 0 rfl rfl dX0_allBusyTimes_0 ?_
    refine g_iconst C (v := 0) (by decide) dX0_allBusyTimes_1 ?_
    refine g_aload_n C 0 rfl rfl dX0_allBusyTimes_2 ?_
    refine g_X0_times C i_X0_allBusyTimes_X0 m_X0_allBusyTimes_0 0 rfl dX0_allBusyTimes_3 ?_
    refine g_aload_n C 0 rfl rfl dX0_allBusyTimes_6 ?_
    refine g_X0_times C i_X0_allBusyTimes_X0 m_X0_allBusyTimes_0 0 rfl dX0_allBusyTimes_7 ?_
    obtain ⟨g1, eg1, h⟩ := Option.bind_eq_some_iff.mp h
    refine g_cVr (As := []) (n9 := 0) (st := [.ref (a (i + 1)), .int 0, .ref (a i)]) (w2 := (wX0 E a i t c)) C (c_X3_size E (a (i + 1)) (a (i + 2)) 240 t g1 eg1) gX0_allBusyTimes_X3_size rfl (by decide +kernel) rfl ⟨by decide, by decide, by decide, by decide, Nat.le_of_ble_eq_true rfl⟩ 0 rfl rfl (gSub.idx [1, 2] rfl rfl) rfl dX0_allBusyTimes_10 ?_
    refine g_iconst C (v := 1) (by decide) dX0_allBusyTimes_13 ?_
    refine g_isub C dX0_allBusyTimes_14 ?_
    obtain ⟨g2, eg2, h⟩ := Option.bind_eq_some_iff.mp h
    refine g_cVr (As := [.int (g1 - 1)]) (n9 := 1) (st := [.int 0, .ref (a i)]) (w2 := (wX0 E a i t c)) C (c_X3_get E (a (i + 1)) (a (i + 2)) 240 t (g1 - 1) g2 eg2) gX0_allBusyTimes_X3_get rfl (by decide +kernel) rfl ⟨by decide, by decide, by decide, by decide, Nat.le_of_ble_eq_true rfl⟩ 0 rfl rfl (gSub.idx [1, 2] rfl rfl) rfl dX0_allBusyTimes_15 ?_
    obtain ⟨g3, eg3, h⟩ := Option.bind_eq_some_iff.mp h
    refine g_cVr (As := [.int 0, .int g2]) (n9 := 2) (st := []) (w2 := (wX0 E a i t c)) C (c_X0_busyTimes E a i t c 0 g2 g3 eg3) gX0_allBusyTimes_X0_busyTimes rfl (by decide +kernel) rfl ⟨by decide, by decide, by decide, by decide, Nat.le_of_ble_eq_true rfl⟩ 0 rfl rfl (gSub.idx [0, 1, 2, 3, 4] rfl rfl) rfl dX0_allBusyTimes_18 ?_
    obtain rfl := Option.some.inj h
    exact g_iret C hQ rfl ⟨by decide, by decide⟩ dX0_allBusyTimes_21
abbrev r_X0_busySpans : Room := { frames := 3, cells := 0, slots := 0, locals := 62 }
theorem m_X0_busySpans_0 : Cond.fieldLink RX0 14 "Bookinghouse$Crowd" "times" "LBookinghouse$Row;" ∈ wsX0_busySpans := by decide +kernel
theorem i_X0_busySpans_X0 : ∀ w ∈ wsX00, w ∈ wsX0_busySpans := by decide +kernel
theorem m_X0_busySpans_2 : Cond.fieldLink RX0 20 "Bookinghouse$Crowd" "changes" "LBookinghouse$Row;" ∈ wsX0_busySpans := by decide +kernel
set_option maxHeartbeats 4000000 in
set_option maxRecDepth 100000 in
theorem v_X0_busySpans_27 {E : gE} {X : gX} {a : Nat → Nat} {i : Nat} {t : RS} {c : RS} {v1 : Int32} {v3 : Int32} {s0 : Int32} {s1 : Bool} {ko6 : Int32 → Int32 → Int32 → Option (Int32)} {o : (Int32)} (C : Cx E X cX0_busySpans 4 RX0 wsX0_busySpans r_X0_busySpans ((some .int)) []) (hQ : gQ E X (wX0 E a i t c) r_X0_busySpans (gO (fun u9 => some (.int u9)) (fun u9 => (wX0 E a i t c)) (.inr o))) (Hko6 : ∀ (qv1 : Int32) (qv2 : Int32) (qv3 : Int32), ko6 qv1 qv2 qv3 = some o → Gx E X (wX0 E a i t c) 4 [(0, .ref (a i)), (1, .int qv1), (2, .int qv2), (3, .int qv3)] [] 6 0 0) (h : b_X0_busySpans_27 c ko6 v1 v3 s0 s1 = some o) : Gx E X (wX0 E a i t c) 4 [(0, .ref (a i)), (1, .int v1), (3, .int v3)] [.int (bI s1), .int s0] 27 0 0 := by
  rw [b_X0_busySpans_27] at h
  refine g_iadd C dX0_busySpans_27 ?_
  refine g_istore_n C (lv2 := [(2, .int (s0 + (bI s1))), (0, .ref (a i)), (1, .int v1), (3, .int v3)]) rfl (by decide) rfl dX0_busySpans_28 ?_
  refine g_iload_n C 2 rfl rfl dX0_busySpans_29 ?_
  refine g_aload_n C 1 rfl rfl dX0_busySpans_30 ?_
  refine g_X0_changes C i_X0_busySpans_X0 m_X0_busySpans_2 0 rfl dX0_busySpans_31 ?_
  refine g_iload_n C 3 rfl rfl dX0_busySpans_34 ?_
  obtain ⟨g1, eg1, h⟩ := Option.bind_eq_some_iff.mp h
  refine g_cVr (As := [.int v3]) (n9 := 1) (st := [.int v1]) (w2 := (wX0 E a i t c)) C (c_X3_get E (a (i + 3)) (a (i + 4)) 240 c v3 g1 eg1) gX0_busySpans_X3_get rfl (by decide +kernel) rfl ⟨by decide, by decide, by decide, by decide, Nat.le_of_ble_eq_true rfl⟩ 0 rfl rfl (gSub.idx [3, 4] rfl rfl) rfl dX0_busySpans_35 ?_
  refine g_iadd C dX0_busySpans_38 ?_
  refine g_istore_n C (lv2 := [(1, .int (v1 + g1)), (2, .int (s0 + (bI s1))), (0, .ref (a i)), (3, .int v3)]) rfl (by decide) rfl dX0_busySpans_39 ?_
  refine g_iinc C (v := v3 + 1) 3 rfl rfl (lv2 := [(3, .int (v3 + 1)), (1, .int (v1 + g1)), (2, .int (s0 + (bI s1))), (0, .ref (a i))]) rfl (by decide) dX0_busySpans_40 ?_
  refine g_goto C (tgt := 6) dX0_busySpans_43 (by decide) ?_
  refine g_lv [3, 1, 2, 0] (lv2 := [(0, .ref (a i)), (1, .int (v1 + g1)), (2, .int (s0 + (bI s1))), (3, .int (v3 + 1))]) rfl ?_
  exact Hko6 (v1 + g1) (s0 + (bI s1)) (v3 + 1) h
set_option maxHeartbeats 4000000 in
set_option maxRecDepth 100000 in
theorem w_X0_busySpans_6 {E : gE} {X : gX} {a : Nat → Nat} {i : Nat} {t : RS} {c : RS} {o : (Int32)} (C : Cx E X cX0_busySpans 4 RX0 wsX0_busySpans r_X0_busySpans ((some .int)) []) (hQ : gQ E X (wX0 E a i t c) r_X0_busySpans (gO (fun u9 => some (.int u9)) (fun u9 => (wX0 E a i t c)) (.inr o))) : ∀ (F : Nat) (v1 : Int32) (v2 : Int32) (v3 : Int32), l_X0_busySpans_6 t c F v1 v2 v3 = some o → Gx E X (wX0 E a i t c) 4 [(0, .ref (a i)), (1, .int v1), (2, .int v2), (3, .int v3)] [] 6 0 0 := by
  intro F
  induction F with
  | zero => intro v1 v2 v3 h; exact absurd h (by simp [l_X0_busySpans_6])
  | succ F ih =>
    intro v1 v2 v3 h
    rw [l_X0_busySpans_6] at h
    refine g_iload_n C 3 rfl rfl dX0_busySpans_6 ?_
    refine g_aload_n C 0 rfl rfl dX0_busySpans_7 ?_
    refine g_X0_times C i_X0_busySpans_X0 m_X0_busySpans_0 0 rfl dX0_busySpans_8 ?_
    obtain ⟨g1, eg1, h⟩ := Option.bind_eq_some_iff.mp h
    refine g_cVr (As := []) (n9 := 0) (st := [.int v3]) (w2 := (wX0 E a i t c)) C (c_X3_size E (a (i + 1)) (a (i + 2)) 240 t g1 eg1) gX0_busySpans_X3_size rfl (by decide +kernel) rfl ⟨by decide, by decide, by decide, by decide, Nat.le_of_ble_eq_true rfl⟩ 0 rfl rfl (gSub.idx [1, 2] rfl rfl) rfl dX0_busySpans_11 ?_
    refine g_icmp_ge C (tgt := 46) dX0_busySpans_14 (by decide) (fun cd2 => ?_) (fun cd2 => ?_)
    · replace h := (if_pos cd2).symm.trans h
      refine g_iload_n C 2 rfl rfl dX0_busySpans_46 ?_
      obtain rfl := Option.some.inj h
      exact g_iret C hQ rfl ⟨by decide, by decide⟩ dX0_busySpans_47
    · replace h := (if_neg cd2).symm.trans h
      refine g_iload_n C 2 rfl rfl dX0_busySpans_17 ?_
      refine g_iload_n C 1 rfl rfl dX0_busySpans_18 ?_
      refine g_if_ne C (tgt := 26) dX0_busySpans_19 (by decide) (fun cd3 => ?_) (fun cd3 => ?_)
      · replace h := (if_neg cd3).symm.trans h
        refine g_iconst C (v := 0) (by decide) dX0_busySpans_26 ?_
        refine g_lv [0, 1, 3] (lv2 := [(0, .ref (a i)), (1, .int v1), (3, .int v3)]) rfl ?_
        exact v_X0_busySpans_27 (v1 := v1) (v3 := v3) (s0 := v2) (s1 := false) C hQ (fun qv1 qv2 qv3 hh => ih qv1 qv2 qv3 hh) h
      · replace h := (if_pos cd3).symm.trans h
        refine g_iconst C (v := 1) (by decide) dX0_busySpans_22 ?_
        refine g_goto C (tgt := 27) dX0_busySpans_23 (by decide) ?_
        refine g_lv [0, 1, 3] (lv2 := [(0, .ref (a i)), (1, .int v1), (3, .int v3)]) rfl ?_
        exact v_X0_busySpans_27 (v1 := v1) (v3 := v3) (s0 := v2) (s1 := true) C hQ (fun qv1 qv2 qv3 hh => ih qv1 qv2 qv3 hh) h
set_option maxHeartbeats 4000000 in
set_option maxRecDepth 100000 in
theorem c_X0_busySpans (E : gE) (a : Nat → Nat) (i : Nat) (t : RS) (c : RS) (o : (Int32)) (h : f_X0_busySpans t c = some o) : Ct E yX0_busySpans wsX0_busySpans r_X0_busySpans [.ref (a i)] (wX0 E a i t c) (gO (fun u9 => some (.int u9)) (fun u9 => (wX0 E a i t c)) (.inr o)) := by
  refine Ct.of (cc := cX0_busySpans) (nL := 4) (ret := ((some .int))) (own := RX0) (by decide) rfl rfl (Nat.le_of_ble_eq_true rfl) rfl ?_ ?_
  · intro v w1 hh
    cases hh; rfl
  · intro X C hQ
    rw [f_X0_busySpans] at h
    refine g_iconst C (v := 0) (by decide) dX0_busySpans_0 ?_
    refine g_istore_n C (lv2 := [(1, .int 0), (0, .ref (a i))]) rfl (by decide) rfl dX0_busySpans_1 ?_
    refine g_iconst C (v := 0) (by decide) dX0_busySpans_2 ?_
    refine g_istore_n C (lv2 := [(2, .int 0), (1, .int 0), (0, .ref (a i))]) rfl (by decide) rfl dX0_busySpans_3 ?_
    refine g_iconst C (v := 0) (by decide) dX0_busySpans_4 ?_
    refine g_istore_n C (lv2 := [(3, .int 0), (2, .int 0), (1, .int 0), (0, .ref (a i))]) rfl (by decide) rfl dX0_busySpans_5 ?_
    refine g_lv [3, 2, 1, 0] (lv2 := [(0, .ref (a i)), (1, .int 0), (2, .int 0), (3, .int 0)]) rfl ?_
    exact w_X0_busySpans_6 C hQ FU 0 0 0 h
abbrev r_X0_firstChangeOf : Room := { frames := 3, cells := 0, slots := 0, locals := 62 }
theorem m_X0_firstChangeOf_0 : Cond.fieldLink RX0 14 "Bookinghouse$Crowd" "times" "LBookinghouse$Row;" ∈ wsX0_firstChangeOf := by decide +kernel
theorem i_X0_firstChangeOf_X0 : ∀ w ∈ wsX00, w ∈ wsX0_firstChangeOf := by decide +kernel
theorem m_X0_firstChangeOf_2 : Cond.fieldLink RX0 20 "Bookinghouse$Crowd" "changes" "LBookinghouse$Row;" ∈ wsX0_firstChangeOf := by decide +kernel
set_option maxHeartbeats 4000000 in
set_option maxRecDepth 100000 in
theorem v_X0_firstChangeOf_34 {E : gE} {X : gX} {a : Nat → Nat} {i : Nat} {t : RS} {c : RS} {v1 : Int32} {v2 : Int32} {v3 : Int32} {v4 : Int32} {ko7 : Int32 → Int32 → Int32 → Option (Int32)} {o : (Int32)} (C : Cx E X cX0_firstChangeOf 5 RX0 wsX0_firstChangeOf r_X0_firstChangeOf ((some .int)) []) (hQ : gQ E X (wX0 E a i t c) r_X0_firstChangeOf (gO (fun u9 => some (.int u9)) (fun u9 => (wX0 E a i t c)) (.inr o))) (Hko7 : ∀ (qv2 : Int32) (qv3 : Int32) (qv4 : Int32), ko7 qv2 qv3 qv4 = some o → Gx E X (wX0 E a i t c) 5 [(0, .ref (a i)), (1, .int v1), (2, .int qv2), (3, .int qv3), (4, .int qv4)] [] 7 0 0) (h : b_X0_firstChangeOf_34 c ko7 v1 v2 v3 v4 = some o) : Gx E X (wX0 E a i t c) 5 [(0, .ref (a i)), (1, .int v1), (2, .int v2), (3, .int v3), (4, .int v4)] [] 34 0 0 := by
  rw [b_X0_firstChangeOf_34] at h
  refine g_iload_n C 2 rfl rfl dX0_firstChangeOf_34 ?_
  refine g_aload_n C 0 rfl rfl dX0_firstChangeOf_35 ?_
  refine g_X0_changes C i_X0_firstChangeOf_X0 m_X0_firstChangeOf_2 0 rfl dX0_firstChangeOf_36 ?_
  refine g_iload C 4 rfl dX0_firstChangeOf_39 ?_
  obtain ⟨g1, eg1, h⟩ := Option.bind_eq_some_iff.mp h
  refine g_cVr (As := [.int v4]) (n9 := 1) (st := [.int v2]) (w2 := (wX0 E a i t c)) C (c_X3_get E (a (i + 3)) (a (i + 4)) 240 c v4 g1 eg1) gX0_firstChangeOf_X3_get rfl (by decide +kernel) rfl ⟨by decide, by decide, by decide, by decide, Nat.le_of_ble_eq_true rfl⟩ 0 rfl rfl (gSub.idx [3, 4] rfl rfl) rfl dX0_firstChangeOf_41 ?_
  refine g_iadd C dX0_firstChangeOf_44 ?_
  refine g_istore_n C (lv2 := [(2, .int (v2 + g1)), (0, .ref (a i)), (1, .int v1), (3, .int v3), (4, .int v4)]) rfl (by decide) rfl dX0_firstChangeOf_45 ?_
  refine g_iinc C (v := v4 + 1) 4 rfl rfl (lv2 := [(4, .int (v4 + 1)), (2, .int (v2 + g1)), (0, .ref (a i)), (1, .int v1), (3, .int v3)]) rfl (by decide) dX0_firstChangeOf_46 ?_
  refine g_goto C (tgt := 7) dX0_firstChangeOf_49 (by decide) ?_
  refine g_lv [2, 3, 1, 4, 0] (lv2 := [(0, .ref (a i)), (1, .int v1), (2, .int (v2 + g1)), (3, .int v3), (4, .int (v4 + 1))]) rfl ?_
  exact Hko7 (v2 + g1) v3 (v4 + 1) h
set_option maxHeartbeats 4000000 in
set_option maxRecDepth 100000 in
theorem w_X0_firstChangeOf_7 {E : gE} {X : gX} {a : Nat → Nat} {i : Nat} {t : RS} {c : RS} {v1 : Int32} {o : (Int32)} (C : Cx E X cX0_firstChangeOf 5 RX0 wsX0_firstChangeOf r_X0_firstChangeOf ((some .int)) []) (hQ : gQ E X (wX0 E a i t c) r_X0_firstChangeOf (gO (fun u9 => some (.int u9)) (fun u9 => (wX0 E a i t c)) (.inr o))) : ∀ (F : Nat) (v2 : Int32) (v3 : Int32) (v4 : Int32), l_X0_firstChangeOf_7 t c v1 F v2 v3 v4 = some o → Gx E X (wX0 E a i t c) 5 [(0, .ref (a i)), (1, .int v1), (2, .int v2), (3, .int v3), (4, .int v4)] [] 7 0 0 := by
  intro F
  induction F with
  | zero => intro v2 v3 v4 h; exact absurd h (by simp [l_X0_firstChangeOf_7])
  | succ F ih =>
    intro v2 v3 v4 h
    rw [l_X0_firstChangeOf_7] at h
    refine g_iload C 4 rfl dX0_firstChangeOf_7 ?_
    refine g_aload_n C 0 rfl rfl dX0_firstChangeOf_9 ?_
    refine g_X0_times C i_X0_firstChangeOf_X0 m_X0_firstChangeOf_0 0 rfl dX0_firstChangeOf_10 ?_
    obtain ⟨g1, eg1, h⟩ := Option.bind_eq_some_iff.mp h
    refine g_cVr (As := []) (n9 := 0) (st := [.int v4]) (w2 := (wX0 E a i t c)) C (c_X3_size E (a (i + 1)) (a (i + 2)) 240 t g1 eg1) gX0_firstChangeOf_X3_size rfl (by decide +kernel) rfl ⟨by decide, by decide, by decide, by decide, Nat.le_of_ble_eq_true rfl⟩ 0 rfl rfl (gSub.idx [1, 2] rfl rfl) rfl dX0_firstChangeOf_13 ?_
    refine g_icmp_ge C (tgt := 52) dX0_firstChangeOf_16 (by decide) (fun cd2 => ?_) (fun cd2 => ?_)
    · replace h := (if_pos cd2).symm.trans h
      refine g_iconst C (v := (-1)) (by decide) dX0_firstChangeOf_52 ?_
      obtain rfl := Option.some.inj h
      exact g_iret C hQ rfl ⟨by decide, by decide⟩ dX0_firstChangeOf_53
    · replace h := (if_neg cd2).symm.trans h
      refine g_iload_n C 2 rfl rfl dX0_firstChangeOf_19 ?_
      refine g_if_ne C (tgt := 34) dX0_firstChangeOf_20 (by decide) (fun cd3 => ?_) (fun cd3 => ?_)
      · replace h := (if_neg cd3).symm.trans h
        exact v_X0_firstChangeOf_34 (v1 := v1) (v2 := v2) (v3 := v3) (v4 := v4) C hQ (fun qv2 qv3 qv4 hh => ih qv2 qv3 qv4 hh) h
      · replace h := (if_pos cd3).symm.trans h
        refine g_iload_n C 3 rfl rfl dX0_firstChangeOf_23 ?_
        refine g_iload_n C 1 rfl rfl dX0_firstChangeOf_24 ?_
        refine g_icmp_ne C (tgt := 31) dX0_firstChangeOf_25 (by decide) (fun cd4 => ?_) (fun cd4 => ?_)
        · replace h := (if_neg cd4).symm.trans h
          refine g_iinc C (v := v3 + 1) 3 rfl rfl (lv2 := [(3, .int (v3 + 1)), (0, .ref (a i)), (1, .int v1), (2, .int v2), (4, .int v4)]) rfl (by decide) dX0_firstChangeOf_31 ?_
          refine g_lv [1, 2, 3, 0, 4] (lv2 := [(0, .ref (a i)), (1, .int v1), (2, .int v2), (3, .int (v3 + 1)), (4, .int v4)]) rfl ?_
          exact v_X0_firstChangeOf_34 (v1 := v1) (v2 := v2) (v3 := (v3 + 1)) (v4 := v4) C hQ (fun qv2 qv3 qv4 hh => ih qv2 qv3 qv4 hh) h
        · replace h := (if_pos cd4).symm.trans h
          refine g_iload C 4 rfl dX0_firstChangeOf_28 ?_
          obtain rfl := Option.some.inj h
          exact g_iret C hQ rfl ⟨by decide, by decide⟩ dX0_firstChangeOf_30
set_option maxHeartbeats 4000000 in
set_option maxRecDepth 100000 in
theorem c_X0_firstChangeOf (E : gE) (a : Nat → Nat) (i : Nat) (t : RS) (c : RS) (p1 : Int32) (o : (Int32)) (h : f_X0_firstChangeOf t c p1 = some o) : Ct E yX0_firstChangeOf wsX0_firstChangeOf r_X0_firstChangeOf [.ref (a i), .int p1] (wX0 E a i t c) (gO (fun u9 => some (.int u9)) (fun u9 => (wX0 E a i t c)) (.inr o)) := by
  refine Ct.of (cc := cX0_firstChangeOf) (nL := 5) (ret := ((some .int))) (own := RX0) (by decide) rfl rfl (Nat.le_of_ble_eq_true rfl) rfl ?_ ?_
  · intro v w1 hh
    cases hh; rfl
  · intro X C hQ
    rw [f_X0_firstChangeOf] at h
    refine g_iconst C (v := 0) (by decide) dX0_firstChangeOf_0 ?_
    refine g_istore_n C (lv2 := [(2, .int 0), (0, .ref (a i)), (1, .int p1)]) rfl (by decide) rfl dX0_firstChangeOf_1 ?_
    refine g_iconst C (v := 0) (by decide) dX0_firstChangeOf_2 ?_
    refine g_istore_n C (lv2 := [(3, .int 0), (2, .int 0), (0, .ref (a i)), (1, .int p1)]) rfl (by decide) rfl dX0_firstChangeOf_3 ?_
    refine g_iconst C (v := 0) (by decide) dX0_firstChangeOf_4 ?_
    refine g_istore C (lv2 := [(4, .int 0), (3, .int 0), (2, .int 0), (0, .ref (a i)), (1, .int p1)]) rfl (by decide) dX0_firstChangeOf_5 ?_
    refine g_lv [3, 4, 2, 1, 0] (lv2 := [(0, .ref (a i)), (1, .int p1), (2, .int 0), (3, .int 0), (4, .int 0)]) rfl ?_
    exact w_X0_firstChangeOf_7 (v1 := p1) C hQ FU 0 0 0 h
abbrev r_X0_endOfSpan : Room := { frames := 3, cells := 0, slots := 0, locals := 62 }
theorem m_X0_endOfSpan_0 : Cond.fieldLink RX0 14 "Bookinghouse$Crowd" "times" "LBookinghouse$Row;" ∈ wsX0_endOfSpan := by decide +kernel
theorem i_X0_endOfSpan_X0 : ∀ w ∈ wsX00, w ∈ wsX0_endOfSpan := by decide +kernel
theorem m_X0_endOfSpan_2 : Cond.fieldLink RX0 20 "Bookinghouse$Crowd" "changes" "LBookinghouse$Row;" ∈ wsX0_endOfSpan := by decide +kernel
set_option maxHeartbeats 4000000 in
set_option maxRecDepth 100000 in
theorem w_X0_endOfSpan_4 {E : gE} {X : gX} {a : Nat → Nat} {i : Nat} {t : RS} {c : RS} {o : (Int32)} (C : Cx E X cX0_endOfSpan 4 RX0 wsX0_endOfSpan r_X0_endOfSpan ((some .int)) []) (hQ : gQ E X (wX0 E a i t c) r_X0_endOfSpan (gO (fun u9 => some (.int u9)) (fun u9 => (wX0 E a i t c)) (.inr o))) : ∀ (F : Nat) (v2 : Int32) (v3 : Int32), l_X0_endOfSpan_4 t c F v2 v3 = some o → Gx E X (wX0 E a i t c) 4 [(0, .ref (a i)), (2, .int v2), (3, .int v3)] [] 4 0 0 := by
  intro F
  induction F with
  | zero => intro v2 v3 h; exact absurd h (by simp [l_X0_endOfSpan_4])
  | succ F ih =>
    intro v2 v3 h
    rw [l_X0_endOfSpan_4] at h
    refine g_iload_n C 2 rfl rfl dX0_endOfSpan_4 ?_
    refine g_aload_n C 0 rfl rfl dX0_endOfSpan_5 ?_
    refine g_X0_times C i_X0_endOfSpan_X0 m_X0_endOfSpan_0 0 rfl dX0_endOfSpan_6 ?_
    obtain ⟨g1, eg1, h⟩ := Option.bind_eq_some_iff.mp h
    refine g_cVr (As := []) (n9 := 0) (st := [.int v3]) (w2 := (wX0 E a i t c)) C (c_X3_size E (a (i + 1)) (a (i + 2)) 240 t g1 eg1) gX0_endOfSpan_X3_size rfl (by decide +kernel) rfl ⟨by decide, by decide, by decide, by decide, Nat.le_of_ble_eq_true rfl⟩ 0 rfl rfl (gSub.idx [1, 2] rfl rfl) rfl dX0_endOfSpan_9 ?_
    refine g_icmp_ge C (tgt := 45) dX0_endOfSpan_12 (by decide) (fun cd2 => ?_) (fun cd2 => ?_)
    · replace h := (if_pos cd2).symm.trans h
      refine g_iconst C (v := 0) (by decide) dX0_endOfSpan_45 ?_
      obtain rfl := Option.some.inj h
      exact g_iret C hQ rfl ⟨by decide, by decide⟩ dX0_endOfSpan_46
    · replace h := (if_neg cd2).symm.trans h
      refine g_iload_n C 1 rfl rfl dX0_endOfSpan_15 ?_
      refine g_aload_n C 0 rfl rfl dX0_endOfSpan_16 ?_
      refine g_X0_changes C i_X0_endOfSpan_X0 m_X0_endOfSpan_2 0 rfl dX0_endOfSpan_17 ?_
      refine g_iload_n C 2 rfl rfl dX0_endOfSpan_20 ?_
      obtain ⟨g3, eg3, h⟩ := Option.bind_eq_some_iff.mp h
      refine g_cVr (As := [.int v3]) (n9 := 1) (st := [.int v2]) (w2 := (wX0 E a i t c)) C (c_X3_get E (a (i + 3)) (a (i + 4)) 240 c v3 g3 eg3) gX0_endOfSpan_X3_get rfl (by decide +kernel) rfl ⟨by decide, by decide, by decide, by decide, Nat.le_of_ble_eq_true rfl⟩ 0 rfl rfl (gSub.idx [3, 4] rfl rfl) rfl dX0_endOfSpan_21 ?_
      refine g_iadd C dX0_endOfSpan_24 ?_
      refine g_istore_n C (lv2 := [(2, .int (v2 + g3)), (0, .ref (a i)), (3, .int v3)]) rfl (by decide) rfl dX0_endOfSpan_25 ?_
      refine g_iload_n C 0 rfl rfl dX0_endOfSpan_26 ?_
      refine g_if_ne C (tgt := 39) dX0_endOfSpan_27 (by decide) (fun cd4 => ?_) (fun cd4 => ?_)
      · replace h := (if_neg cd4).symm.trans h
        refine g_iinc C (v := v3 + 1) 2 rfl rfl (lv2 := [(3, .int (v3 + 1)), (2, .int (v2 + g3)), (0, .ref (a i))]) rfl (by decide) dX0_endOfSpan_39 ?_
        refine g_goto C (tgt := 4) dX0_endOfSpan_42 (by decide) ?_
        refine g_lv [2, 1, 0] (lv2 := [(0, .ref (a i)), (2, .int (v2 + g3)), (3, .int (v3 + 1))]) rfl ?_
        exact ih (v2 + g3) (v3 + 1) h
      · replace h := (if_pos cd4).symm.trans h
        refine g_aload_n C 1 rfl rfl dX0_endOfSpan_30 ?_
        refine g_X0_times C i_X0_endOfSpan_X0 m_X0_endOfSpan_0 0 rfl dX0_endOfSpan_31 ?_
        refine g_iload_n C 2 rfl rfl dX0_endOfSpan_34 ?_
        obtain ⟨g5, eg5, h⟩ := Option.bind_eq_some_iff.mp h
        refine g_cVr (As := [.int v3]) (n9 := 1) (st := []) (w2 := (wX0 E a i t c)) C (c_X3_get E (a (i + 1)) (a (i + 2)) 240 t v3 g5 eg5) gX0_endOfSpan_X3_get rfl (by decide +kernel) rfl ⟨by decide, by decide, by decide, by decide, Nat.le_of_ble_eq_true rfl⟩ 0 rfl rfl (gSub.idx [1, 2] rfl rfl) rfl dX0_endOfSpan_35 ?_
        obtain rfl := Option.some.inj h
        exact g_iret C hQ rfl ⟨by decide, by decide⟩ dX0_endOfSpan_38
set_option maxHeartbeats 4000000 in
set_option maxRecDepth 100000 in
theorem c_X0_endOfSpan (E : gE) (a : Nat → Nat) (i : Nat) (t : RS) (c : RS) (p1 : Int32) (o : (Int32)) (h : f_X0_endOfSpan t c p1 = some o) : Ct E yX0_endOfSpan wsX0_endOfSpan r_X0_endOfSpan [.ref (a i), .int p1] (wX0 E a i t c) (gO (fun u9 => some (.int u9)) (fun u9 => (wX0 E a i t c)) (.inr o)) := by
  refine Ct.of (cc := cX0_endOfSpan) (nL := 4) (ret := ((some .int))) (own := RX0) (by decide) rfl rfl (Nat.le_of_ble_eq_true rfl) rfl ?_ ?_
  · intro v w1 hh
    cases hh; rfl
  · intro X C hQ
    rw [f_X0_endOfSpan] at h
    refine g_iconst C (v := 0) (by decide) dX0_endOfSpan_0 ?_
    refine g_istore_n C (lv2 := [(2, .int 0), (0, .ref (a i)), (1, .int p1)]) rfl (by decide) rfl dX0_endOfSpan_1 ?_
    refine g_iload_n C 2 rfl rfl dX0_endOfSpan_2 ?_
    refine g_istore_n C (lv2 := [(3, .int p1), (2, .int 0), (0, .ref (a i)), (1, .int p1)]) rfl (by decide) rfl dX0_endOfSpan_3 ?_
    refine g_lv [2, 1, 0] (lv2 := [(0, .ref (a i)), (2, .int 0), (3, .int p1)]) rfl ?_
    exact w_X0_endOfSpan_4 C hQ FU 0 p1 h
abbrev r_X0_highestOfSpan : Room := { frames := 3, cells := 0, slots := 0, locals := 62 }
theorem m_X0_highestOfSpan_0 : Cond.fieldLink RX0 14 "Bookinghouse$Crowd" "times" "LBookinghouse$Row;" ∈ wsX0_highestOfSpan := by decide +kernel
theorem i_X0_highestOfSpan_X0 : ∀ w ∈ wsX00, w ∈ wsX0_highestOfSpan := by decide +kernel
theorem m_X0_highestOfSpan_2 : Cond.fieldLink RX0 20 "Bookinghouse$Crowd" "changes" "LBookinghouse$Row;" ∈ wsX0_highestOfSpan := by decide +kernel
theorem m_X0_highestOfSpan_3 : Cond.methodLink RX0 54 Lib.Math.max.name ∈ wsX0_highestOfSpan := by decide +kernel
theorem m_X0_highestOfSpan_4 : Cond.static Lib.Math.max.name ∈ wsX0_highestOfSpan := by decide +kernel
theorem m_X0_highestOfSpan_5 : Cond.initialized "java/lang/Math" ∈ wsX0_highestOfSpan := by decide +kernel
theorem m_X0_highestOfSpan_6 : Cond.code Lib.Math.max.name Lib.Math.max.code 2 (some .int) ∈ wsX0_highestOfSpan := by decide +kernel
set_option maxHeartbeats 4000000 in
set_option maxRecDepth 100000 in
theorem w_X0_highestOfSpan_7 {E : gE} {X : gX} {a : Nat → Nat} {i : Nat} {t : RS} {c : RS} {o : (Int32)} (C : Cx E X cX0_highestOfSpan 5 RX0 wsX0_highestOfSpan r_X0_highestOfSpan ((some .int)) []) (hQ : gQ E X (wX0 E a i t c) r_X0_highestOfSpan (gO (fun u9 => some (.int u9)) (fun u9 => (wX0 E a i t c)) (.inr o))) : ∀ (F : Nat) (v2 : Int32) (v3 : Int32) (v4 : Int32), l_X0_highestOfSpan_7 t c F v2 v3 v4 = some o → Gx E X (wX0 E a i t c) 5 [(0, .ref (a i)), (2, .int v2), (3, .int v3), (4, .int v4)] [] 7 0 0 := by
  intro F
  induction F with
  | zero => intro v2 v3 v4 h; exact absurd h (by simp [l_X0_highestOfSpan_7])
  | succ F ih =>
    intro v2 v3 v4 h
    rw [l_X0_highestOfSpan_7] at h
    refine g_iload C 3 rfl dX0_highestOfSpan_7 ?_
    refine g_aload_n C 0 rfl rfl dX0_highestOfSpan_9 ?_
    refine g_X0_times C i_X0_highestOfSpan_X0 m_X0_highestOfSpan_0 0 rfl dX0_highestOfSpan_10 ?_
    obtain ⟨g1, eg1, h⟩ := Option.bind_eq_some_iff.mp h
    refine g_cVr (As := []) (n9 := 0) (st := [.int v4]) (w2 := (wX0 E a i t c)) C (c_X3_size E (a (i + 1)) (a (i + 2)) 240 t g1 eg1) gX0_highestOfSpan_X3_size rfl (by decide +kernel) rfl ⟨by decide, by decide, by decide, by decide, Nat.le_of_ble_eq_true rfl⟩ 0 rfl rfl (gSub.idx [1, 2] rfl rfl) rfl dX0_highestOfSpan_13 ?_
    refine g_icmp_ge C (tgt := 49) dX0_highestOfSpan_16 (by decide) (fun cd2 => ?_) (fun cd2 => ?_)
    · replace h := (if_pos cd2).symm.trans h
      refine g_iload_n C 2 rfl rfl dX0_highestOfSpan_49 ?_
      obtain rfl := Option.some.inj h
      exact g_iret C hQ rfl ⟨by decide, by decide⟩ dX0_highestOfSpan_50
    · replace h := (if_neg cd2).symm.trans h
      refine g_iload_n C 1 rfl rfl dX0_highestOfSpan_19 ?_
      refine g_aload_n C 0 rfl rfl dX0_highestOfSpan_20 ?_
      refine g_X0_changes C i_X0_highestOfSpan_X0 m_X0_highestOfSpan_2 0 rfl dX0_highestOfSpan_21 ?_
      refine g_iload C 3 rfl dX0_highestOfSpan_24 ?_
      obtain ⟨g3, eg3, h⟩ := Option.bind_eq_some_iff.mp h
      refine g_cVr (As := [.int v4]) (n9 := 1) (st := [.int v2]) (w2 := (wX0 E a i t c)) C (c_X3_get E (a (i + 3)) (a (i + 4)) 240 c v4 g3 eg3) gX0_highestOfSpan_X3_get rfl (by decide +kernel) rfl ⟨by decide, by decide, by decide, by decide, Nat.le_of_ble_eq_true rfl⟩ 0 rfl rfl (gSub.idx [3, 4] rfl rfl) rfl dX0_highestOfSpan_26 ?_
      refine g_iadd C dX0_highestOfSpan_29 ?_
      refine g_istore_n C (lv2 := [(2, .int (v2 + g3)), (0, .ref (a i)), (3, .int v3), (4, .int v4)]) rfl (by decide) rfl dX0_highestOfSpan_30 ?_
      refine g_iload_n C 0 rfl rfl dX0_highestOfSpan_31 ?_
      refine g_if_ne C (tgt := 37) dX0_highestOfSpan_32 (by decide) (fun cd4 => ?_) (fun cd4 => ?_)
      · replace h := (if_neg cd4).symm.trans h
        refine g_iload_n C 2 rfl rfl dX0_highestOfSpan_37 ?_
        refine g_iload_n C 0 rfl rfl dX0_highestOfSpan_38 ?_
        refine g_mmax C m_X0_highestOfSpan_3 m_X0_highestOfSpan_4 m_X0_highestOfSpan_5 m_X0_highestOfSpan_6 ⟨by decide, Nat.le_of_ble_eq_true rfl, by decide, by decide⟩ dX0_highestOfSpan_39 ?_
        refine g_istore_n C (lv2 := [(3, .int (if v3 < (v2 + g3) then (v2 + g3) else v3)), (2, .int (v2 + g3)), (0, .ref (a i)), (4, .int v4)]) rfl (by decide) rfl dX0_highestOfSpan_42 ?_
        refine g_iinc C (v := v4 + 1) 3 rfl rfl (lv2 := [(4, .int (v4 + 1)), (3, .int (if v3 < (v2 + g3) then (v2 + g3) else v3)), (2, .int (v2 + g3)), (0, .ref (a i))]) rfl (by decide) dX0_highestOfSpan_43 ?_
        refine g_goto C (tgt := 7) dX0_highestOfSpan_46 (by decide) ?_
        refine g_lv [3, 2, 1, 0] (lv2 := [(0, .ref (a i)), (2, .int (v2 + g3)), (3, .int (if v3 < (v2 + g3) then (v2 + g3) else v3)), (4, .int (v4 + 1))]) rfl ?_
        exact ih (v2 + g3) (if v3 < (v2 + g3) then (v2 + g3) else v3) (v4 + 1) h
      · replace h := (if_pos cd4).symm.trans h
        refine g_iload_n C 2 rfl rfl dX0_highestOfSpan_35 ?_
        obtain rfl := Option.some.inj h
        exact g_iret C hQ rfl ⟨by decide, by decide⟩ dX0_highestOfSpan_36
set_option maxHeartbeats 4000000 in
set_option maxRecDepth 100000 in
theorem c_X0_highestOfSpan (E : gE) (a : Nat → Nat) (i : Nat) (t : RS) (c : RS) (p1 : Int32) (o : (Int32)) (h : f_X0_highestOfSpan t c p1 = some o) : Ct E yX0_highestOfSpan wsX0_highestOfSpan r_X0_highestOfSpan [.ref (a i), .int p1] (wX0 E a i t c) (gO (fun u9 => some (.int u9)) (fun u9 => (wX0 E a i t c)) (.inr o)) := by
  refine Ct.of (cc := cX0_highestOfSpan) (nL := 5) (ret := ((some .int))) (own := RX0) (by decide) rfl rfl (Nat.le_of_ble_eq_true rfl) rfl ?_ ?_
  · intro v w1 hh
    cases hh; rfl
  · intro X C hQ
    rw [f_X0_highestOfSpan] at h
    refine g_iconst C (v := 0) (by decide) dX0_highestOfSpan_0 ?_
    refine g_istore_n C (lv2 := [(2, .int 0), (0, .ref (a i)), (1, .int p1)]) rfl (by decide) rfl dX0_highestOfSpan_1 ?_
    refine g_iconst C (v := 0) (by decide) dX0_highestOfSpan_2 ?_
    refine g_istore_n C (lv2 := [(3, .int 0), (2, .int 0), (0, .ref (a i)), (1, .int p1)]) rfl (by decide) rfl dX0_highestOfSpan_3 ?_
    refine g_iload_n C 3 rfl rfl dX0_highestOfSpan_4 ?_
    refine g_istore C (lv2 := [(4, .int p1), (3, .int 0), (2, .int 0), (0, .ref (a i)), (1, .int p1)]) rfl (by decide) dX0_highestOfSpan_5 ?_
    refine g_lv [3, 2, 1, 0] (lv2 := [(0, .ref (a i)), (2, .int 0), (3, .int 0), (4, .int p1)]) rfl ?_
    exact w_X0_highestOfSpan_7 C hQ FU 0 0 p1 h
abbrev r_X0_freeFrom : Room := { frames := 3, cells := 0, slots := 0, locals := 62 }
theorem m_X0_freeFrom_0 : Cond.fieldLink RX0 14 "Bookinghouse$Crowd" "times" "LBookinghouse$Row;" ∈ wsX0_freeFrom := by decide +kernel
theorem i_X0_freeFrom_X0 : ∀ w ∈ wsX00, w ∈ wsX0_freeFrom := by decide +kernel
theorem m_X0_freeFrom_2 : Cond.fieldLink RX0 20 "Bookinghouse$Crowd" "changes" "LBookinghouse$Row;" ∈ wsX0_freeFrom := by decide +kernel
theorem m_X0_freeFrom_3 : Cond.methodLink RX0 54 Lib.Math.max.name ∈ wsX0_freeFrom := by decide +kernel
theorem m_X0_freeFrom_4 : Cond.static Lib.Math.max.name ∈ wsX0_freeFrom := by decide +kernel
theorem m_X0_freeFrom_5 : Cond.initialized "java/lang/Math" ∈ wsX0_freeFrom := by decide +kernel
theorem m_X0_freeFrom_6 : Cond.code Lib.Math.max.name Lib.Math.max.code 2 (some .int) ∈ wsX0_freeFrom := by decide +kernel
set_option maxHeartbeats 4000000 in
set_option maxRecDepth 100000 in
theorem w_X0_freeFrom_8 {E : gE} {X : gX} {a : Nat → Nat} {i : Nat} {t : RS} {c : RS} {v2 : Int32} {o : (Int32)} (C : Cx E X cX0_freeFrom 6 RX0 wsX0_freeFrom r_X0_freeFrom ((some .int)) []) (hQ : gQ E X (wX0 E a i t c) r_X0_freeFrom (gO (fun u9 => some (.int u9)) (fun u9 => (wX0 E a i t c)) (.inr o))) : ∀ (F : Nat) (v3 : Int32) (v4 : Int32) (v5 : Int32), l_X0_freeFrom_8 t c v2 F v3 v4 v5 = some o → Gx E X (wX0 E a i t c) 6 [(0, .ref (a i)), (2, .int v2), (3, .int v3), (4, .int v4), (5, .int v5)] [] 8 0 0 := by
  intro F
  induction F with
  | zero => intro v3 v4 v5 h; exact absurd h (by simp [l_X0_freeFrom_8])
  | succ F ih =>
    intro v3 v4 v5 h
    rw [l_X0_freeFrom_8] at h
    refine g_iload C 4 rfl dX0_freeFrom_8 ?_
    refine g_aload_n C 0 rfl rfl dX0_freeFrom_10 ?_
    refine g_X0_times C i_X0_freeFrom_X0 m_X0_freeFrom_0 0 rfl dX0_freeFrom_11 ?_
    obtain ⟨g1, eg1, h⟩ := Option.bind_eq_some_iff.mp h
    refine g_cVr (As := []) (n9 := 0) (st := [.int v5]) (w2 := (wX0 E a i t c)) C (c_X3_size E (a (i + 1)) (a (i + 2)) 240 t g1 eg1) gX0_freeFrom_X3_size rfl (by decide +kernel) rfl ⟨by decide, by decide, by decide, by decide, Nat.le_of_ble_eq_true rfl⟩ 0 rfl rfl (gSub.idx [1, 2] rfl rfl) rfl dX0_freeFrom_14 ?_
    refine g_icmp_ge C (tgt := 76) dX0_freeFrom_17 (by decide) (fun cd2 => ?_) (fun cd2 => ?_)
    · replace h := (if_pos cd2).symm.trans h
      refine g_iload C 3 rfl dX0_freeFrom_76 ?_
      obtain rfl := Option.some.inj h
      exact g_iret C hQ rfl ⟨by decide, by decide⟩ dX0_freeFrom_78
    · replace h := (if_neg cd2).symm.trans h
      refine g_iload_n C 2 rfl rfl dX0_freeFrom_20 ?_
      refine g_aload_n C 0 rfl rfl dX0_freeFrom_21 ?_
      refine g_X0_changes C i_X0_freeFrom_X0 m_X0_freeFrom_2 0 rfl dX0_freeFrom_22 ?_
      refine g_iload C 4 rfl dX0_freeFrom_25 ?_
      obtain ⟨g3, eg3, h⟩ := Option.bind_eq_some_iff.mp h
      refine g_cVr (As := [.int v5]) (n9 := 1) (st := [.int v3]) (w2 := (wX0 E a i t c)) C (c_X3_get E (a (i + 3)) (a (i + 4)) 240 c v5 g3 eg3) gX0_freeFrom_X3_get rfl (by decide +kernel) rfl ⟨by decide, by decide, by decide, by decide, Nat.le_of_ble_eq_true rfl⟩ 0 rfl rfl (gSub.idx [3, 4] rfl rfl) rfl dX0_freeFrom_27 ?_
      refine g_iadd C dX0_freeFrom_30 ?_
      refine g_istore_n C (lv2 := [(3, .int (v3 + g3)), (0, .ref (a i)), (2, .int v2), (4, .int v4), (5, .int v5)]) rfl (by decide) rfl dX0_freeFrom_31 ?_
      refine g_iload_n C 0 rfl rfl dX0_freeFrom_32 ?_
      refine g_if_eq C (tgt := 70) dX0_freeFrom_33 (by decide) (fun cd4 => ?_) (fun cd4 => ?_)
      · replace h := (if_pos cd4).symm.trans h
        refine g_iinc C (v := v5 + 1) 4 rfl rfl (lv2 := [(5, .int (v5 + 1)), (3, .int (v3 + g3)), (0, .ref (a i)), (2, .int v2), (4, .int v4)]) rfl (by decide) dX0_freeFrom_70 ?_
        refine g_goto C (tgt := 8) dX0_freeFrom_73 (by decide) ?_
        refine g_lv [2, 3, 1, 4, 0] (lv2 := [(0, .ref (a i)), (2, .int v2), (3, .int (v3 + g3)), (4, .int v4), (5, .int (v5 + 1))]) rfl ?_
        exact ih (v3 + g3) v4 (v5 + 1) h
      · replace h := (if_neg cd4).symm.trans h
        refine g_aload_n C 1 rfl rfl dX0_freeFrom_36 ?_
        refine g_X0_times C i_X0_freeFrom_X0 m_X0_freeFrom_0 0 rfl dX0_freeFrom_37 ?_
        refine g_iload C 4 rfl dX0_freeFrom_40 ?_
        obtain ⟨g5, eg5, h⟩ := Option.bind_eq_some_iff.mp h
        refine g_cVr (As := [.int v5]) (n9 := 1) (st := []) (w2 := (wX0 E a i t c)) C (c_X3_get E (a (i + 1)) (a (i + 2)) 240 t v5 g5 eg5) gX0_freeFrom_X3_get rfl (by decide +kernel) rfl ⟨by decide, by decide, by decide, by decide, Nat.le_of_ble_eq_true rfl⟩ 0 rfl rfl (gSub.idx [1, 2] rfl rfl) rfl dX0_freeFrom_42 ?_
        refine g_iload C 3 rfl dX0_freeFrom_45 ?_
        refine g_iload_n C 2 rfl rfl dX0_freeFrom_47 ?_
        refine g_iadd C dX0_freeFrom_48 ?_
        refine g_icmp_ge C (tgt := 70) dX0_freeFrom_49 (by decide) (fun cd6 => ?_) (fun cd6 => ?_)
        · replace h := (if_pos cd6).symm.trans h
          refine g_iinc C (v := v5 + 1) 4 rfl rfl (lv2 := [(5, .int (v5 + 1)), (3, .int (v3 + g3)), (0, .ref (a i)), (2, .int v2), (4, .int v4)]) rfl (by decide) dX0_freeFrom_70 ?_
          refine g_goto C (tgt := 8) dX0_freeFrom_73 (by decide) ?_
          refine g_lv [2, 3, 1, 4, 0] (lv2 := [(0, .ref (a i)), (2, .int v2), (3, .int (v3 + g3)), (4, .int v4), (5, .int (v5 + 1))]) rfl ?_
          exact ih (v3 + g3) v4 (v5 + 1) h
        · replace h := (if_neg cd6).symm.trans h
          refine g_iload C 3 rfl dX0_freeFrom_52 ?_
          refine g_aload_n C 1 rfl rfl dX0_freeFrom_54 ?_
          refine g_X0_times C i_X0_freeFrom_X0 m_X0_freeFrom_0 0 rfl dX0_freeFrom_55 ?_
          refine g_iload C 4 rfl dX0_freeFrom_58 ?_
          refine g_iconst C (v := 1) (by decide) dX0_freeFrom_60 ?_
          refine g_iadd C dX0_freeFrom_61 ?_
          obtain ⟨g7, eg7, h⟩ := Option.bind_eq_some_iff.mp h
          refine g_cVr (As := [.int (v5 + 1)]) (n9 := 1) (st := [.int v4]) (w2 := (wX0 E a i t c)) C (c_X3_get E (a (i + 1)) (a (i + 2)) 240 t (v5 + 1) g7 eg7) gX0_freeFrom_X3_get rfl (by decide +kernel) rfl ⟨by decide, by decide, by decide, by decide, Nat.le_of_ble_eq_true rfl⟩ 0 rfl rfl (gSub.idx [1, 2] rfl rfl) rfl dX0_freeFrom_62 ?_
          refine g_mmax C m_X0_freeFrom_3 m_X0_freeFrom_4 m_X0_freeFrom_5 m_X0_freeFrom_6 ⟨by decide, Nat.le_of_ble_eq_true rfl, by decide, by decide⟩ dX0_freeFrom_65 ?_
          refine g_istore C (lv2 := [(4, .int (if v4 < g7 then g7 else v4)), (3, .int (v3 + g3)), (0, .ref (a i)), (2, .int v2), (5, .int v5)]) rfl (by decide) dX0_freeFrom_68 ?_
          refine g_iinc C (v := v5 + 1) 4 rfl rfl (lv2 := [(5, .int (v5 + 1)), (4, .int (if v4 < g7 then g7 else v4)), (3, .int (v3 + g3)), (0, .ref (a i)), (2, .int v2)]) rfl (by decide) dX0_freeFrom_70 ?_
          refine g_goto C (tgt := 8) dX0_freeFrom_73 (by decide) ?_
          refine g_lv [3, 4, 2, 1, 0] (lv2 := [(0, .ref (a i)), (2, .int v2), (3, .int (v3 + g3)), (4, .int (if v4 < g7 then g7 else v4)), (5, .int (v5 + 1))]) rfl ?_
          exact ih (v3 + g3) (if v4 < g7 then g7 else v4) (v5 + 1) h
set_option maxHeartbeats 4000000 in
set_option maxRecDepth 100000 in
theorem c_X0_freeFrom (E : gE) (a : Nat → Nat) (i : Nat) (t : RS) (c : RS) (p1 : Int32) (p2 : Int32) (o : (Int32)) (h : f_X0_freeFrom t c p1 p2 = some o) : Ct E yX0_freeFrom wsX0_freeFrom r_X0_freeFrom [.ref (a i), .int p1, .int p2] (wX0 E a i t c) (gO (fun u9 => some (.int u9)) (fun u9 => (wX0 E a i t c)) (.inr o)) := by
  refine Ct.of (cc := cX0_freeFrom) (nL := 6) (ret := ((some .int))) (own := RX0) (by decide) rfl rfl (Nat.le_of_ble_eq_true rfl) rfl ?_ ?_
  · intro v w1 hh
    cases hh; rfl
  · intro X C hQ
    rw [f_X0_freeFrom] at h
    refine g_iconst C (v := 0) (by decide) dX0_freeFrom_0 ?_
    refine g_istore_n C (lv2 := [(3, .int 0), (0, .ref (a i)), (1, .int p1), (2, .int p2)]) rfl (by decide) rfl dX0_freeFrom_1 ?_
    refine g_iload_n C 2 rfl rfl dX0_freeFrom_2 ?_
    refine g_istore C (lv2 := [(4, .int p1), (3, .int 0), (0, .ref (a i)), (1, .int p1), (2, .int p2)]) rfl (by decide) dX0_freeFrom_3 ?_
    refine g_iconst C (v := 0) (by decide) dX0_freeFrom_5 ?_
    refine g_istore C (lv2 := [(5, .int 0), (4, .int p1), (3, .int 0), (0, .ref (a i)), (1, .int p1), (2, .int p2)]) rfl (by decide) dX0_freeFrom_6 ?_
    refine g_lv [3, 5, 2, 1, 0] (lv2 := [(0, .ref (a i)), (2, .int p2), (3, .int 0), (4, .int p1), (5, .int 0)]) rfl ?_
    exact w_X0_freeFrom_8 (v2 := p2) C hQ FU 0 p1 0 h
abbrev r_X0_total : Room := { frames := 3, cells := 0, slots := 0, locals := 62 }
theorem m_X0_total_0 : Cond.fieldLink RX0 14 "Bookinghouse$Crowd" "times" "LBookinghouse$Row;" ∈ wsX0_total := by decide +kernel
theorem i_X0_total_X0 : ∀ w ∈ wsX00, w ∈ wsX0_total := by decide +kernel
theorem m_X0_total_2 : Cond.fieldLink RX0 20 "Bookinghouse$Crowd" "changes" "LBookinghouse$Row;" ∈ wsX0_total := by decide +kernel
set_option maxHeartbeats 4000000 in
set_option maxRecDepth 100000 in
theorem w_X0_total_7 {E : gE} {X : gX} {a : Nat → Nat} {i : Nat} {t : RS} {c : RS} {o : (Int64)} (C : Cx E X cX0_total 5 RX0 wsX0_total r_X0_total ((some .long)) []) (hQ : gQ E X (wX0 E a i t c) r_X0_total (gO (fun u9 => some (.long u9)) (fun u9 => (wX0 E a i t c)) (.inr o))) : ∀ (F : Nat) (v1 : Int32) (v2 : Int64) (v4 : Int32), l_X0_total_7 t c F v1 v2 v4 = some o → Gx E X (wX0 E a i t c) 5 [(0, .ref (a i)), (1, .int v1), (2, .long v2), (4, .int v4)] [] 7 0 0 := by
  intro F
  induction F with
  | zero => intro v1 v2 v4 h; exact absurd h (by simp [l_X0_total_7])
  | succ F ih =>
    intro v1 v2 v4 h
    rw [l_X0_total_7] at h
    refine g_iload C 3 rfl dX0_total_7 ?_
    refine g_aload_n C 0 rfl rfl dX0_total_9 ?_
    refine g_X0_times C i_X0_total_X0 m_X0_total_0 0 rfl dX0_total_10 ?_
    obtain ⟨g1, eg1, h⟩ := Option.bind_eq_some_iff.mp h
    refine g_cVr (As := []) (n9 := 0) (st := [.int v4]) (w2 := (wX0 E a i t c)) C (c_X3_size E (a (i + 1)) (a (i + 2)) 240 t g1 eg1) gX0_total_X3_size rfl (by decide +kernel) rfl ⟨by decide, by decide, by decide, by decide, Nat.le_of_ble_eq_true rfl⟩ 0 rfl rfl (gSub.idx [1, 2] rfl rfl) rfl dX0_total_13 ?_
    refine g_icmp_ge C (tgt := 69) dX0_total_16 (by decide) (fun cd2 => ?_) (fun cd2 => ?_)
    · replace h := (if_pos cd2).symm.trans h
      refine g_lload_n C 2 rfl rfl dX0_total_69 ?_
      obtain rfl := Option.some.inj h
      exact g_lret C hQ rfl ⟨by decide, by decide⟩ dX0_total_70
    · replace h := (if_neg cd2).symm.trans h
      refine g_iload_n C 1 rfl rfl dX0_total_19 ?_
      refine g_aload_n C 0 rfl rfl dX0_total_20 ?_
      refine g_X0_changes C i_X0_total_X0 m_X0_total_2 0 rfl dX0_total_21 ?_
      refine g_iload C 3 rfl dX0_total_24 ?_
      obtain ⟨g3, eg3, h⟩ := Option.bind_eq_some_iff.mp h
      refine g_cVr (As := [.int v4]) (n9 := 1) (st := [.int v1]) (w2 := (wX0 E a i t c)) C (c_X3_get E (a (i + 3)) (a (i + 4)) 240 c v4 g3 eg3) gX0_total_X3_get rfl (by decide +kernel) rfl ⟨by decide, by decide, by decide, by decide, Nat.le_of_ble_eq_true rfl⟩ 0 rfl rfl (gSub.idx [3, 4] rfl rfl) rfl dX0_total_26 ?_
      refine g_iadd C dX0_total_29 ?_
      refine g_istore_n C (lv2 := [(1, .int (v1 + g3)), (0, .ref (a i)), (2, .long v2), (4, .int v4)]) rfl (by decide) rfl dX0_total_30 ?_
      refine g_iload_n C 0 rfl rfl dX0_total_31 ?_
      refine g_if_eq C (tgt := 63) dX0_total_32 (by decide) (fun cd4 => ?_) (fun cd4 => ?_)
      · replace h := (if_pos cd4).symm.trans h
        refine g_iinc C (v := v4 + 1) 3 rfl rfl (lv2 := [(4, .int (v4 + 1)), (1, .int (v1 + g3)), (0, .ref (a i)), (2, .long v2)]) rfl (by decide) dX0_total_63 ?_
        refine g_goto C (tgt := 7) dX0_total_66 (by decide) ?_
        refine g_lv [2, 1, 3, 0] (lv2 := [(0, .ref (a i)), (1, .int (v1 + g3)), (2, .long v2), (4, .int (v4 + 1))]) rfl ?_
        exact ih (v1 + g3) v2 (v4 + 1) h
      · replace h := (if_neg cd4).symm.trans h
        refine g_lload_n C 2 rfl rfl dX0_total_35 ?_
        refine g_iload_n C 0 rfl rfl dX0_total_36 ?_
        refine g_i2l C dX0_total_37 ?_
        refine g_aload_n C 1 rfl rfl dX0_total_38 ?_
        refine g_X0_times C i_X0_total_X0 m_X0_total_0 0 rfl dX0_total_39 ?_
        refine g_iload C 3 rfl dX0_total_42 ?_
        refine g_iconst C (v := 1) (by decide) dX0_total_44 ?_
        refine g_iadd C dX0_total_45 ?_
        obtain ⟨g5, eg5, h⟩ := Option.bind_eq_some_iff.mp h
        refine g_cVr (As := [.int (v4 + 1)]) (n9 := 1) (st := [.long ((v1 + g3).toInt64), .long v2]) (w2 := (wX0 E a i t c)) C (c_X3_get E (a (i + 1)) (a (i + 2)) 240 t (v4 + 1) g5 eg5) gX0_total_X3_get rfl (by decide +kernel) rfl ⟨by decide, by decide, by decide, by decide, Nat.le_of_ble_eq_true rfl⟩ 0 rfl rfl (gSub.idx [1, 2] rfl rfl) rfl dX0_total_46 ?_
        refine g_aload_n C 1 rfl rfl dX0_total_49 ?_
        refine g_X0_times C i_X0_total_X0 m_X0_total_0 0 rfl dX0_total_50 ?_
        refine g_iload C 3 rfl dX0_total_53 ?_
        obtain ⟨g6, eg6, h⟩ := Option.bind_eq_some_iff.mp h
        refine g_cVr (As := [.int v4]) (n9 := 1) (st := [.int g5, .long ((v1 + g3).toInt64), .long v2]) (w2 := (wX0 E a i t c)) C (c_X3_get E (a (i + 1)) (a (i + 2)) 240 t v4 g6 eg6) gX0_total_X3_get rfl (by decide +kernel) rfl ⟨by decide, by decide, by decide, by decide, Nat.le_of_ble_eq_true rfl⟩ 0 rfl rfl (gSub.idx [1, 2] rfl rfl) rfl dX0_total_55 ?_
        refine g_isub C dX0_total_58 ?_
        refine g_i2l C dX0_total_59 ?_
        refine g_lmul C dX0_total_60 ?_
        refine g_ladd C dX0_total_61 ?_
        refine g_lstore_n C (lv2 := [(2, .long (v2 + (((v1 + g3).toInt64) * ((g5 - g6).toInt64)))), (1, .int (v1 + g3)), (0, .ref (a i)), (4, .int v4)]) rfl (by decide) rfl dX0_total_62 ?_
        refine g_iinc C (v := v4 + 1) 3 rfl rfl (lv2 := [(4, .int (v4 + 1)), (2, .long (v2 + (((v1 + g3).toInt64) * ((g5 - g6).toInt64)))), (1, .int (v1 + g3)), (0, .ref (a i))]) rfl (by decide) dX0_total_63 ?_
        refine g_goto C (tgt := 7) dX0_total_66 (by decide) ?_
        refine g_lv [3, 2, 1, 0] (lv2 := [(0, .ref (a i)), (1, .int (v1 + g3)), (2, .long (v2 + (((v1 + g3).toInt64) * ((g5 - g6).toInt64)))), (4, .int (v4 + 1))]) rfl ?_
        exact ih (v1 + g3) (v2 + (((v1 + g3).toInt64) * ((g5 - g6).toInt64))) (v4 + 1) h
set_option maxHeartbeats 4000000 in
set_option maxRecDepth 100000 in
theorem c_X0_total (E : gE) (a : Nat → Nat) (i : Nat) (t : RS) (c : RS) (o : (Int64)) (h : f_X0_total t c = some o) : Ct E yX0_total wsX0_total r_X0_total [.ref (a i)] (wX0 E a i t c) (gO (fun u9 => some (.long u9)) (fun u9 => (wX0 E a i t c)) (.inr o)) := by
  refine Ct.of (cc := cX0_total) (nL := 5) (ret := ((some .long))) (own := RX0) (by decide) rfl rfl (Nat.le_of_ble_eq_true rfl) rfl ?_ ?_
  · intro v w1 hh
    cases hh; rfl
  · intro X C hQ
    rw [f_X0_total] at h
    refine g_iconst C (v := 0) (by decide) dX0_total_0 ?_
    refine g_istore_n C (lv2 := [(1, .int 0), (0, .ref (a i))]) rfl (by decide) rfl dX0_total_1 ?_
    refine g_lconst C (v := 0) (by decide) dX0_total_2 ?_
    refine g_lstore_n C (lv2 := [(2, .long 0), (1, .int 0), (0, .ref (a i))]) rfl (by decide) rfl dX0_total_3 ?_
    refine g_iconst C (v := 0) (by decide) dX0_total_4 ?_
    refine g_istore C (lv2 := [(4, .int 0), (2, .long 0), (1, .int 0), (0, .ref (a i))]) rfl (by decide) dX0_total_5 ?_
    refine g_lv [3, 2, 1, 0] (lv2 := [(0, .ref (a i)), (1, .int 0), (2, .long 0), (4, .int 0)]) rfl ?_
    exact w_X0_total_7 C hQ FU 0 0 0 h
abbrev r_X0_isLevelInTheEnd : Room := { frames := 3, cells := 0, slots := 0, locals := 62 }
theorem m_X0_isLevelInTheEnd_0 : Cond.fieldLink RX0 20 "Bookinghouse$Crowd" "changes" "LBookinghouse$Row;" ∈ wsX0_isLevelInTheEnd := by decide +kernel
theorem i_X0_isLevelInTheEnd_X0 : ∀ w ∈ wsX00, w ∈ wsX0_isLevelInTheEnd := by decide +kernel
set_option maxHeartbeats 4000000 in
set_option maxRecDepth 100000 in
theorem w_X0_isLevelInTheEnd_4 {E : gE} {X : gX} {a : Nat → Nat} {i : Nat} {t : RS} {c : RS} {o : (Bool)} (C : Cx E X cX0_isLevelInTheEnd 3 RX0 wsX0_isLevelInTheEnd r_X0_isLevelInTheEnd ((some .boolean)) []) (hQ : gQ E X (wX0 E a i t c) r_X0_isLevelInTheEnd (gO (fun u9 => some (.int (bI u9))) (fun u9 => (wX0 E a i t c)) (.inr o))) : ∀ (F : Nat) (v1 : Int32) (v2 : Int32), l_X0_isLevelInTheEnd_4 c F v1 v2 = some o → Gx E X (wX0 E a i t c) 3 [(0, .ref (a i)), (1, .int v1), (2, .int v2)] [] 4 0 0 := by
  intro F
  induction F with
  | zero => intro v1 v2 h; exact absurd h (by simp [l_X0_isLevelInTheEnd_4])
  | succ F ih =>
    intro v1 v2 h
    rw [l_X0_isLevelInTheEnd_4] at h
    refine g_iload_n C 2 rfl rfl dX0_isLevelInTheEnd_4 ?_
    refine g_aload_n C 0 rfl rfl dX0_isLevelInTheEnd_5 ?_
    refine g_X0_changes C i_X0_isLevelInTheEnd_X0 m_X0_isLevelInTheEnd_0 0 rfl dX0_isLevelInTheEnd_6 ?_
    obtain ⟨g1, eg1, h⟩ := Option.bind_eq_some_iff.mp h
    refine g_cVr (As := []) (n9 := 0) (st := [.int v2]) (w2 := (wX0 E a i t c)) C (c_X3_size E (a (i + 3)) (a (i + 4)) 240 c g1 eg1) gX0_isLevelInTheEnd_X3_size rfl (by decide +kernel) rfl ⟨by decide, by decide, by decide, by decide, Nat.le_of_ble_eq_true rfl⟩ 0 rfl rfl (gSub.idx [3, 4] rfl rfl) rfl dX0_isLevelInTheEnd_9 ?_
    refine g_icmp_ge C (tgt := 32) dX0_isLevelInTheEnd_12 (by decide) (fun cd2 => ?_) (fun cd2 => ?_)
    · replace h := (if_pos cd2).symm.trans h
      refine g_iload_n C 1 rfl rfl dX0_isLevelInTheEnd_32 ?_
      refine g_if_ne C (tgt := 40) dX0_isLevelInTheEnd_33 (by decide) (fun cd3 => ?_) (fun cd3 => ?_)
      · replace h := (if_neg cd3).symm.trans h
        refine g_iconst C (v := 0) (by decide) dX0_isLevelInTheEnd_40 ?_
        obtain rfl := Option.some.inj h
        exact g_zret C hQ rfl rfl ⟨by decide, by decide⟩ dX0_isLevelInTheEnd_41
      · replace h := (if_pos cd3).symm.trans h
        refine g_iconst C (v := 1) (by decide) dX0_isLevelInTheEnd_36 ?_
        refine g_goto C (tgt := 41) dX0_isLevelInTheEnd_37 (by decide) ?_
        obtain rfl := Option.some.inj h
        exact g_zret C hQ rfl rfl ⟨by decide, by decide⟩ dX0_isLevelInTheEnd_41
    · replace h := (if_neg cd2).symm.trans h
      refine g_iload_n C 1 rfl rfl dX0_isLevelInTheEnd_15 ?_
      refine g_aload_n C 0 rfl rfl dX0_isLevelInTheEnd_16 ?_
      refine g_X0_changes C i_X0_isLevelInTheEnd_X0 m_X0_isLevelInTheEnd_0 0 rfl dX0_isLevelInTheEnd_17 ?_
      refine g_iload_n C 2 rfl rfl dX0_isLevelInTheEnd_20 ?_
      obtain ⟨g4, eg4, h⟩ := Option.bind_eq_some_iff.mp h
      refine g_cVr (As := [.int v2]) (n9 := 1) (st := [.int v1]) (w2 := (wX0 E a i t c)) C (c_X3_get E (a (i + 3)) (a (i + 4)) 240 c v2 g4 eg4) gX0_isLevelInTheEnd_X3_get rfl (by decide +kernel) rfl ⟨by decide, by decide, by decide, by decide, Nat.le_of_ble_eq_true rfl⟩ 0 rfl rfl (gSub.idx [3, 4] rfl rfl) rfl dX0_isLevelInTheEnd_21 ?_
      refine g_iadd C dX0_isLevelInTheEnd_24 ?_
      refine g_istore_n C (lv2 := [(1, .int (v1 + g4)), (0, .ref (a i)), (2, .int v2)]) rfl (by decide) rfl dX0_isLevelInTheEnd_25 ?_
      refine g_iinc C (v := v2 + 1) 2 rfl rfl (lv2 := [(2, .int (v2 + 1)), (1, .int (v1 + g4)), (0, .ref (a i))]) rfl (by decide) dX0_isLevelInTheEnd_26 ?_
      refine g_goto C (tgt := 4) dX0_isLevelInTheEnd_29 (by decide) ?_
      refine g_lv [2, 1, 0] (lv2 := [(0, .ref (a i)), (1, .int (v1 + g4)), (2, .int (v2 + 1))]) rfl ?_
      exact ih (v1 + g4) (v2 + 1) h
set_option maxHeartbeats 4000000 in
set_option maxRecDepth 100000 in
theorem c_X0_isLevelInTheEnd (E : gE) (a : Nat → Nat) (i : Nat) (t : RS) (c : RS) (o : (Bool)) (h : f_X0_isLevelInTheEnd c = some o) : Ct E yX0_isLevelInTheEnd wsX0_isLevelInTheEnd r_X0_isLevelInTheEnd [.ref (a i)] (wX0 E a i t c) (gO (fun u9 => some (.int (bI u9))) (fun u9 => (wX0 E a i t c)) (.inr o)) := by
  refine Ct.of (cc := cX0_isLevelInTheEnd) (nL := 3) (ret := ((some .boolean))) (own := RX0) (by decide) rfl rfl (Nat.le_of_ble_eq_true rfl) rfl ?_ ?_
  · intro v w1 hh
    cases hh; rfl
  · intro X C hQ
    rw [f_X0_isLevelInTheEnd] at h
    refine g_iconst C (v := 0) (by decide) dX0_isLevelInTheEnd_0 ?_
    refine g_istore_n C (lv2 := [(1, .int 0), (0, .ref (a i))]) rfl (by decide) rfl dX0_isLevelInTheEnd_1 ?_
    refine g_iconst C (v := 0) (by decide) dX0_isLevelInTheEnd_2 ?_
    refine g_istore_n C (lv2 := [(2, .int 0), (1, .int 0), (0, .ref (a i))]) rfl (by decide) rfl dX0_isLevelInTheEnd_3 ?_
    refine g_lv [2, 1, 0] (lv2 := [(0, .ref (a i)), (1, .int 0), (2, .int 0)]) rfl ?_
    exact w_X0_isLevelInTheEnd_4 C hQ FU 0 0 h
abbrev r_X0_isOverAt : Room := { frames := 3, cells := 0, slots := 0, locals := 62 }
theorem m_X0_isOverAt_0 : Cond.fieldLink RX0 14 "Bookinghouse$Crowd" "times" "LBookinghouse$Row;" ∈ wsX0_isOverAt := by decide +kernel
theorem i_X0_isOverAt_X0 : ∀ w ∈ wsX00, w ∈ wsX0_isOverAt := by decide +kernel
set_option maxHeartbeats 4000000 in
set_option maxRecDepth 100000 in
theorem c_X0_isOverAt (E : gE) (a : Nat → Nat) (i : Nat) (t : RS) (c : RS) (p1 : Int32) (o : (Bool)) (h : f_X0_isOverAt t p1 = some o) : Ct E yX0_isOverAt wsX0_isOverAt r_X0_isOverAt [.ref (a i), .int p1] (wX0 E a i t c) (gO (fun u9 => some (.int (bI u9))) (fun u9 => (wX0 E a i t c)) (.inr o)) := by
  refine Ct.of (cc := cX0_isOverAt) (nL := 2) (ret := ((some .boolean))) (own := RX0) (by decide) rfl rfl (Nat.le_of_ble_eq_true rfl) rfl ?_ ?_
  · intro v w1 hh
    cases hh; rfl
  · intro X C hQ
    rw [f_X0_isOverAt] at h
    refine g_aload_n C 0 rfl rfl dX0_isOverAt_0 ?_
    obtain ⟨g1, eg1, h⟩ := Option.bind_eq_some_iff.mp h
    refine g_cVr (As := []) (n9 := 0) (st := []) (w2 := (wX0 E a i t c)) C (c_X0_isEmpty E a i t c g1 eg1) gX0_isOverAt_X0_isEmpty rfl (by decide +kernel) rfl ⟨by decide, by decide, by decide, by decide, Nat.le_of_ble_eq_true rfl⟩ 0 rfl rfl (gSub.idx [0, 1, 2, 3, 4] rfl rfl) rfl dX0_isOverAt_1 ?_
    refine g_if_ne C (tgt := 27) dX0_isOverAt_4 (by decide) (fun cd2 => ?_) (fun cd2 => ?_)
    · replace h := (if_neg cd2).symm.trans h
      refine g_iconst C (v := 1) (by decide) dX0_isOverAt_27 ?_
      refine g_goto C (tgt := 32) dX0_isOverAt_28 (by decide) ?_
      obtain rfl := Option.some.inj h
      exact g_zret C hQ rfl rfl ⟨by decide, by decide⟩ dX0_isOverAt_32
    · replace h := (if_pos cd2).symm.trans h
      refine g_aload_n C 0 rfl rfl dX0_isOverAt_7 ?_
      refine g_X0_times C i_X0_isOverAt_X0 m_X0_isOverAt_0 0 rfl dX0_isOverAt_8 ?_
      refine g_aload_n C 0 rfl rfl dX0_isOverAt_11 ?_
      refine g_X0_times C i_X0_isOverAt_X0 m_X0_isOverAt_0 0 rfl dX0_isOverAt_12 ?_
      obtain ⟨g3, eg3, h⟩ := Option.bind_eq_some_iff.mp h
      refine g_cVr (As := []) (n9 := 0) (st := [.ref (a (i + 1))]) (w2 := (wX0 E a i t c)) C (c_X3_size E (a (i + 1)) (a (i + 2)) 240 t g3 eg3) gX0_isOverAt_X3_size rfl (by decide +kernel) rfl ⟨by decide, by decide, by decide, by decide, Nat.le_of_ble_eq_true rfl⟩ 0 rfl rfl (gSub.idx [1, 2] rfl rfl) rfl dX0_isOverAt_15 ?_
      refine g_iconst C (v := 1) (by decide) dX0_isOverAt_18 ?_
      refine g_isub C dX0_isOverAt_19 ?_
      obtain ⟨g4, eg4, h⟩ := Option.bind_eq_some_iff.mp h
      refine g_cVr (As := [.int (g3 - 1)]) (n9 := 1) (st := []) (w2 := (wX0 E a i t c)) C (c_X3_get E (a (i + 1)) (a (i + 2)) 240 t (g3 - 1) g4 eg4) gX0_isOverAt_X3_get rfl (by decide +kernel) rfl ⟨by decide, by decide, by decide, by decide, Nat.le_of_ble_eq_true rfl⟩ 0 rfl rfl (gSub.idx [1, 2] rfl rfl) rfl dX0_isOverAt_20 ?_
      refine g_iload_n C 1 rfl rfl dX0_isOverAt_23 ?_
      refine g_icmp_gt C (tgt := 31) dX0_isOverAt_24 (by decide) (fun cd5 => ?_) (fun cd5 => ?_)
      · replace h := (if_pos cd5).symm.trans h
        refine g_iconst C (v := 0) (by decide) dX0_isOverAt_31 ?_
        obtain rfl := Option.some.inj h
        exact g_zret C hQ rfl rfl ⟨by decide, by decide⟩ dX0_isOverAt_32
      · replace h := (if_neg cd5).symm.trans h
        refine g_iconst C (v := 1) (by decide) dX0_isOverAt_27 ?_
        refine g_goto C (tgt := 32) dX0_isOverAt_28 (by decide) ?_
        obtain rfl := Option.some.inj h
        exact g_zret C hQ rfl rfl ⟨by decide, by decide⟩ dX0_isOverAt_32
abbrev r_X0_isLike : Room := { frames := 4, cells := 0, slots := 0, locals := 84 }
theorem m_X0_isLike_0 : Cond.fieldLink RX0 14 "Bookinghouse$Crowd" "times" "LBookinghouse$Row;" ∈ wsX0_isLike := by decide +kernel
theorem i_X0_isLike_X0 : ∀ w ∈ wsX00, w ∈ wsX0_isLike := by decide +kernel
theorem m_X0_isLike_2 : Cond.fieldLink RX0 20 "Bookinghouse$Crowd" "changes" "LBookinghouse$Row;" ∈ wsX0_isLike := by decide +kernel
set_option maxHeartbeats 4000000 in
set_option maxRecDepth 100000 in
theorem c_X0_isLike (E : gE) (a : Nat → Nat) (i : Nat) (t : RS) (c : RS) (a2 : Nat → Nat) (i2 : Nat) (t2 : RS) (c2 : RS) (o : (Bool)) (h : f_X0_isLike t c t2 c2 = some o) : Ct E yX0_isLike wsX0_isLike r_X0_isLike [.ref (a i), .ref (a2 i2)] (wX0 E a i t c ++ wX0 E a2 i2 t2 c2) (gO (fun u9 => some (.int (bI u9))) (fun u9 => (wX0 E a i t c ++ wX0 E a2 i2 t2 c2)) (.inr o)) := by
  refine Ct.of (cc := cX0_isLike) (nL := 2) (ret := ((some .boolean))) (own := RX0) (by decide) rfl rfl (Nat.le_of_ble_eq_true rfl) rfl ?_ ?_
  · intro v w1 hh
    cases hh; rfl
  · intro X C hQ
    rw [f_X0_isLike] at h
    refine g_aload_n C 0 rfl rfl dX0_isLike_0 ?_
    refine g_X0_times C i_X0_isLike_X0 m_X0_isLike_0 0 rfl dX0_isLike_1 ?_
    refine g_aload_n C 1 rfl rfl dX0_isLike_4 ?_
    refine g_X0_times C i_X0_isLike_X0 m_X0_isLike_0 5 rfl dX0_isLike_5 ?_
    obtain ⟨g1, eg1, h⟩ := Option.bind_eq_some_iff.mp h
    refine g_cVr (As := [.ref (a2 (i2 + 1))]) (n9 := 1) (st := []) (w2 := (wX0 E a i t c ++ wX0 E a2 i2 t2 c2)) C (c_X3_isLike E (a (i + 1)) (a (i + 2)) 240 t (a2 (i2 + 1)) (a2 (i2 + 2)) 240 t2 g1 eg1) gX0_isLike_X3_isLike rfl (by decide +kernel) rfl ⟨by decide, by decide, by decide, by decide, Nat.le_of_ble_eq_true rfl⟩ 0 rfl rfl (gSub.idx [1, 2, 6, 7] rfl rfl) rfl dX0_isLike_8 ?_
    refine g_if_eq C (tgt := 32) dX0_isLike_11 (by decide) (fun cd2 => ?_) (fun cd2 => ?_)
    · replace h := (if_pos cd2).symm.trans h
      refine g_iconst C (v := 0) (by decide) dX0_isLike_32 ?_
      obtain rfl := Option.some.inj h
      exact g_zret C hQ rfl rfl ⟨by decide, by decide⟩ dX0_isLike_33
    · replace h := (if_neg cd2).symm.trans h
      refine g_aload_n C 0 rfl rfl dX0_isLike_14 ?_
      refine g_X0_changes C i_X0_isLike_X0 m_X0_isLike_2 0 rfl dX0_isLike_15 ?_
      refine g_aload_n C 1 rfl rfl dX0_isLike_18 ?_
      refine g_X0_changes C i_X0_isLike_X0 m_X0_isLike_2 5 rfl dX0_isLike_19 ?_
      obtain ⟨g3, eg3, h⟩ := Option.bind_eq_some_iff.mp h
      refine g_cVr (As := [.ref (a2 (i2 + 3))]) (n9 := 1) (st := []) (w2 := (wX0 E a i t c ++ wX0 E a2 i2 t2 c2)) C (c_X3_isLike E (a (i + 3)) (a (i + 4)) 240 c (a2 (i2 + 3)) (a2 (i2 + 4)) 240 c2 g3 eg3) gX0_isLike_X3_isLike rfl (by decide +kernel) rfl ⟨by decide, by decide, by decide, by decide, Nat.le_of_ble_eq_true rfl⟩ 0 rfl rfl (gSub.idx [3, 4, 8, 9] rfl rfl) rfl dX0_isLike_22 ?_
      refine g_if_eq C (tgt := 32) dX0_isLike_25 (by decide) (fun cd4 => ?_) (fun cd4 => ?_)
      · replace h := (if_pos cd4).symm.trans h
        refine g_iconst C (v := 0) (by decide) dX0_isLike_32 ?_
        obtain rfl := Option.some.inj h
        exact g_zret C hQ rfl rfl ⟨by decide, by decide⟩ dX0_isLike_33
      · replace h := (if_neg cd4).symm.trans h
        refine g_iconst C (v := 1) (by decide) dX0_isLike_28 ?_
        refine g_goto C (tgt := 33) dX0_isLike_29 (by decide) ?_
        obtain rfl := Option.some.inj h
        exact g_zret C hQ rfl rfl ⟨by decide, by decide⟩ dX0_isLike_33
