/-! ba: pure functions, printed by wip/whole/gen.py out of the bytecode, and their walks -/
def f_X4_isIn (p0 : Int32) (p1 : Int32) (p2 : Int32) : Option (Bool) := (if p0 < p1 then some false else (if p2 < p0 then some false else some true))
def f_X4_isTime (p0 : Int32) : Option (Bool) := ((f_X4_isIn p0 0 9999).bind fun g1 => some g1)
def f_X4_isSpan (p0 : Int32) : Option (Bool) := ((f_X4_isIn p0 0 500).bind fun g1 => some g1)
def f_X4_isWeight (p0 : Int32) : Option (Bool) := ((f_X4_isIn p0 1 9).bind fun g1 => some g1)
def f_X4_refuseIfNoTime (p0 : Int32) : Option (String ⊕ (Unit)) := ((f_X4_isTime p0).bind fun g1 => (if (bI g1) = 0 then some (.inl "java/lang/IllegalArgumentException") else some (.inr ())))
def f_X4_refuseIfTurned (p0 : Int32) (p1 : Int32) : Option (String ⊕ (Unit)) := (if p0 ≤ p1 then some (.inr ()) else some (.inl "java/lang/IllegalArgumentException"))
def f_X4_refuseIfSame (p0 : Int32) (p1 : Int32) : Option (String ⊕ (Unit)) := (if p0 = p1 then some (.inl "java/lang/IllegalStateException") else some (.inr ()))
def f_X4_itemAt (N : Nat) (r : RS) (p1 : Int32) : Option (String ⊕ (Int32)) := ((f_X3_holds N r p1).bind fun g1 => (if (bI g1) = 0 then some (.inl "java/util/NoSuchElementException") else ((f_X3_get N r p1).bind fun g3 => some (.inr g3))))
def l_X4_withRow_15 (N : Nat) (r : RS) : Nat → Int64 → Int32 → Option (Int64)
  | 0, _, _ => none
  | F + 1, v3, v5 => ((f_X3_size r).bind fun g1 => (if g1 ≤ v5 then some v3 else ((f_X3_get N r v5).bind fun g3 => l_X4_withRow_15 N r F ((31 * v3) + g3.toInt64) (v5 + 1))))
def f_X4_withRow (N : Nat) (r : RS) (p0 : Int64) : Option (Int64) := ((f_X3_size r).bind fun g1 => l_X4_withRow_15 N r FU ((31 * p0) + g1.toInt64) 0)
def l_X4_withHouse_33 (t : RS) (c : RS) : Nat → Int64 → Int32 → Option (Int64)
  | 0, _, _ => none
  | F + 1, v3, v5 => ((f_X3_size t).bind fun g1 => (if g1 ≤ v5 then some v3 else ((f_X3_get 240 t v5).bind fun g3 => ((f_X3_get 240 c v5).bind fun g4 => l_X4_withHouse_33 t c F ((31 * ((31 * v3) + g3.toInt64)) + g4.toInt64) (v5 + 1)))))
def f_X4_withHouse (z : Int32) (q : RS) (u : RS) (t : RS) (c : RS) (p0 : Int64) : Option (Int64) := ((f_X4_withRow 48 q ((31 * p0) + z.toInt64)).bind fun g1 => ((f_X4_withRow 120 u g1).bind fun g2 => l_X4_withHouse_33 t c FU g2 0))
def f_X4_refuseIfNoRoom (lt : RS) (z : Int32) (q : RS) (p2 : Int32) (p3 : Int32) : Option (String ⊕ (Unit)) := (if z ≤ p2 then ((f_X3_size q).bind fun g2 => (if (g2 + p3) ≤ 48 then ((f_X2_size lt).bind fun g4 => (if (g4 + p3) ≤ 120 then some (.inr ()) else some (.inl "java/lang/IllegalStateException"))) else some (.inl "java/lang/IllegalStateException"))) else some (.inl "java/lang/IllegalStateException"))
def b_X4_enqueue_39 (lh : RS) (lx : RS) (nu : Int32) (q : RS) (v2 : Int32) (v3 : Int32) : Option (RS × RS × RS) := ((f_X3_insert 48 q v3 v2).bind fun g1 => ((f_X3_set 120 lh v2 nu).bind fun g2 => ((f_X3_set 120 lx v2 0).bind fun g3 => some (g2, g3, g1))))
def l_X4_enqueue_8 (lt : RS) (lh : RS) (lx : RS) (nu : Int32) (q : RS) (v2 : Int32) : Nat → Int32 → Option (RS × RS × RS)
  | 0, _ => none
  | F + 1, v3 => (if v3 ≤ 0 then b_X4_enqueue_39 lh lx nu q v2 v3 else ((f_X3_get 48 q (v3 - 1)).bind fun g2 => ((f_X2_isAhead lt v2 g2).bind fun g3 => (if (bI g3) = 0 then b_X4_enqueue_39 lh lx nu q v2 v3 else l_X4_enqueue_8 lt lh lx nu q v2 F (v3 + (-1))))))
def f_X4_enqueue (lt : RS) (lh : RS) (lx : RS) (nu : Int32) (q : RS) (p2 : Int32) : Option (RS × RS × RS) := ((f_X3_size q).bind fun g1 => l_X4_enqueue_8 lt lh lx nu q p2 FU g1)
def f_X4_callOffPlace (lx : RS) (q : RS) (p2 : Int32) : Option (RS × RS) := ((f_X3_remove 48 q p2).bind fun g1 => ((f_X3_set 120 lx g1.1 2).bind fun g2 => some (g2, g1.2)))
def l_X4_waitingAheadOf_2 (lt : RS) (q : RS) (v2 : Int32) : Nat → Int32 → Option (Int32)
  | 0, _ => none
  | F + 1, v3 => ((f_X3_size q).bind fun g1 => (if g1 ≤ v3 then some v3 else ((f_X3_get 48 q v3).bind fun g3 => ((f_X3_get 120 lt g3).bind fun g4 => (if v2 ≤ g4 then some v3 else l_X4_waitingAheadOf_2 lt q v2 F (v3 + 1))))))
def f_X4_waitingAheadOf (lt : RS) (q : RS) (p2 : Int32) : Option (Int32) := l_X4_waitingAheadOf_2 lt q p2 FU 0
def l_X4_cameBehind_8 (lt : RS) (u : RS) (v2 : Int32) : Nat → Int32 → Option (Int32)
  | 0, _ => none
  | F + 1, v3 => (if v3 ≤ 0 then ((f_X3_size u).bind fun g2 => some (g2 - v3)) else ((f_X3_get 120 u (v3 - 1)).bind fun g3 => ((f_X3_get 120 lt g3).bind fun g4 => (if g4 ≤ v2 then ((f_X3_size u).bind fun g6 => some (g6 - v3)) else l_X4_cameBehind_8 lt u v2 F (v3 + (-1))))))
def f_X4_cameBehind (lt : RS) (u : RS) (p2 : Int32) : Option (Int32) := ((f_X3_size u).bind fun g1 => l_X4_cameBehind_8 lt u p2 FU g1)
abbrev r_X4_isIn : Room := { frames := 1, cells := 0, slots := 0, locals := 20 }
set_option maxHeartbeats 4000000 in
set_option maxRecDepth 100000 in
theorem c_X4_isIn (E : gE) (p0 : Int32) (p1 : Int32) (p2 : Int32) (o : (Bool)) (h : f_X4_isIn p0 p1 p2 = some o) : Ct E yX4_isIn wsX4_isIn r_X4_isIn [.int p0, .int p1, .int p2] ([] : va_W) (gO (fun u9 => some (.int (bI u9))) (fun u9 => ([] : va_W)) (.inr o)) := by
  refine Ct.of (cc := cX4_isIn) (nL := 3) (ret := ((some .boolean))) (own := RX4) (by decide) rfl rfl (Nat.le_of_ble_eq_true rfl) rfl ?_ ?_
  · intro v w1 hh
    cases hh; rfl
  · intro X C hQ
    rw [f_X4_isIn] at h
    refine g_iload_n C 0 rfl rfl dX4_isIn_0 ?_
    refine g_iload_n C 1 rfl rfl dX4_isIn_1 ?_
    refine g_icmp_lt C (tgt := 14) dX4_isIn_2 (by decide) (fun cd1 => ?_) (fun cd1 => ?_)
    · replace h := (if_pos cd1).symm.trans h
      refine g_iconst C (v := 0) (by decide) dX4_isIn_14 ?_
      obtain rfl := Option.some.inj h
      exact g_zret C hQ rfl rfl ⟨by decide, by decide⟩ dX4_isIn_15
    · replace h := (if_neg cd1).symm.trans h
      refine g_iload_n C 0 rfl rfl dX4_isIn_5 ?_
      refine g_iload_n C 2 rfl rfl dX4_isIn_6 ?_
      refine g_icmp_gt C (tgt := 14) dX4_isIn_7 (by decide) (fun cd2 => ?_) (fun cd2 => ?_)
      · replace h := (if_pos cd2).symm.trans h
        refine g_iconst C (v := 0) (by decide) dX4_isIn_14 ?_
        obtain rfl := Option.some.inj h
        exact g_zret C hQ rfl rfl ⟨by decide, by decide⟩ dX4_isIn_15
      · replace h := (if_neg cd2).symm.trans h
        refine g_iconst C (v := 1) (by decide) dX4_isIn_10 ?_
        refine g_goto C (tgt := 15) dX4_isIn_11 (by decide) ?_
        obtain rfl := Option.some.inj h
        exact g_zret C hQ rfl rfl ⟨by decide, by decide⟩ dX4_isIn_15
abbrev r_X4_isTime : Room := { frames := 2, cells := 0, slots := 0, locals := 42 }
set_option maxHeartbeats 4000000 in
set_option maxRecDepth 100000 in
theorem c_X4_isTime (E : gE) (p0 : Int32) (o : (Bool)) (h : f_X4_isTime p0 = some o) : Ct E yX4_isTime wsX4_isTime r_X4_isTime [.int p0] ([] : va_W) (gO (fun u9 => some (.int (bI u9))) (fun u9 => ([] : va_W)) (.inr o)) := by
  refine Ct.of (cc := cX4_isTime) (nL := 1) (ret := ((some .boolean))) (own := RX4) (by decide) rfl rfl (Nat.le_of_ble_eq_true rfl) rfl ?_ ?_
  · intro v w1 hh
    cases hh; rfl
  · intro X C hQ
    rw [f_X4_isTime] at h
    refine g_iload_n C 0 rfl rfl dX4_isTime_0 ?_
    refine g_iconst C (v := 0) (by decide) dX4_isTime_1 ?_
    refine g_sipush C (v := 9999) (by decide) dX4_isTime_2 ?_
    obtain ⟨g1, eg1, h⟩ := Option.bind_eq_some_iff.mp h
    refine g_cSr (As := [.int p0, .int 0, .int 9999]) (n9 := 3) (st := []) (w2 := ([] : va_W)) C (c_X4_isIn E p0 0 9999 g1 eg1) gX4_isTime_X4_isIn rfl (by decide +kernel) rfl ⟨by decide, by decide, by decide, by decide, Nat.le_of_ble_eq_true rfl⟩ (gSub.idx [] rfl rfl) rfl dX4_isTime_5 ?_
    obtain rfl := Option.some.inj h
    exact g_zret C hQ rfl (bI_nar _) ⟨by decide, by decide⟩ dX4_isTime_8
abbrev r_X4_isSpan : Room := { frames := 2, cells := 0, slots := 0, locals := 42 }
set_option maxHeartbeats 4000000 in
set_option maxRecDepth 100000 in
theorem c_X4_isSpan (E : gE) (p0 : Int32) (o : (Bool)) (h : f_X4_isSpan p0 = some o) : Ct E yX4_isSpan wsX4_isSpan r_X4_isSpan [.int p0] ([] : va_W) (gO (fun u9 => some (.int (bI u9))) (fun u9 => ([] : va_W)) (.inr o)) := by
  refine Ct.of (cc := cX4_isSpan) (nL := 1) (ret := ((some .boolean))) (own := RX4) (by decide) rfl rfl (Nat.le_of_ble_eq_true rfl) rfl ?_ ?_
  · intro v w1 hh
    cases hh; rfl
  · intro X C hQ
    rw [f_X4_isSpan] at h
    refine g_iload_n C 0 rfl rfl dX4_isSpan_0 ?_
    refine g_iconst C (v := 0) (by decide) dX4_isSpan_1 ?_
    refine g_sipush C (v := 500) (by decide) dX4_isSpan_2 ?_
    obtain ⟨g1, eg1, h⟩ := Option.bind_eq_some_iff.mp h
    refine g_cSr (As := [.int p0, .int 0, .int 500]) (n9 := 3) (st := []) (w2 := ([] : va_W)) C (c_X4_isIn E p0 0 500 g1 eg1) gX4_isSpan_X4_isIn rfl (by decide +kernel) rfl ⟨by decide, by decide, by decide, by decide, Nat.le_of_ble_eq_true rfl⟩ (gSub.idx [] rfl rfl) rfl dX4_isSpan_5 ?_
    obtain rfl := Option.some.inj h
    exact g_zret C hQ rfl (bI_nar _) ⟨by decide, by decide⟩ dX4_isSpan_8
abbrev r_X4_isWeight : Room := { frames := 2, cells := 0, slots := 0, locals := 42 }
set_option maxHeartbeats 4000000 in
set_option maxRecDepth 100000 in
theorem c_X4_isWeight (E : gE) (p0 : Int32) (o : (Bool)) (h : f_X4_isWeight p0 = some o) : Ct E yX4_isWeight wsX4_isWeight r_X4_isWeight [.int p0] ([] : va_W) (gO (fun u9 => some (.int (bI u9))) (fun u9 => ([] : va_W)) (.inr o)) := by
  refine Ct.of (cc := cX4_isWeight) (nL := 1) (ret := ((some .boolean))) (own := RX4) (by decide) rfl rfl (Nat.le_of_ble_eq_true rfl) rfl ?_ ?_
  · intro v w1 hh
    cases hh; rfl
  · intro X C hQ
    rw [f_X4_isWeight] at h
    refine g_iload_n C 0 rfl rfl dX4_isWeight_0 ?_
    refine g_iconst C (v := 1) (by decide) dX4_isWeight_1 ?_
    refine g_bipush C (v := 9) (by decide) dX4_isWeight_2 ?_
    obtain ⟨g1, eg1, h⟩ := Option.bind_eq_some_iff.mp h
    refine g_cSr (As := [.int p0, .int 1, .int 9]) (n9 := 3) (st := []) (w2 := ([] : va_W)) C (c_X4_isIn E p0 1 9 g1 eg1) gX4_isWeight_X4_isIn rfl (by decide +kernel) rfl ⟨by decide, by decide, by decide, by decide, Nat.le_of_ble_eq_true rfl⟩ (gSub.idx [] rfl rfl) rfl dX4_isWeight_4 ?_
    obtain rfl := Option.some.inj h
    exact g_zret C hQ rfl (bI_nar _) ⟨by decide, by decide⟩ dX4_isWeight_7
abbrev r_X4_refuseIfNoTime : Room := { frames := 7, cells := 1, slots := 6, locals := 120 }
theorem tf_X4_refuseIfNoTime_46 : gTh wsX4_refuseIfNoTime RX4 "java/lang/IllegalArgumentException" 46 50 := ⟨by decide +kernel, by decide +kernel, by decide +kernel, by decide +kernel, by decide +kernel, by decide +kernel⟩
set_option maxHeartbeats 4000000 in
set_option maxRecDepth 100000 in
theorem c_X4_refuseIfNoTime (E : gE) (p0 : Int32) (o : (String ⊕ (Unit))) (h : f_X4_refuseIfNoTime p0 = some o) : Ct E yX4_refuseIfNoTime wsX4_refuseIfNoTime r_X4_refuseIfNoTime [.int p0] ([] : va_W) (gO (fun u9 => none) (fun u9 => ([] : va_W)) o) := by
  refine Ct.of (cc := cX4_refuseIfNoTime) (nL := 1) (ret := (none)) (own := RX4) (by decide) rfl rfl (Nat.le_of_ble_eq_true rfl) rfl ?_ ?_
  · intro v w1 hh
    cases o <;> cases hh <;> rfl
  · intro X C hQ
    rw [f_X4_refuseIfNoTime] at h
    refine g_iload_n C 0 rfl rfl dX4_refuseIfNoTime_0 ?_
    obtain ⟨g1, eg1, h⟩ := Option.bind_eq_some_iff.mp h
    refine g_cSr (As := [.int p0]) (n9 := 1) (st := []) (w2 := ([] : va_W)) C (c_X4_isTime E p0 g1 eg1) gX4_refuseIfNoTime_X4_isTime rfl (by decide +kernel) rfl ⟨by decide, by decide, by decide, by decide, Nat.le_of_ble_eq_true rfl⟩ (gSub.idx [] rfl rfl) rfl dX4_refuseIfNoTime_1 ?_
    refine g_if_ne C (tgt := 18) dX4_refuseIfNoTime_4 (by decide) (fun cd2 => ?_) (fun cd2 => ?_)
    · replace h := (if_neg cd2).symm.trans h
      obtain rfl := Option.some.inj h
      exact g_vret C hQ rfl ⟨by decide, by decide⟩ dX4_refuseIfNoTime_18
    · replace h := (if_pos cd2).symm.trans h
      obtain rfl := Option.some.inj h
      exact g_throwSW C hQ rfl rfl tf_X4_refuseIfNoTime_46 (text := "time is out of range") (is9 := 263) (by decide +kernel) ⟨by decide, Nat.le_of_ble_eq_true rfl, by decide, by decide, by decide, by decide⟩ dX4_refuseIfNoTime_7 dX4_refuseIfNoTime_10 dX4_refuseIfNoTime_11 dX4_refuseIfNoTime_14 dX4_refuseIfNoTime_17
abbrev r_X4_refuseIfTurned : Room := { frames := 7, cells := 1, slots := 6, locals := 120 }
theorem tf_X4_refuseIfTurned_46 : gTh wsX4_refuseIfTurned RX4 "java/lang/IllegalArgumentException" 46 50 := ⟨by decide +kernel, by decide +kernel, by decide +kernel, by decide +kernel, by decide +kernel, by decide +kernel⟩
set_option maxHeartbeats 4000000 in
set_option maxRecDepth 100000 in
theorem c_X4_refuseIfTurned (E : gE) (p0 : Int32) (p1 : Int32) (o : (String ⊕ (Unit))) (h : f_X4_refuseIfTurned p0 p1 = some o) : Ct E yX4_refuseIfTurned wsX4_refuseIfTurned r_X4_refuseIfTurned [.int p0, .int p1] ([] : va_W) (gO (fun u9 => none) (fun u9 => ([] : va_W)) o) := by
  refine Ct.of (cc := cX4_refuseIfTurned) (nL := 2) (ret := (none)) (own := RX4) (by decide) rfl rfl (Nat.le_of_ble_eq_true rfl) rfl ?_ ?_
  · intro v w1 hh
    cases o <;> cases hh <;> rfl
  · intro X C hQ
    rw [f_X4_refuseIfTurned] at h
    refine g_iload_n C 0 rfl rfl dX4_refuseIfTurned_0 ?_
    refine g_iload_n C 1 rfl rfl dX4_refuseIfTurned_1 ?_
    refine g_icmp_le C (tgt := 16) dX4_refuseIfTurned_2 (by decide) (fun cd1 => ?_) (fun cd1 => ?_)
    · replace h := (if_pos cd1).symm.trans h
      obtain rfl := Option.some.inj h
      exact g_vret C hQ rfl ⟨by decide, by decide⟩ dX4_refuseIfTurned_16
    · replace h := (if_neg cd1).symm.trans h
      obtain rfl := Option.some.inj h
      exact g_throwSW C hQ rfl rfl tf_X4_refuseIfTurned_46 (text := "from is above to") (is9 := 265) (by decide +kernel) ⟨by decide, Nat.le_of_ble_eq_true rfl, by decide, by decide, by decide, by decide⟩ dX4_refuseIfTurned_5 dX4_refuseIfTurned_8 dX4_refuseIfTurned_9 dX4_refuseIfTurned_12 dX4_refuseIfTurned_15
abbrev r_X4_refuseIfSame : Room := { frames := 7, cells := 1, slots := 6, locals := 120 }
theorem tf_X4_refuseIfSame_105 : gTh wsX4_refuseIfSame RX4 "java/lang/IllegalStateException" 105 109 := ⟨by decide +kernel, by decide +kernel, by decide +kernel, by decide +kernel, by decide +kernel, by decide +kernel⟩
set_option maxHeartbeats 4000000 in
set_option maxRecDepth 100000 in
theorem c_X4_refuseIfSame (E : gE) (p0 : Int32) (p1 : Int32) (o : (String ⊕ (Unit))) (h : f_X4_refuseIfSame p0 p1 = some o) : Ct E yX4_refuseIfSame wsX4_refuseIfSame r_X4_refuseIfSame [.int p0, .int p1] ([] : va_W) (gO (fun u9 => none) (fun u9 => ([] : va_W)) o) := by
  refine Ct.of (cc := cX4_refuseIfSame) (nL := 2) (ret := (none)) (own := RX4) (by decide) rfl rfl (Nat.le_of_ble_eq_true rfl) rfl ?_ ?_
  · intro v w1 hh
    cases o <;> cases hh <;> rfl
  · intro X C hQ
    rw [f_X4_refuseIfSame] at h
    refine g_iload_n C 0 rfl rfl dX4_refuseIfSame_0 ?_
    refine g_iload_n C 1 rfl rfl dX4_refuseIfSame_1 ?_
    refine g_icmp_ne C (tgt := 16) dX4_refuseIfSame_2 (by decide) (fun cd1 => ?_) (fun cd1 => ?_)
    · replace h := (if_neg cd1).symm.trans h
      obtain rfl := Option.some.inj h
      exact g_vret C hQ rfl ⟨by decide, by decide⟩ dX4_refuseIfSame_16
    · replace h := (if_pos cd1).symm.trans h
      obtain rfl := Option.some.inj h
      exact g_throwSW C hQ rfl rfl tf_X4_refuseIfSame_105 (text := "both houses are the same") (is9 := 267) (by decide +kernel) ⟨by decide, Nat.le_of_ble_eq_true rfl, by decide, by decide, by decide, by decide⟩ dX4_refuseIfSame_5 dX4_refuseIfSame_8 dX4_refuseIfSame_9 dX4_refuseIfSame_12 dX4_refuseIfSame_15
abbrev r_X4_itemAt : Room := { frames := 7, cells := 1, slots := 6, locals := 120 }
theorem tf_X4_itemAt_96 : gThN wsX4_itemAt RX4 96 100 := ⟨by decide +kernel, by decide +kernel, by decide +kernel, by decide +kernel, by decide +kernel⟩
set_option maxHeartbeats 4000000 in
set_option maxRecDepth 100000 in
theorem c_X4_itemAt (E : gE) (x : Nat) (y : Nat) (N : Nat) (r : RS) (p1 : Int32) (o : (String ⊕ (Int32))) (h : f_X4_itemAt N r p1 = some o) : Ct E yX4_itemAt wsX4_itemAt r_X4_itemAt [.ref x, .int p1] (wX3 E x y N r) (gO (fun u9 => some (.int u9)) (fun u9 => (wX3 E x y N r)) o) := by
  refine Ct.of (cc := cX4_itemAt) (nL := 2) (ret := ((some .int))) (own := RX4) (by decide) rfl rfl (Nat.le_of_ble_eq_true rfl) rfl ?_ ?_
  · intro v w1 hh
    cases o <;> cases hh <;> rfl
  · intro X C hQ
    rw [f_X4_itemAt] at h
    refine g_aload_n C 0 rfl rfl dX4_itemAt_0 ?_
    refine g_iload_n C 1 rfl rfl dX4_itemAt_1 ?_
    obtain ⟨g1, eg1, h⟩ := Option.bind_eq_some_iff.mp h
    refine g_cVr (As := [.int p1]) (n9 := 1) (st := []) (w2 := (wX3 E x y N r)) C (c_X3_holds E x y N r p1 g1 eg1) gX4_itemAt_X3_holds rfl (by decide +kernel) rfl ⟨by decide, by decide, by decide, by decide, Nat.le_of_ble_eq_true rfl⟩ 0 rfl rfl (gSub.idx [0, 1] rfl rfl) rfl dX4_itemAt_2 ?_
    refine g_if_ne C (tgt := 18) dX4_itemAt_5 (by decide) (fun cd2 => ?_) (fun cd2 => ?_)
    · replace h := (if_neg cd2).symm.trans h
      refine g_aload_n C 0 rfl rfl dX4_itemAt_18 ?_
      refine g_iload_n C 1 rfl rfl dX4_itemAt_19 ?_
      obtain ⟨g3, eg3, h⟩ := Option.bind_eq_some_iff.mp h
      refine g_cVr (As := [.int p1]) (n9 := 1) (st := []) (w2 := (wX3 E x y N r)) C (c_X3_get E x y N r p1 g3 eg3) gX4_itemAt_X3_get rfl (by decide +kernel) rfl ⟨by decide, by decide, by decide, by decide, Nat.le_of_ble_eq_true rfl⟩ 0 rfl rfl (gSub.idx [0, 1] rfl rfl) rfl dX4_itemAt_20 ?_
      obtain rfl := Option.some.inj h
      exact g_iret C hQ rfl ⟨by decide, by decide⟩ dX4_itemAt_23
    · replace h := (if_pos cd2).symm.trans h
      obtain rfl := Option.some.inj h
      exact g_throwN C hQ rfl rfl tf_X4_itemAt_96 (text := "no such place") (is9 := 211) (by decide +kernel) ⟨by decide, Nat.le_of_ble_eq_true rfl, by decide, by decide, by decide, by decide⟩ dX4_itemAt_8 dX4_itemAt_11 dX4_itemAt_12 dX4_itemAt_14 dX4_itemAt_17
abbrev r_X4_withRow : Room := { frames := 3, cells := 0, slots := 0, locals := 62 }
theorem m_X4_withRow_0 : Cond.constantLong RX4 297 31 ∈ wsX4_withRow := by decide +kernel
set_option maxHeartbeats 4000000 in
set_option maxRecDepth 100000 in
theorem w_X4_withRow_15 {E : gE} {X : gX} {x : Nat} {y : Nat} {N : Nat} {r : RS} {o : (Int64)} (C : Cx E X cX4_withRow 6 RX4 wsX4_withRow r_X4_withRow ((some .long)) []) (hQ : gQ E X (wX3 E x y N r) r_X4_withRow (gO (fun u9 => some (.long u9)) (fun u9 => (wX3 E x y N r)) (.inr o))) : ∀ (F : Nat) (v3 : Int64) (v5 : Int32), l_X4_withRow_15 N r F v3 v5 = some o → Gx E X (wX3 E x y N r) 6 [(2, .ref x), (3, .long v3), (5, .int v5)] [] 15 0 0 := by
  intro F
  induction F with
  | zero => intro v3 v5 h; exact absurd h (by simp [l_X4_withRow_15])
  | succ F ih =>
    intro v3 v5 h
    rw [l_X4_withRow_15] at h
    refine g_iload C 2 rfl dX4_withRow_15 ?_
    refine g_aload_n C 0 rfl rfl dX4_withRow_17 ?_
    obtain ⟨g1, eg1, h⟩ := Option.bind_eq_some_iff.mp h
    refine g_cVr (As := []) (n9 := 0) (st := [.int v5]) (w2 := (wX3 E x y N r)) C (c_X3_size E x y N r g1 eg1) gX4_withRow_X3_size rfl (by decide +kernel) rfl ⟨by decide, by decide, by decide, by decide, Nat.le_of_ble_eq_true rfl⟩ 0 rfl rfl (gSub.idx [0, 1] rfl rfl) rfl dX4_withRow_18 ?_
    refine g_icmp_ge C (tgt := 44) dX4_withRow_21 (by decide) (fun cd2 => ?_) (fun cd2 => ?_)
    · replace h := (if_pos cd2).symm.trans h
      refine g_lload_n C 1 rfl rfl dX4_withRow_44 ?_
      obtain rfl := Option.some.inj h
      exact g_lret C hQ rfl ⟨by decide, by decide⟩ dX4_withRow_45
    · replace h := (if_neg cd2).symm.trans h
      refine g_ldc2 C (v := 31) m_X4_withRow_0 dX4_withRow_24 ?_
      refine g_lload_n C 1 rfl rfl dX4_withRow_27 ?_
      refine g_lmul C dX4_withRow_28 ?_
      refine g_aload_n C 0 rfl rfl dX4_withRow_29 ?_
      refine g_iload C 2 rfl dX4_withRow_30 ?_
      obtain ⟨g3, eg3, h⟩ := Option.bind_eq_some_iff.mp h
      refine g_cVr (As := [.int v5]) (n9 := 1) (st := [.long (31 * v3)]) (w2 := (wX3 E x y N r)) C (c_X3_get E x y N r v5 g3 eg3) gX4_withRow_X3_get rfl (by decide +kernel) rfl ⟨by decide, by decide, by decide, by decide, Nat.le_of_ble_eq_true rfl⟩ 0 rfl rfl (gSub.idx [0, 1] rfl rfl) rfl dX4_withRow_32 ?_
      refine g_i2l C dX4_withRow_35 ?_
      refine g_ladd C dX4_withRow_36 ?_
      refine g_lstore_n C (lv2 := [(3, .long ((31 * v3) + g3.toInt64)), (2, .ref x), (5, .int v5)]) rfl (by decide) rfl dX4_withRow_37 ?_
      refine g_iinc C (v := v5 + 1) 2 rfl rfl (lv2 := [(5, .int (v5 + 1)), (3, .long ((31 * v3) + g3.toInt64)), (2, .ref x)]) rfl (by decide) dX4_withRow_38 ?_
      refine g_goto C (tgt := 15) dX4_withRow_41 (by decide) ?_
      refine g_lv [2, 1, 0] (lv2 := [(2, .ref x), (3, .long ((31 * v3) + g3.toInt64)), (5, .int (v5 + 1))]) rfl ?_
      exact ih ((31 * v3) + g3.toInt64) (v5 + 1) h
set_option maxHeartbeats 4000000 in
set_option maxRecDepth 100000 in
theorem c_X4_withRow (E : gE) (x : Nat) (y : Nat) (N : Nat) (r : RS) (p0 : Int64) (o : (Int64)) (h : f_X4_withRow N r p0 = some o) : Ct E yX4_withRow wsX4_withRow r_X4_withRow [.long p0, .ref x] (wX3 E x y N r) (gO (fun u9 => some (.long u9)) (fun u9 => (wX3 E x y N r)) (.inr o)) := by
  refine Ct.of (cc := cX4_withRow) (nL := 6) (ret := ((some .long))) (own := RX4) (by decide) rfl rfl (Nat.le_of_ble_eq_true rfl) rfl ?_ ?_
  · intro v w1 hh
    cases hh; rfl
  · intro X C hQ
    rw [f_X4_withRow] at h
    refine g_ldc2 C (v := 31) m_X4_withRow_0 dX4_withRow_0 ?_
    refine g_lload_n C 0 rfl rfl dX4_withRow_3 ?_
    refine g_lmul C dX4_withRow_4 ?_
    refine g_aload_n C 1 rfl rfl dX4_withRow_5 ?_
    obtain ⟨g1, eg1, h⟩ := Option.bind_eq_some_iff.mp h
    refine g_cVr (As := []) (n9 := 0) (st := [.long (31 * p0)]) (w2 := (wX3 E x y N r)) C (c_X3_size E x y N r g1 eg1) gX4_withRow_X3_size rfl (by decide +kernel) rfl ⟨by decide, by decide, by decide, by decide, Nat.le_of_ble_eq_true rfl⟩ 0 rfl rfl (gSub.idx [0, 1] rfl rfl) rfl dX4_withRow_6 ?_
    refine g_i2l C dX4_withRow_9 ?_
    refine g_ladd C dX4_withRow_10 ?_
    refine g_lstore_n C (lv2 := [(3, .long ((31 * p0) + g1.toInt64)), (0, .long p0), (2, .ref x)]) rfl (by decide) rfl dX4_withRow_11 ?_
    refine g_iconst C (v := 0) (by decide) dX4_withRow_12 ?_
    refine g_istore C (lv2 := [(5, .int 0), (3, .long ((31 * p0) + g1.toInt64)), (0, .long p0), (2, .ref x)]) rfl (by decide) dX4_withRow_13 ?_
    refine g_lv [3, 1, 0] (lv2 := [(2, .ref x), (3, .long ((31 * p0) + g1.toInt64)), (5, .int 0)]) rfl ?_
    exact w_X4_withRow_15 C hQ FU ((31 * p0) + g1.toInt64) 0 h
abbrev r_X4_withHouse : Room := { frames := 4, cells := 0, slots := 0, locals := 87 }
theorem m_X4_withHouse_0 : Cond.constantLong RX4 297 31 ∈ wsX4_withHouse := by decide +kernel
theorem i_X4_withHouse_X1 : ∀ w ∈ wsX10, w ∈ wsX4_withHouse := by decide +kernel
theorem i_X4_withHouse_X0 : ∀ w ∈ wsX00, w ∈ wsX4_withHouse := by decide +kernel
set_option maxHeartbeats 4000000 in
set_option maxRecDepth 100000 in
theorem w_X4_withHouse_33 {E : gE} {X : gX} {a : Nat → Nat} {i : Nat} {nu : Int32} {z : Int32} {q : RS} {u : RS} {t : RS} {c : RS} {o : (Int64)} (C : Cx E X cX4_withHouse 6 RX4 wsX4_withHouse r_X4_withHouse ((some .long)) []) (hQ : gQ E X (wX1 E a i nu z q u t c) r_X4_withHouse (gO (fun u9 => some (.long u9)) (fun u9 => (wX1 E a i nu z q u t c)) (.inr o))) : ∀ (F : Nat) (v3 : Int64) (v5 : Int32), l_X4_withHouse_33 t c F v3 v5 = some o → Gx E X (wX1 E a i nu z q u t c) 6 [(2, .ref (a i)), (3, .long v3), (5, .int v5)] [] 33 0 0 := by
  intro F
  induction F with
  | zero => intro v3 v5 h; exact absurd h (by simp [l_X4_withHouse_33])
  | succ F ih =>
    intro v3 v5 h
    rw [l_X4_withHouse_33] at h
    refine g_iload C 2 rfl dX4_withHouse_33 ?_
    refine g_aload_n C 0 rfl rfl dX4_withHouse_35 ?_
    refine g_X1_crowdN C i_X4_withHouse_X1 (by decide +kernel) 0 rfl dX4_withHouse_36 ?_
    refine g_X0_timesN C i_X4_withHouse_X0 (by decide +kernel) 5 rfl dX4_withHouse_39 ?_
    obtain ⟨g1, eg1, h⟩ := Option.bind_eq_some_iff.mp h
    refine g_cVr (As := []) (n9 := 0) (st := [.int v5]) (w2 := (wX1 E a i nu z q u t c)) C (c_X3_size E (a (i + 5 + 1)) (a (i + 5 + 2)) 240 t g1 eg1) gX4_withHouse_X3_size rfl (by decide +kernel) rfl ⟨by decide, by decide, by decide, by decide, Nat.le_of_ble_eq_true rfl⟩ 0 rfl rfl (gSub.idx [6, 7] rfl rfl) rfl dX4_withHouse_42 ?_
    refine g_icmp_ge C (tgt := 94) dX4_withHouse_45 (by decide) (fun cd2 => ?_) (fun cd2 => ?_)
    · replace h := (if_pos cd2).symm.trans h
      refine g_lload_n C 1 rfl rfl dX4_withHouse_94 ?_
      obtain rfl := Option.some.inj h
      exact g_lret C hQ rfl ⟨by decide, by decide⟩ dX4_withHouse_95
    · replace h := (if_neg cd2).symm.trans h
      refine g_ldc2 C (v := 31) m_X4_withHouse_0 dX4_withHouse_48 ?_
      refine g_lload_n C 1 rfl rfl dX4_withHouse_51 ?_
      refine g_lmul C dX4_withHouse_52 ?_
      refine g_aload_n C 0 rfl rfl dX4_withHouse_53 ?_
      refine g_X1_crowdN C i_X4_withHouse_X1 (by decide +kernel) 0 rfl dX4_withHouse_54 ?_
      refine g_X0_timesN C i_X4_withHouse_X0 (by decide +kernel) 5 rfl dX4_withHouse_57 ?_
      refine g_iload C 2 rfl dX4_withHouse_60 ?_
      obtain ⟨g3, eg3, h⟩ := Option.bind_eq_some_iff.mp h
      refine g_cVr (As := [.int v5]) (n9 := 1) (st := [.long (31 * v3)]) (w2 := (wX1 E a i nu z q u t c)) C (c_X3_get E (a (i + 5 + 1)) (a (i + 5 + 2)) 240 t v5 g3 eg3) gX4_withHouse_X3_get rfl (by decide +kernel) rfl ⟨by decide, by decide, by decide, by decide, Nat.le_of_ble_eq_true rfl⟩ 0 rfl rfl (gSub.idx [6, 7] rfl rfl) rfl dX4_withHouse_62 ?_
      refine g_i2l C dX4_withHouse_65 ?_
      refine g_ladd C dX4_withHouse_66 ?_
      refine g_lstore_n C (lv2 := [(3, .long ((31 * v3) + g3.toInt64)), (2, .ref (a i)), (5, .int v5)]) rfl (by decide) rfl dX4_withHouse_67 ?_
      refine g_ldc2 C (v := 31) m_X4_withHouse_0 dX4_withHouse_68 ?_
      refine g_lload_n C 0 rfl rfl dX4_withHouse_71 ?_
      refine g_lmul C dX4_withHouse_72 ?_
      refine g_aload_n C 1 rfl rfl dX4_withHouse_73 ?_
      refine g_X1_crowdN C i_X4_withHouse_X1 (by decide +kernel) 0 rfl dX4_withHouse_74 ?_
      refine g_X0_changesN C i_X4_withHouse_X0 (by decide +kernel) 5 rfl dX4_withHouse_77 ?_
      refine g_iload C 2 rfl dX4_withHouse_80 ?_
      obtain ⟨g4, eg4, h⟩ := Option.bind_eq_some_iff.mp h
      refine g_cVr (As := [.int v5]) (n9 := 1) (st := [.long (31 * ((31 * v3) + g3.toInt64))]) (w2 := (wX1 E a i nu z q u t c)) C (c_X3_get E (a (i + 5 + 3)) (a (i + 5 + 4)) 240 c v5 g4 eg4) gX4_withHouse_X3_get rfl (by decide +kernel) rfl ⟨by decide, by decide, by decide, by decide, Nat.le_of_ble_eq_true rfl⟩ 0 rfl rfl (gSub.idx [8, 9] rfl rfl) rfl dX4_withHouse_82 ?_
      refine g_i2l C dX4_withHouse_85 ?_
      refine g_ladd C dX4_withHouse_86 ?_
      refine g_lstore_n C (lv2 := [(3, .long ((31 * ((31 * v3) + g3.toInt64)) + g4.toInt64)), (2, .ref (a i)), (5, .int v5)]) rfl (by decide) rfl dX4_withHouse_87 ?_
      refine g_iinc C (v := v5 + 1) 2 rfl rfl (lv2 := [(5, .int (v5 + 1)), (3, .long ((31 * ((31 * v3) + g3.toInt64)) + g4.toInt64)), (2, .ref (a i))]) rfl (by decide) dX4_withHouse_88 ?_
      refine g_goto C (tgt := 33) dX4_withHouse_91 (by decide) ?_
      refine g_lv [2, 1, 0] (lv2 := [(2, .ref (a i)), (3, .long ((31 * ((31 * v3) + g3.toInt64)) + g4.toInt64)), (5, .int (v5 + 1))]) rfl ?_
      exact ih ((31 * ((31 * v3) + g3.toInt64)) + g4.toInt64) (v5 + 1) h
set_option maxHeartbeats 4000000 in
set_option maxRecDepth 100000 in
theorem c_X4_withHouse (E : gE) (a : Nat → Nat) (i : Nat) (nu : Int32) (z : Int32) (q : RS) (u : RS) (t : RS) (c : RS) (p0 : Int64) (o : (Int64)) (h : f_X4_withHouse z q u t c p0 = some o) : Ct E yX4_withHouse wsX4_withHouse r_X4_withHouse [.long p0, .ref (a i)] (wX1 E a i nu z q u t c) (gO (fun u9 => some (.long u9)) (fun u9 => (wX1 E a i nu z q u t c)) (.inr o)) := by
  refine Ct.of (cc := cX4_withHouse) (nL := 6) (ret := ((some .long))) (own := RX4) (by decide) rfl rfl (Nat.le_of_ble_eq_true rfl) rfl ?_ ?_
  · intro v w1 hh
    cases hh; rfl
  · intro X C hQ
    rw [f_X4_withHouse] at h
    refine g_ldc2 C (v := 31) m_X4_withHouse_0 dX4_withHouse_0 ?_
    refine g_lload_n C 0 rfl rfl dX4_withHouse_3 ?_
    refine g_lmul C dX4_withHouse_4 ?_
    refine g_aload_n C 1 rfl rfl dX4_withHouse_5 ?_
    refine g_X1_nowN C i_X4_withHouse_X1 (by decide +kernel) 0 rfl dX4_withHouse_6 ?_
    refine g_i2l C dX4_withHouse_9 ?_
    refine g_ladd C dX4_withHouse_10 ?_
    refine g_lstore_n C (lv2 := [(3, .long ((31 * p0) + z.toInt64)), (0, .long p0), (2, .ref (a i))]) rfl (by decide) rfl dX4_withHouse_11 ?_
    refine g_lload_n C 0 rfl rfl dX4_withHouse_12 ?_
    refine g_aload_n C 2 rfl rfl dX4_withHouse_13 ?_
    refine g_X1_queueN C i_X4_withHouse_X1 (by decide +kernel) 0 rfl dX4_withHouse_14 ?_
    obtain ⟨g1, eg1, h⟩ := Option.bind_eq_some_iff.mp h
    refine g_cSr (As := [.long ((31 * p0) + z.toInt64), .ref (a (i + 1))]) (n9 := 2) (st := []) (w2 := (wX1 E a i nu z q u t c)) C (c_X4_withRow E (a (i + 1)) (a (i + 2)) 48 q ((31 * p0) + z.toInt64) g1 eg1) gX4_withHouse_X4_withRow rfl (by decide +kernel) rfl ⟨by decide, by decide, by decide, by decide, Nat.le_of_ble_eq_true rfl⟩ (gSub.idx [1, 2] rfl rfl) rfl dX4_withHouse_17 ?_
    refine g_lstore_n C (lv2 := [(3, .long g1), (0, .long p0), (2, .ref (a i))]) rfl (by decide) rfl dX4_withHouse_20 ?_
    refine g_lload_n C 0 rfl rfl dX4_withHouse_21 ?_
    refine g_aload_n C 2 rfl rfl dX4_withHouse_22 ?_
    refine g_X1_pastN C i_X4_withHouse_X1 (by decide +kernel) 0 rfl dX4_withHouse_23 ?_
    obtain ⟨g2, eg2, h⟩ := Option.bind_eq_some_iff.mp h
    refine g_cSr (As := [.long g1, .ref (a (i + 3))]) (n9 := 2) (st := []) (w2 := (wX1 E a i nu z q u t c)) C (c_X4_withRow E (a (i + 3)) (a (i + 4)) 120 u g1 g2 eg2) gX4_withHouse_X4_withRow rfl (by decide +kernel) rfl ⟨by decide, by decide, by decide, by decide, Nat.le_of_ble_eq_true rfl⟩ (gSub.idx [3, 4] rfl rfl) rfl dX4_withHouse_26 ?_
    refine g_lstore_n C (lv2 := [(3, .long g2), (0, .long p0), (2, .ref (a i))]) rfl (by decide) rfl dX4_withHouse_29 ?_
    refine g_iconst C (v := 0) (by decide) dX4_withHouse_30 ?_
    refine g_istore C (lv2 := [(5, .int 0), (3, .long g2), (0, .long p0), (2, .ref (a i))]) rfl (by decide) dX4_withHouse_31 ?_
    refine g_lv [3, 1, 0] (lv2 := [(2, .ref (a i)), (3, .long g2), (5, .int 0)]) rfl ?_
    exact w_X4_withHouse_33 C hQ FU g2 0 h
abbrev r_X4_refuseIfNoRoom : Room := { frames := 7, cells := 1, slots := 6, locals := 120 }
theorem i_X4_refuseIfNoRoom_X1 : ∀ w ∈ wsX10, w ∈ wsX4_refuseIfNoRoom := by decide +kernel
theorem m_X4_refuseIfNoRoom_1 : Cond.fieldLink RX4 10 "Bookinghouse" "ledger" "LBookinghouse$Ledger;" ∈ wsX4_refuseIfNoRoom := by decide +kernel
theorem i_X4_refuseIfNoRoom_X4 : ∀ w ∈ wsX40, w ∈ wsX4_refuseIfNoRoom := by decide +kernel
theorem tf_X4_refuseIfNoRoom_105 : gTh wsX4_refuseIfNoRoom RX4 "java/lang/IllegalStateException" 105 109 := ⟨by decide +kernel, by decide +kernel, by decide +kernel, by decide +kernel, by decide +kernel, by decide +kernel⟩
set_option maxHeartbeats 4000000 in
set_option maxRecDepth 100000 in
theorem c_X4_refuseIfNoRoom (E : gE) (a : Nat → Nat) (i : Nat) (lt : RS) (ls : RS) (lw : RS) (lh : RS) (lx : RS) (nu : Int32) (z : Int32) (q : RS) (u : RS) (t : RS) (c : RS) (p2 : Int32) (p3 : Int32) (o : (String ⊕ (Unit))) (h : f_X4_refuseIfNoRoom lt z q p2 p3 = some o) : Ct E yX4_refuseIfNoRoom wsX4_refuseIfNoRoom r_X4_refuseIfNoRoom [.ref (a 0), .ref (a i), .int p2, .int p3] (wB E a ++ (wX2 E a 2 lt ls lw lh lx ++ wX1 E a i nu z q u t c)) (gO (fun u9 => none) (fun u9 => (wB E a ++ (wX2 E a 2 lt ls lw lh lx ++ wX1 E a i nu z q u t c))) o) := by
  refine Ct.of (cc := cX4_refuseIfNoRoom) (nL := 4) (ret := (none)) (own := RX4) (by decide) rfl rfl (Nat.le_of_ble_eq_true rfl) rfl ?_ ?_
  · intro v w1 hh
    cases o <;> cases hh <;> rfl
  · intro X C hQ
    rw [f_X4_refuseIfNoRoom] at h
    refine g_iload_n C 2 rfl rfl dX4_refuseIfNoRoom_0 ?_
    refine g_aload_n C 1 rfl rfl dX4_refuseIfNoRoom_1 ?_
    refine g_X1_nowN C i_X4_refuseIfNoRoom_X1 (by decide +kernel) 12 rfl dX4_refuseIfNoRoom_2 ?_
    refine g_icmp_ge C (tgt := 18) dX4_refuseIfNoRoom_5 (by decide) (fun cd1 => ?_) (fun cd1 => ?_)
    · replace h := (if_pos cd1).symm.trans h
      refine g_aload_n C 1 rfl rfl dX4_refuseIfNoRoom_18 ?_
      refine g_X1_queueN C i_X4_refuseIfNoRoom_X1 (by decide +kernel) 12 rfl dX4_refuseIfNoRoom_19 ?_
      obtain ⟨g2, eg2, h⟩ := Option.bind_eq_some_iff.mp h
      refine g_cVr (As := []) (n9 := 0) (st := []) (w2 := (wB E a ++ (wX2 E a 2 lt ls lw lh lx ++ wX1 E a i nu z q u t c))) C (c_X3_size E (a (i + 1)) (a (i + 2)) 48 q g2 eg2) gX4_refuseIfNoRoom_X3_size rfl (by decide +kernel) rfl ⟨by decide, by decide, by decide, by decide, Nat.le_of_ble_eq_true rfl⟩ 0 rfl rfl (gSub.idx [13, 14] rfl rfl) rfl dX4_refuseIfNoRoom_22 ?_
      refine g_iload_n C 3 rfl rfl dX4_refuseIfNoRoom_25 ?_
      refine g_iadd C dX4_refuseIfNoRoom_26 ?_
      refine g_bipush C (v := 48) (by decide) dX4_refuseIfNoRoom_27 ?_
      refine g_icmp_le C (tgt := 42) dX4_refuseIfNoRoom_29 (by decide) (fun cd3 => ?_) (fun cd3 => ?_)
      · replace h := (if_pos cd3).symm.trans h
        refine g_aload_n C 0 rfl rfl dX4_refuseIfNoRoom_42 ?_
        refine g_X4_ledger C i_X4_refuseIfNoRoom_X4 m_X4_refuseIfNoRoom_1 0 rfl dX4_refuseIfNoRoom_43 ?_
        refine g_perm (ws2 := (wX2 E a 2 lt ls lw lh lx ++ (wB E a ++ wX1 E a i nu z q u t c))) (List.perm_append_comm_assoc _ _ _) ?_
        obtain ⟨g4, eg4, h⟩ := Option.bind_eq_some_iff.mp h
        refine g_cVr (As := []) (n9 := 0) (st := []) (w2 := (wX2 E a 2 lt ls lw lh lx ++ (wB E a ++ wX1 E a i nu z q u t c))) C (c_X2_size E a 2 lt ls lw lh lx g4 eg4) gX4_refuseIfNoRoom_X2_size rfl (by decide +kernel) rfl ⟨by decide, by decide, by decide, by decide, Nat.le_of_ble_eq_true rfl⟩ 0 rfl rfl (gSub.pre (S := (wB E a ++ wX1 E a i nu z q u t c)) rfl) rfl dX4_refuseIfNoRoom_46 ?_
        refine g_perm (ws2 := (wB E a ++ (wX2 E a 2 lt ls lw lh lx ++ wX1 E a i nu z q u t c))) (List.perm_append_comm_assoc _ _ _) ?_
        refine g_iload_n C 3 rfl rfl dX4_refuseIfNoRoom_49 ?_
        refine g_iadd C dX4_refuseIfNoRoom_50 ?_
        refine g_bipush C (v := 120) (by decide) dX4_refuseIfNoRoom_51 ?_
        refine g_icmp_le C (tgt := 67) dX4_refuseIfNoRoom_53 (by decide) (fun cd5 => ?_) (fun cd5 => ?_)
        · replace h := (if_pos cd5).symm.trans h
          obtain rfl := Option.some.inj h
          exact g_vret C hQ rfl ⟨by decide, by decide⟩ dX4_refuseIfNoRoom_67
        · replace h := (if_neg cd5).symm.trans h
          obtain rfl := Option.some.inj h
          exact g_throwSW C hQ rfl rfl tf_X4_refuseIfNoRoom_105 (text := "more than 120 bookings would have been made") (is9 := 261) (by decide +kernel) ⟨by decide, Nat.le_of_ble_eq_true rfl, by decide, by decide, by decide, by decide⟩ dX4_refuseIfNoRoom_56 dX4_refuseIfNoRoom_59 dX4_refuseIfNoRoom_60 dX4_refuseIfNoRoom_63 dX4_refuseIfNoRoom_66
      · replace h := (if_neg cd3).symm.trans h
        obtain rfl := Option.some.inj h
        exact g_throwS C hQ rfl rfl tf_X4_refuseIfNoRoom_105 (text := "more than 48 would wait in the house") (is9 := 144) (by decide +kernel) ⟨by decide, Nat.le_of_ble_eq_true rfl, by decide, by decide, by decide, by decide⟩ dX4_refuseIfNoRoom_32 dX4_refuseIfNoRoom_35 dX4_refuseIfNoRoom_36 dX4_refuseIfNoRoom_38 dX4_refuseIfNoRoom_41
    · replace h := (if_neg cd1).symm.trans h
      obtain rfl := Option.some.inj h
      exact g_throwS C hQ rfl rfl tf_X4_refuseIfNoRoom_105 (text := "the time is below the clock") (is9 := 107) (by decide +kernel) ⟨by decide, Nat.le_of_ble_eq_true rfl, by decide, by decide, by decide, by decide⟩ dX4_refuseIfNoRoom_8 dX4_refuseIfNoRoom_11 dX4_refuseIfNoRoom_12 dX4_refuseIfNoRoom_14 dX4_refuseIfNoRoom_17
abbrev r_X4_enqueue : Room := { frames := 4, cells := 0, slots := 0, locals := 86 }
theorem i_X4_enqueue_X1 : ∀ w ∈ wsX10, w ∈ wsX4_enqueue := by decide +kernel
theorem m_X4_enqueue_1 : Cond.fieldLink RX4 10 "Bookinghouse" "ledger" "LBookinghouse$Ledger;" ∈ wsX4_enqueue := by decide +kernel
theorem i_X4_enqueue_X4 : ∀ w ∈ wsX40, w ∈ wsX4_enqueue := by decide +kernel
theorem i_X4_enqueue_X2 : ∀ w ∈ wsX20, w ∈ wsX4_enqueue := by decide +kernel
set_option maxHeartbeats 4000000 in
set_option maxRecDepth 100000 in
theorem v_X4_enqueue_39 {E : gE} {X : gX} {a : Nat → Nat} {i : Nat} {lt : RS} {ls : RS} {lw : RS} {lh : RS} {lx : RS} {nu : Int32} {z : Int32} {q : RS} {u : RS} {t : RS} {c : RS} {v2 : Int32} {v3 : Int32} {o : (RS × RS × RS)} (C : Cx E X cX4_enqueue 4 RX4 wsX4_enqueue r_X4_enqueue (none) []) (hQ : gQ E X (wB E a ++ (wX2 E a 2 lt ls lw lh lx ++ wX1 E a i nu z q u t c)) r_X4_enqueue (gO (fun u9 => none) (fun u9 => (wB E a ++ (wX2 E a 2 lt ls lw u9.1 u9.2.1 ++ wX1 E a i nu z u9.2.2 u t c))) (.inr o))) (h : b_X4_enqueue_39 lh lx nu q v2 v3 = some o) : Gx E X (wB E a ++ (wX2 E a 2 lt ls lw lh lx ++ wX1 E a i nu z q u t c)) 4 [(0, .ref (a 0)), (1, .ref (a i)), (2, .int v2), (3, .int v3)] [] 39 0 0 := by
  rw [b_X4_enqueue_39] at h
  refine g_aload_n C 1 rfl rfl dX4_enqueue_39 ?_
  refine g_X1_queueN C i_X4_enqueue_X1 (by decide +kernel) 12 rfl dX4_enqueue_40 ?_
  refine g_iload_n C 3 rfl rfl dX4_enqueue_43 ?_
  refine g_iload_n C 2 rfl rfl dX4_enqueue_44 ?_
  obtain ⟨g1, eg1, h⟩ := Option.bind_eq_some_iff.mp h
  refine g_cVv (As := [.int v3, .int v2]) (n9 := 2) (st := []) (w2 := (wB E a ++ (wX2 E a 2 lt ls lw lh lx ++ wX1 E a i nu z g1 u t c))) C (c_X3_insert E (a (i + 1)) (a (i + 2)) 48 q v3 v2 g1 eg1) gX4_enqueue_X3_insert rfl (by decide +kernel) rfl ⟨by decide, by decide, by decide, by decide, Nat.le_of_ble_eq_true rfl⟩ 0 rfl rfl (gSub.idx [13, 14] rfl rfl) rfl dX4_enqueue_45 ?_
  refine g_aload_n C 0 rfl rfl dX4_enqueue_48 ?_
  refine g_X4_ledger C i_X4_enqueue_X4 m_X4_enqueue_1 0 rfl dX4_enqueue_49 ?_
  refine g_X2_homesN C i_X4_enqueue_X2 (by decide +kernel) 1 rfl dX4_enqueue_52 ?_
  refine g_iload_n C 2 rfl rfl dX4_enqueue_55 ?_
  refine g_aload_n C 1 rfl rfl dX4_enqueue_56 ?_
  refine g_X1_numberN C i_X4_enqueue_X1 (by decide +kernel) 12 rfl dX4_enqueue_57 ?_
  obtain ⟨g2, eg2, h⟩ := Option.bind_eq_some_iff.mp h
  refine g_cVv (As := [.int v2, .int nu]) (n9 := 2) (st := []) (w2 := (wB E a ++ (wX2 E a 2 lt ls lw g2 lx ++ wX1 E a i nu z g1 u t c))) C (c_X3_set E (a 9) (a 10) 120 lh v2 nu g2 eg2) gX4_enqueue_X3_set rfl (by decide +kernel) rfl ⟨by decide, by decide, by decide, by decide, Nat.le_of_ble_eq_true rfl⟩ 0 rfl rfl (gSub.idx [8, 9] rfl rfl) rfl dX4_enqueue_60 ?_
  refine g_aload_n C 0 rfl rfl dX4_enqueue_63 ?_
  refine g_X4_ledger C i_X4_enqueue_X4 m_X4_enqueue_1 0 rfl dX4_enqueue_64 ?_
  refine g_X2_statesN C i_X4_enqueue_X2 (by decide +kernel) 1 rfl dX4_enqueue_67 ?_
  refine g_iload_n C 2 rfl rfl dX4_enqueue_70 ?_
  refine g_iconst C (v := 0) (by decide) dX4_enqueue_71 ?_
  obtain ⟨g3, eg3, h⟩ := Option.bind_eq_some_iff.mp h
  refine g_cVv (As := [.int v2, .int 0]) (n9 := 2) (st := []) (w2 := (wB E a ++ (wX2 E a 2 lt ls lw g2 g3 ++ wX1 E a i nu z g1 u t c))) C (c_X3_set E (a 11) (a 12) 120 lx v2 0 g3 eg3) gX4_enqueue_X3_set rfl (by decide +kernel) rfl ⟨by decide, by decide, by decide, by decide, Nat.le_of_ble_eq_true rfl⟩ 0 rfl rfl (gSub.idx [10, 11] rfl rfl) rfl dX4_enqueue_72 ?_
  obtain rfl := Option.some.inj h
  exact g_vret C hQ rfl ⟨by decide, by decide⟩ dX4_enqueue_75
set_option maxHeartbeats 4000000 in
set_option maxRecDepth 100000 in
theorem w_X4_enqueue_8 {E : gE} {X : gX} {a : Nat → Nat} {i : Nat} {lt : RS} {ls : RS} {lw : RS} {lh : RS} {lx : RS} {nu : Int32} {z : Int32} {q : RS} {u : RS} {t : RS} {c : RS} {v2 : Int32} {o : (RS × RS × RS)} (C : Cx E X cX4_enqueue 4 RX4 wsX4_enqueue r_X4_enqueue (none) []) (hQ : gQ E X (wB E a ++ (wX2 E a 2 lt ls lw lh lx ++ wX1 E a i nu z q u t c)) r_X4_enqueue (gO (fun u9 => none) (fun u9 => (wB E a ++ (wX2 E a 2 lt ls lw u9.1 u9.2.1 ++ wX1 E a i nu z u9.2.2 u t c))) (.inr o))) : ∀ (F : Nat) (v3 : Int32), l_X4_enqueue_8 lt lh lx nu q v2 F v3 = some o → Gx E X (wB E a ++ (wX2 E a 2 lt ls lw lh lx ++ wX1 E a i nu z q u t c)) 4 [(0, .ref (a 0)), (1, .ref (a i)), (2, .int v2), (3, .int v3)] [] 8 0 0 := by
  intro F
  induction F with
  | zero => intro v3 h; exact absurd h (by simp [l_X4_enqueue_8])
  | succ F ih =>
    intro v3 h
    rw [l_X4_enqueue_8] at h
    refine g_iload_n C 3 rfl rfl dX4_enqueue_8 ?_
    refine g_if_le C (tgt := 39) dX4_enqueue_9 (by decide) (fun cd1 => ?_) (fun cd1 => ?_)
    · replace h := (if_pos cd1).symm.trans h
      exact v_X4_enqueue_39 (v2 := v2) (v3 := v3) C hQ h
    · replace h := (if_neg cd1).symm.trans h
      refine g_aload_n C 0 rfl rfl dX4_enqueue_12 ?_
      refine g_X4_ledger C i_X4_enqueue_X4 m_X4_enqueue_1 0 rfl dX4_enqueue_13 ?_
      refine g_iload_n C 2 rfl rfl dX4_enqueue_16 ?_
      refine g_aload_n C 1 rfl rfl dX4_enqueue_17 ?_
      refine g_X1_queueN C i_X4_enqueue_X1 (by decide +kernel) 12 rfl dX4_enqueue_18 ?_
      refine g_iload_n C 3 rfl rfl dX4_enqueue_21 ?_
      refine g_iconst C (v := 1) (by decide) dX4_enqueue_22 ?_
      refine g_isub C dX4_enqueue_23 ?_
      obtain ⟨g2, eg2, h⟩ := Option.bind_eq_some_iff.mp h
      refine g_cVr (As := [.int (v3 - 1)]) (n9 := 1) (st := [.int v2, .ref (a 2)]) (w2 := (wB E a ++ (wX2 E a 2 lt ls lw lh lx ++ wX1 E a i nu z q u t c))) C (c_X3_get E (a (i + 1)) (a (i + 2)) 48 q (v3 - 1) g2 eg2) gX4_enqueue_X3_get rfl (by decide +kernel) rfl ⟨by decide, by decide, by decide, by decide, Nat.le_of_ble_eq_true rfl⟩ 0 rfl rfl (gSub.idx [13, 14] rfl rfl) rfl dX4_enqueue_24 ?_
      refine g_perm (ws2 := (wX2 E a 2 lt ls lw lh lx ++ (wB E a ++ wX1 E a i nu z q u t c))) (List.perm_append_comm_assoc _ _ _) ?_
      obtain ⟨g3, eg3, h⟩ := Option.bind_eq_some_iff.mp h
      refine g_cVr (As := [.int v2, .int g2]) (n9 := 2) (st := []) (w2 := (wX2 E a 2 lt ls lw lh lx ++ (wB E a ++ wX1 E a i nu z q u t c))) C (c_X2_isAhead E a 2 lt ls lw lh lx v2 g2 g3 eg3) gX4_enqueue_X2_isAhead rfl (by decide +kernel) rfl ⟨by decide, by decide, by decide, by decide, Nat.le_of_ble_eq_true rfl⟩ 0 rfl rfl (gSub.pre (S := (wB E a ++ wX1 E a i nu z q u t c)) rfl) rfl dX4_enqueue_27 ?_
      refine g_perm (ws2 := (wB E a ++ (wX2 E a 2 lt ls lw lh lx ++ wX1 E a i nu z q u t c))) (List.perm_append_comm_assoc _ _ _) ?_
      refine g_if_eq C (tgt := 39) dX4_enqueue_30 (by decide) (fun cd4 => ?_) (fun cd4 => ?_)
      · replace h := (if_pos cd4).symm.trans h
        exact v_X4_enqueue_39 (v2 := v2) (v3 := v3) C hQ h
      · replace h := (if_neg cd4).symm.trans h
        refine g_iinc C (v := v3 + (-1)) 3 rfl (show v3 + Int32.ofInt (-1) = v3 + (-1) from congrArg (fun z9 => v3 + z9) (by decide)) (lv2 := [(3, .int (v3 + (-1))), (0, .ref (a 0)), (1, .ref (a i)), (2, .int v2)]) rfl (by decide) dX4_enqueue_33 ?_
        refine g_goto C (tgt := 8) dX4_enqueue_36 (by decide) ?_
        refine g_lv [1, 2, 3, 0] (lv2 := [(0, .ref (a 0)), (1, .ref (a i)), (2, .int v2), (3, .int (v3 + (-1)))]) rfl ?_
        exact ih (v3 + (-1)) h
set_option maxHeartbeats 4000000 in
set_option maxRecDepth 100000 in
theorem c_X4_enqueue (E : gE) (a : Nat → Nat) (i : Nat) (lt : RS) (ls : RS) (lw : RS) (lh : RS) (lx : RS) (nu : Int32) (z : Int32) (q : RS) (u : RS) (t : RS) (c : RS) (p2 : Int32) (o : (RS × RS × RS)) (h : f_X4_enqueue lt lh lx nu q p2 = some o) : Ct E yX4_enqueue wsX4_enqueue r_X4_enqueue [.ref (a 0), .ref (a i), .int p2] (wB E a ++ (wX2 E a 2 lt ls lw lh lx ++ wX1 E a i nu z q u t c)) (gO (fun u9 => none) (fun u9 => (wB E a ++ (wX2 E a 2 lt ls lw u9.1 u9.2.1 ++ wX1 E a i nu z u9.2.2 u t c))) (.inr o)) := by
  refine Ct.of (cc := cX4_enqueue) (nL := 4) (ret := (none)) (own := RX4) (by decide) rfl rfl (Nat.le_of_ble_eq_true rfl) rfl ?_ ?_
  · intro v w1 hh
    cases hh; rfl
  · intro X C hQ
    rw [f_X4_enqueue] at h
    refine g_aload_n C 1 rfl rfl dX4_enqueue_0 ?_
    refine g_X1_queueN C i_X4_enqueue_X1 (by decide +kernel) 12 rfl dX4_enqueue_1 ?_
    obtain ⟨g1, eg1, h⟩ := Option.bind_eq_some_iff.mp h
    refine g_cVr (As := []) (n9 := 0) (st := []) (w2 := (wB E a ++ (wX2 E a 2 lt ls lw lh lx ++ wX1 E a i nu z q u t c))) C (c_X3_size E (a (i + 1)) (a (i + 2)) 48 q g1 eg1) gX4_enqueue_X3_size rfl (by decide +kernel) rfl ⟨by decide, by decide, by decide, by decide, Nat.le_of_ble_eq_true rfl⟩ 0 rfl rfl (gSub.idx [13, 14] rfl rfl) rfl dX4_enqueue_4 ?_
    refine g_istore_n C (lv2 := [(3, .int g1), (0, .ref (a 0)), (1, .ref (a i)), (2, .int p2)]) rfl (by decide) rfl dX4_enqueue_7 ?_
    refine g_lv [1, 2, 3, 0] (lv2 := [(0, .ref (a 0)), (1, .ref (a i)), (2, .int p2), (3, .int g1)]) rfl ?_
    exact w_X4_enqueue_8 (v2 := p2) C hQ FU g1 h
abbrev r_X4_callOffPlace : Room := { frames := 3, cells := 0, slots := 0, locals := 82 }
theorem m_X4_callOffPlace_0 : Cond.fieldLink RX4 10 "Bookinghouse" "ledger" "LBookinghouse$Ledger;" ∈ wsX4_callOffPlace := by decide +kernel
theorem i_X4_callOffPlace_X4 : ∀ w ∈ wsX40, w ∈ wsX4_callOffPlace := by decide +kernel
theorem i_X4_callOffPlace_X2 : ∀ w ∈ wsX20, w ∈ wsX4_callOffPlace := by decide +kernel
theorem i_X4_callOffPlace_X1 : ∀ w ∈ wsX10, w ∈ wsX4_callOffPlace := by decide +kernel
set_option maxHeartbeats 4000000 in
set_option maxRecDepth 100000 in
theorem c_X4_callOffPlace (E : gE) (a : Nat → Nat) (i : Nat) (lt : RS) (ls : RS) (lw : RS) (lh : RS) (lx : RS) (nu : Int32) (z : Int32) (q : RS) (u : RS) (t : RS) (c : RS) (p2 : Int32) (o : (RS × RS)) (h : f_X4_callOffPlace lx q p2 = some o) : Ct E yX4_callOffPlace wsX4_callOffPlace r_X4_callOffPlace [.ref (a 0), .ref (a i), .int p2] (wB E a ++ (wX2 E a 2 lt ls lw lh lx ++ wX1 E a i nu z q u t c)) (gO (fun u9 => none) (fun u9 => (wB E a ++ (wX2 E a 2 lt ls lw lh u9.1 ++ wX1 E a i nu z u9.2 u t c))) (.inr o)) := by
  refine Ct.of (cc := cX4_callOffPlace) (nL := 3) (ret := (none)) (own := RX4) (by decide) rfl rfl (Nat.le_of_ble_eq_true rfl) rfl ?_ ?_
  · intro v w1 hh
    cases hh; rfl
  · intro X C hQ
    rw [f_X4_callOffPlace] at h
    refine g_aload_n C 0 rfl rfl dX4_callOffPlace_0 ?_
    refine g_X4_ledger C i_X4_callOffPlace_X4 m_X4_callOffPlace_0 0 rfl dX4_callOffPlace_1 ?_
    refine g_X2_statesN C i_X4_callOffPlace_X2 (by decide +kernel) 1 rfl dX4_callOffPlace_4 ?_
    refine g_aload_n C 1 rfl rfl dX4_callOffPlace_7 ?_
    refine g_X1_queueN C i_X4_callOffPlace_X1 (by decide +kernel) 12 rfl dX4_callOffPlace_8 ?_
    refine g_iload_n C 2 rfl rfl dX4_callOffPlace_11 ?_
    obtain ⟨g1, eg1, h⟩ := Option.bind_eq_some_iff.mp h
    refine g_cVr (As := [.int p2]) (n9 := 1) (st := [.ref (a 11)]) (w2 := (wB E a ++ (wX2 E a 2 lt ls lw lh lx ++ wX1 E a i nu z g1.2 u t c))) C (c_X3_remove E (a (i + 1)) (a (i + 2)) 48 q p2 g1 eg1) gX4_callOffPlace_X3_remove rfl (by decide +kernel) rfl ⟨by decide, by decide, by decide, by decide, Nat.le_of_ble_eq_true rfl⟩ 0 rfl rfl (gSub.idx [13, 14] rfl rfl) rfl dX4_callOffPlace_12 ?_
    refine g_iconst C (v := 2) (by decide) dX4_callOffPlace_15 ?_
    obtain ⟨g2, eg2, h⟩ := Option.bind_eq_some_iff.mp h
    refine g_cVv (As := [.int g1.1, .int 2]) (n9 := 2) (st := []) (w2 := (wB E a ++ (wX2 E a 2 lt ls lw lh g2 ++ wX1 E a i nu z g1.2 u t c))) C (c_X3_set E (a 11) (a 12) 120 lx g1.1 2 g2 eg2) gX4_callOffPlace_X3_set rfl (by decide +kernel) rfl ⟨by decide, by decide, by decide, by decide, Nat.le_of_ble_eq_true rfl⟩ 0 rfl rfl (gSub.idx [10, 11] rfl rfl) rfl dX4_callOffPlace_16 ?_
    obtain rfl := Option.some.inj h
    exact g_vret C hQ rfl ⟨by decide, by decide⟩ dX4_callOffPlace_19
abbrev r_X4_waitingAheadOf : Room := { frames := 3, cells := 0, slots := 0, locals := 62 }
theorem i_X4_waitingAheadOf_X1 : ∀ w ∈ wsX10, w ∈ wsX4_waitingAheadOf := by decide +kernel
theorem m_X4_waitingAheadOf_1 : Cond.fieldLink RX4 10 "Bookinghouse" "ledger" "LBookinghouse$Ledger;" ∈ wsX4_waitingAheadOf := by decide +kernel
theorem i_X4_waitingAheadOf_X4 : ∀ w ∈ wsX40, w ∈ wsX4_waitingAheadOf := by decide +kernel
theorem i_X4_waitingAheadOf_X2 : ∀ w ∈ wsX20, w ∈ wsX4_waitingAheadOf := by decide +kernel
set_option maxHeartbeats 4000000 in
set_option maxRecDepth 100000 in
theorem w_X4_waitingAheadOf_2 {E : gE} {X : gX} {a : Nat → Nat} {i : Nat} {lt : RS} {ls : RS} {lw : RS} {lh : RS} {lx : RS} {nu : Int32} {z : Int32} {q : RS} {u : RS} {t : RS} {c : RS} {v2 : Int32} {o : (Int32)} (C : Cx E X cX4_waitingAheadOf 4 RX4 wsX4_waitingAheadOf r_X4_waitingAheadOf ((some .int)) []) (hQ : gQ E X (wB E a ++ (wX2 E a 2 lt ls lw lh lx ++ wX1 E a i nu z q u t c)) r_X4_waitingAheadOf (gO (fun u9 => some (.int u9)) (fun u9 => (wB E a ++ (wX2 E a 2 lt ls lw lh lx ++ wX1 E a i nu z q u t c))) (.inr o))) : ∀ (F : Nat) (v3 : Int32), l_X4_waitingAheadOf_2 lt q v2 F v3 = some o → Gx E X (wB E a ++ (wX2 E a 2 lt ls lw lh lx ++ wX1 E a i nu z q u t c)) 4 [(0, .ref (a 0)), (1, .ref (a i)), (2, .int v2), (3, .int v3)] [] 2 0 0 := by
  intro F
  induction F with
  | zero => intro v3 h; exact absurd h (by simp [l_X4_waitingAheadOf_2])
  | succ F ih =>
    intro v3 h
    rw [l_X4_waitingAheadOf_2] at h
    refine g_iload_n C 3 rfl rfl dX4_waitingAheadOf_2 ?_
    refine g_aload_n C 1 rfl rfl dX4_waitingAheadOf_3 ?_
    refine g_X1_queueN C i_X4_waitingAheadOf_X1 (by decide +kernel) 12 rfl dX4_waitingAheadOf_4 ?_
    obtain ⟨g1, eg1, h⟩ := Option.bind_eq_some_iff.mp h
    refine g_cVr (As := []) (n9 := 0) (st := [.int v3]) (w2 := (wB E a ++ (wX2 E a 2 lt ls lw lh lx ++ wX1 E a i nu z q u t c))) C (c_X3_size E (a (i + 1)) (a (i + 2)) 48 q g1 eg1) gX4_waitingAheadOf_X3_size rfl (by decide +kernel) rfl ⟨by decide, by decide, by decide, by decide, Nat.le_of_ble_eq_true rfl⟩ 0 rfl rfl (gSub.idx [13, 14] rfl rfl) rfl dX4_waitingAheadOf_7 ?_
    refine g_icmp_ge C (tgt := 41) dX4_waitingAheadOf_10 (by decide) (fun cd2 => ?_) (fun cd2 => ?_)
    · replace h := (if_pos cd2).symm.trans h
      refine g_iload_n C 3 rfl rfl dX4_waitingAheadOf_41 ?_
      obtain rfl := Option.some.inj h
      exact g_iret C hQ rfl ⟨by decide, by decide⟩ dX4_waitingAheadOf_42
    · replace h := (if_neg cd2).symm.trans h
      refine g_aload_n C 0 rfl rfl dX4_waitingAheadOf_13 ?_
      refine g_X4_ledger C i_X4_waitingAheadOf_X4 m_X4_waitingAheadOf_1 0 rfl dX4_waitingAheadOf_14 ?_
      refine g_X2_timesN C i_X4_waitingAheadOf_X2 (by decide +kernel) 1 rfl dX4_waitingAheadOf_17 ?_
      refine g_aload_n C 1 rfl rfl dX4_waitingAheadOf_20 ?_
      refine g_X1_queueN C i_X4_waitingAheadOf_X1 (by decide +kernel) 12 rfl dX4_waitingAheadOf_21 ?_
      refine g_iload_n C 3 rfl rfl dX4_waitingAheadOf_24 ?_
      obtain ⟨g3, eg3, h⟩ := Option.bind_eq_some_iff.mp h
      refine g_cVr (As := [.int v3]) (n9 := 1) (st := [.ref (a 3)]) (w2 := (wB E a ++ (wX2 E a 2 lt ls lw lh lx ++ wX1 E a i nu z q u t c))) C (c_X3_get E (a (i + 1)) (a (i + 2)) 48 q v3 g3 eg3) gX4_waitingAheadOf_X3_get rfl (by decide +kernel) rfl ⟨by decide, by decide, by decide, by decide, Nat.le_of_ble_eq_true rfl⟩ 0 rfl rfl (gSub.idx [13, 14] rfl rfl) rfl dX4_waitingAheadOf_25 ?_
      obtain ⟨g4, eg4, h⟩ := Option.bind_eq_some_iff.mp h
      refine g_cVr (As := [.int g3]) (n9 := 1) (st := []) (w2 := (wB E a ++ (wX2 E a 2 lt ls lw lh lx ++ wX1 E a i nu z q u t c))) C (c_X3_get E (a 3) (a 4) 120 lt g3 g4 eg4) gX4_waitingAheadOf_X3_get rfl (by decide +kernel) rfl ⟨by decide, by decide, by decide, by decide, Nat.le_of_ble_eq_true rfl⟩ 0 rfl rfl (gSub.idx [2, 3] rfl rfl) rfl dX4_waitingAheadOf_28 ?_
      refine g_iload_n C 2 rfl rfl dX4_waitingAheadOf_31 ?_
      refine g_icmp_ge C (tgt := 41) dX4_waitingAheadOf_32 (by decide) (fun cd5 => ?_) (fun cd5 => ?_)
      · replace h := (if_pos cd5).symm.trans h
        refine g_iload_n C 3 rfl rfl dX4_waitingAheadOf_41 ?_
        obtain rfl := Option.some.inj h
        exact g_iret C hQ rfl ⟨by decide, by decide⟩ dX4_waitingAheadOf_42
      · replace h := (if_neg cd5).symm.trans h
        refine g_iinc C (v := v3 + 1) 3 rfl rfl (lv2 := [(3, .int (v3 + 1)), (0, .ref (a 0)), (1, .ref (a i)), (2, .int v2)]) rfl (by decide) dX4_waitingAheadOf_35 ?_
        refine g_goto C (tgt := 2) dX4_waitingAheadOf_38 (by decide) ?_
        refine g_lv [1, 2, 3, 0] (lv2 := [(0, .ref (a 0)), (1, .ref (a i)), (2, .int v2), (3, .int (v3 + 1))]) rfl ?_
        exact ih (v3 + 1) h
set_option maxHeartbeats 4000000 in
set_option maxRecDepth 100000 in
theorem c_X4_waitingAheadOf (E : gE) (a : Nat → Nat) (i : Nat) (lt : RS) (ls : RS) (lw : RS) (lh : RS) (lx : RS) (nu : Int32) (z : Int32) (q : RS) (u : RS) (t : RS) (c : RS) (p2 : Int32) (o : (Int32)) (h : f_X4_waitingAheadOf lt q p2 = some o) : Ct E yX4_waitingAheadOf wsX4_waitingAheadOf r_X4_waitingAheadOf [.ref (a 0), .ref (a i), .int p2] (wB E a ++ (wX2 E a 2 lt ls lw lh lx ++ wX1 E a i nu z q u t c)) (gO (fun u9 => some (.int u9)) (fun u9 => (wB E a ++ (wX2 E a 2 lt ls lw lh lx ++ wX1 E a i nu z q u t c))) (.inr o)) := by
  refine Ct.of (cc := cX4_waitingAheadOf) (nL := 4) (ret := ((some .int))) (own := RX4) (by decide) rfl rfl (Nat.le_of_ble_eq_true rfl) rfl ?_ ?_
  · intro v w1 hh
    cases hh; rfl
  · intro X C hQ
    rw [f_X4_waitingAheadOf] at h
    refine g_iconst C (v := 0) (by decide) dX4_waitingAheadOf_0 ?_
    refine g_istore_n C (lv2 := [(3, .int 0), (0, .ref (a 0)), (1, .ref (a i)), (2, .int p2)]) rfl (by decide) rfl dX4_waitingAheadOf_1 ?_
    refine g_lv [1, 2, 3, 0] (lv2 := [(0, .ref (a 0)), (1, .ref (a i)), (2, .int p2), (3, .int 0)]) rfl ?_
    exact w_X4_waitingAheadOf_2 (v2 := p2) C hQ FU 0 h
abbrev r_X4_cameBehind : Room := { frames := 3, cells := 0, slots := 0, locals := 62 }
theorem i_X4_cameBehind_X1 : ∀ w ∈ wsX10, w ∈ wsX4_cameBehind := by decide +kernel
theorem m_X4_cameBehind_1 : Cond.fieldLink RX4 10 "Bookinghouse" "ledger" "LBookinghouse$Ledger;" ∈ wsX4_cameBehind := by decide +kernel
theorem i_X4_cameBehind_X4 : ∀ w ∈ wsX40, w ∈ wsX4_cameBehind := by decide +kernel
theorem i_X4_cameBehind_X2 : ∀ w ∈ wsX20, w ∈ wsX4_cameBehind := by decide +kernel
set_option maxHeartbeats 4000000 in
set_option maxRecDepth 100000 in
theorem w_X4_cameBehind_8 {E : gE} {X : gX} {a : Nat → Nat} {i : Nat} {lt : RS} {ls : RS} {lw : RS} {lh : RS} {lx : RS} {nu : Int32} {z : Int32} {q : RS} {u : RS} {t : RS} {c : RS} {v2 : Int32} {o : (Int32)} (C : Cx E X cX4_cameBehind 4 RX4 wsX4_cameBehind r_X4_cameBehind ((some .int)) []) (hQ : gQ E X (wB E a ++ (wX2 E a 2 lt ls lw lh lx ++ wX1 E a i nu z q u t c)) r_X4_cameBehind (gO (fun u9 => some (.int u9)) (fun u9 => (wB E a ++ (wX2 E a 2 lt ls lw lh lx ++ wX1 E a i nu z q u t c))) (.inr o))) : ∀ (F : Nat) (v3 : Int32), l_X4_cameBehind_8 lt u v2 F v3 = some o → Gx E X (wB E a ++ (wX2 E a 2 lt ls lw lh lx ++ wX1 E a i nu z q u t c)) 4 [(0, .ref (a 0)), (1, .ref (a i)), (2, .int v2), (3, .int v3)] [] 8 0 0 := by
  intro F
  induction F with
  | zero => intro v3 h; exact absurd h (by simp [l_X4_cameBehind_8])
  | succ F ih =>
    intro v3 h
    rw [l_X4_cameBehind_8] at h
    refine g_iload_n C 3 rfl rfl dX4_cameBehind_8 ?_
    refine g_if_le C (tgt := 42) dX4_cameBehind_9 (by decide) (fun cd1 => ?_) (fun cd1 => ?_)
    · replace h := (if_pos cd1).symm.trans h
      refine g_aload_n C 1 rfl rfl dX4_cameBehind_42 ?_
      refine g_X1_pastN C i_X4_cameBehind_X1 (by decide +kernel) 12 rfl dX4_cameBehind_43 ?_
      obtain ⟨g2, eg2, h⟩ := Option.bind_eq_some_iff.mp h
      refine g_cVr (As := []) (n9 := 0) (st := []) (w2 := (wB E a ++ (wX2 E a 2 lt ls lw lh lx ++ wX1 E a i nu z q u t c))) C (c_X3_size E (a (i + 3)) (a (i + 4)) 120 u g2 eg2) gX4_cameBehind_X3_size rfl (by decide +kernel) rfl ⟨by decide, by decide, by decide, by decide, Nat.le_of_ble_eq_true rfl⟩ 0 rfl rfl (gSub.idx [15, 16] rfl rfl) rfl dX4_cameBehind_46 ?_
      refine g_iload_n C 3 rfl rfl dX4_cameBehind_49 ?_
      refine g_isub C dX4_cameBehind_50 ?_
      obtain rfl := Option.some.inj h
      exact g_iret C hQ rfl ⟨by decide, by decide⟩ dX4_cameBehind_51
    · replace h := (if_neg cd1).symm.trans h
      refine g_aload_n C 0 rfl rfl dX4_cameBehind_12 ?_
      refine g_X4_ledger C i_X4_cameBehind_X4 m_X4_cameBehind_1 0 rfl dX4_cameBehind_13 ?_
      refine g_X2_timesN C i_X4_cameBehind_X2 (by decide +kernel) 1 rfl dX4_cameBehind_16 ?_
      refine g_aload_n C 1 rfl rfl dX4_cameBehind_19 ?_
      refine g_X1_pastN C i_X4_cameBehind_X1 (by decide +kernel) 12 rfl dX4_cameBehind_20 ?_
      refine g_iload_n C 3 rfl rfl dX4_cameBehind_23 ?_
      refine g_iconst C (v := 1) (by decide) dX4_cameBehind_24 ?_
      refine g_isub C dX4_cameBehind_25 ?_
      obtain ⟨g3, eg3, h⟩ := Option.bind_eq_some_iff.mp h
      refine g_cVr (As := [.int (v3 - 1)]) (n9 := 1) (st := [.ref (a 3)]) (w2 := (wB E a ++ (wX2 E a 2 lt ls lw lh lx ++ wX1 E a i nu z q u t c))) C (c_X3_get E (a (i + 3)) (a (i + 4)) 120 u (v3 - 1) g3 eg3) gX4_cameBehind_X3_get rfl (by decide +kernel) rfl ⟨by decide, by decide, by decide, by decide, Nat.le_of_ble_eq_true rfl⟩ 0 rfl rfl (gSub.idx [15, 16] rfl rfl) rfl dX4_cameBehind_26 ?_
      obtain ⟨g4, eg4, h⟩ := Option.bind_eq_some_iff.mp h
      refine g_cVr (As := [.int g3]) (n9 := 1) (st := []) (w2 := (wB E a ++ (wX2 E a 2 lt ls lw lh lx ++ wX1 E a i nu z q u t c))) C (c_X3_get E (a 3) (a 4) 120 lt g3 g4 eg4) gX4_cameBehind_X3_get rfl (by decide +kernel) rfl ⟨by decide, by decide, by decide, by decide, Nat.le_of_ble_eq_true rfl⟩ 0 rfl rfl (gSub.idx [2, 3] rfl rfl) rfl dX4_cameBehind_29 ?_
      refine g_iload_n C 2 rfl rfl dX4_cameBehind_32 ?_
      refine g_icmp_le C (tgt := 42) dX4_cameBehind_33 (by decide) (fun cd5 => ?_) (fun cd5 => ?_)
      · replace h := (if_pos cd5).symm.trans h
        refine g_aload_n C 1 rfl rfl dX4_cameBehind_42 ?_
        refine g_X1_pastN C i_X4_cameBehind_X1 (by decide +kernel) 12 rfl dX4_cameBehind_43 ?_
        obtain ⟨g6, eg6, h⟩ := Option.bind_eq_some_iff.mp h
        refine g_cVr (As := []) (n9 := 0) (st := []) (w2 := (wB E a ++ (wX2 E a 2 lt ls lw lh lx ++ wX1 E a i nu z q u t c))) C (c_X3_size E (a (i + 3)) (a (i + 4)) 120 u g6 eg6) gX4_cameBehind_X3_size rfl (by decide +kernel) rfl ⟨by decide, by decide, by decide, by decide, Nat.le_of_ble_eq_true rfl⟩ 0 rfl rfl (gSub.idx [15, 16] rfl rfl) rfl dX4_cameBehind_46 ?_
        refine g_iload_n C 3 rfl rfl dX4_cameBehind_49 ?_
        refine g_isub C dX4_cameBehind_50 ?_
        obtain rfl := Option.some.inj h
        exact g_iret C hQ rfl ⟨by decide, by decide⟩ dX4_cameBehind_51
      · replace h := (if_neg cd5).symm.trans h
        refine g_iinc C (v := v3 + (-1)) 3 rfl (show v3 + Int32.ofInt (-1) = v3 + (-1) from congrArg (fun z9 => v3 + z9) (by decide)) (lv2 := [(3, .int (v3 + (-1))), (0, .ref (a 0)), (1, .ref (a i)), (2, .int v2)]) rfl (by decide) dX4_cameBehind_36 ?_
        refine g_goto C (tgt := 8) dX4_cameBehind_39 (by decide) ?_
        refine g_lv [1, 2, 3, 0] (lv2 := [(0, .ref (a 0)), (1, .ref (a i)), (2, .int v2), (3, .int (v3 + (-1)))]) rfl ?_
        exact ih (v3 + (-1)) h
set_option maxHeartbeats 4000000 in
set_option maxRecDepth 100000 in
theorem c_X4_cameBehind (E : gE) (a : Nat → Nat) (i : Nat) (lt : RS) (ls : RS) (lw : RS) (lh : RS) (lx : RS) (nu : Int32) (z : Int32) (q : RS) (u : RS) (t : RS) (c : RS) (p2 : Int32) (o : (Int32)) (h : f_X4_cameBehind lt u p2 = some o) : Ct E yX4_cameBehind wsX4_cameBehind r_X4_cameBehind [.ref (a 0), .ref (a i), .int p2] (wB E a ++ (wX2 E a 2 lt ls lw lh lx ++ wX1 E a i nu z q u t c)) (gO (fun u9 => some (.int u9)) (fun u9 => (wB E a ++ (wX2 E a 2 lt ls lw lh lx ++ wX1 E a i nu z q u t c))) (.inr o)) := by
  refine Ct.of (cc := cX4_cameBehind) (nL := 4) (ret := ((some .int))) (own := RX4) (by decide) rfl rfl (Nat.le_of_ble_eq_true rfl) rfl ?_ ?_
  · intro v w1 hh
    cases hh; rfl
  · intro X C hQ
    rw [f_X4_cameBehind] at h
    refine g_aload_n C 1 rfl rfl dX4_cameBehind_0 ?_
    refine g_X1_pastN C i_X4_cameBehind_X1 (by decide +kernel) 12 rfl dX4_cameBehind_1 ?_
    obtain ⟨g1, eg1, h⟩ := Option.bind_eq_some_iff.mp h
    refine g_cVr (As := []) (n9 := 0) (st := []) (w2 := (wB E a ++ (wX2 E a 2 lt ls lw lh lx ++ wX1 E a i nu z q u t c))) C (c_X3_size E (a (i + 3)) (a (i + 4)) 120 u g1 eg1) gX4_cameBehind_X3_size rfl (by decide +kernel) rfl ⟨by decide, by decide, by decide, by decide, Nat.le_of_ble_eq_true rfl⟩ 0 rfl rfl (gSub.idx [15, 16] rfl rfl) rfl dX4_cameBehind_4 ?_
    refine g_istore_n C (lv2 := [(3, .int g1), (0, .ref (a 0)), (1, .ref (a i)), (2, .int p2)]) rfl (by decide) rfl dX4_cameBehind_7 ?_
    refine g_lv [1, 2, 3, 0] (lv2 := [(0, .ref (a 0)), (1, .ref (a i)), (2, .int p2), (3, .int g1)]) rfl ?_
    exact w_X4_cameBehind_8 (v2 := p2) C hQ FU g1 h
