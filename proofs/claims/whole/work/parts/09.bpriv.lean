/-! bpriv: pure functions, printed by wip/whole/gen.py out of the bytecode, and their walks -/
def f_X4_isIn (p0 : Int32) (p1 : Int32) (p2 : Int32) : Option (Bool) := (if p0 < p1 then some false else (if p2 < p0 then some false else some true))
def f_X4_isTime (p0 : Int32) : Option (Bool) := ((f_X4_isIn p0 0 9999).bind fun a1 => some a1)
def f_X4_isSpan (p0 : Int32) : Option (Bool) := ((f_X4_isIn p0 0 500).bind fun a1 => some a1)
def f_X4_isWeight (p0 : Int32) : Option (Bool) := ((f_X4_isIn p0 1 9).bind fun a1 => some a1)
def f_X4_refuseIfNoTime (p0 : Int32) : Option (String ⊕ (Unit)) := ((f_X4_isTime p0).bind fun a1 => (if (bI a1) = 0 then some (.inl "java/lang/IllegalArgumentException") else some (.inr ())))
def f_X4_refuseIfTurned (p0 : Int32) (p1 : Int32) : Option (String ⊕ (Unit)) := (if p0 ≤ p1 then some (.inr ()) else some (.inl "java/lang/IllegalArgumentException"))
def f_X4_refuseIfSame (p0 : Int32) (p1 : Int32) : Option (String ⊕ (Unit)) := (if p0 = p1 then some (.inl "java/lang/IllegalStateException") else some (.inr ()))
def f_X4_itemAt (N : Nat) (r : RS) (p1 : Int32) : Option (String ⊕ (Int32)) := ((f_X3_holds N r p1).bind fun a1 => (if (bI a1) = 0 then some (.inl "java/util/NoSuchElementException") else ((f_X3_get N r p1).bind fun a3 => some (.inr a3))))
def l_X4_withRow_15 (N : Nat) (r : RS) : Nat → Int64 → Int32 → Option (Int64)
  | 0, _, _ => none
  | F + 1, v3, v5 => ((f_X3_size r).bind fun a1 => (if a1 ≤ v5 then some v3 else ((f_X3_get N r v5).bind fun a3 => l_X4_withRow_15 N r F ((31 * v3) + a3.toInt64) (v5 + 1))))
def f_X4_withRow (N : Nat) (r : RS) (p0 : Int64) : Option (Int64) := ((f_X3_size r).bind fun a1 => l_X4_withRow_15 N r FU ((31 * p0) + a1.toInt64) 0)
def l_X4_withHouse_33 (t : RS) (c : RS) : Nat → Int64 → Int32 → Option (Int64)
  | 0, _, _ => none
  | F + 1, v3, v5 => ((f_X3_size t).bind fun a1 => (if a1 ≤ v5 then some v3 else ((f_X3_get 240 t v5).bind fun a3 => ((f_X3_get 240 c v5).bind fun a4 => l_X4_withHouse_33 t c F ((31 * ((31 * v3) + a3.toInt64)) + a4.toInt64) (v5 + 1)))))
def f_X4_withHouse (z : Int32) (q : RS) (u : RS) (t : RS) (c : RS) (p0 : Int64) : Option (Int64) := ((f_X4_withRow 48 q ((31 * p0) + z.toInt64)).bind fun a1 => ((f_X4_withRow 120 u a1).bind fun a2 => l_X4_withHouse_33 t c FU a2 0))
def f_X4_refuseIfNoRoom (lt : RS) (z : Int32) (q : RS) (p2 : Int32) (p3 : Int32) : Option (String ⊕ (Unit)) := (if z ≤ p2 then ((f_X3_size q).bind fun a2 => (if (a2 + p3) ≤ 48 then ((f_X2_size lt).bind fun a4 => (if (a4 + p3) ≤ 120 then some (.inr ()) else some (.inl "java/lang/IllegalStateException"))) else some (.inl "java/lang/IllegalStateException"))) else some (.inl "java/lang/IllegalStateException"))
def b_X4_enqueue_39 (lh : RS) (lx : RS) (nu : Int32) (q : RS) (v2 : Int32) (v3 : Int32) : Option (RS × RS × RS) := ((f_X3_insert 48 q v3 v2).bind fun a1 => ((f_X3_set 120 lh v2 nu).bind fun a2 => ((f_X3_set 120 lx v2 0).bind fun a3 => some (a2, a3, a1))))
def l_X4_enqueue_8 (lt : RS) (lh : RS) (lx : RS) (nu : Int32) (q : RS) (v2 : Int32) : Nat → Int32 → Option (RS × RS × RS)
  | 0, _ => none
  | F + 1, v3 => (if v3 ≤ 0 then b_X4_enqueue_39 lh lx nu q v2 v3 else ((f_X3_get 48 q (v3 - 1)).bind fun a2 => ((f_X2_isAhead lt v2 a2).bind fun a3 => (if (bI a3) = 0 then b_X4_enqueue_39 lh lx nu q v2 v3 else l_X4_enqueue_8 lt lh lx nu q v2 F (v3 + (-1))))))
def f_X4_enqueue (lt : RS) (lh : RS) (lx : RS) (nu : Int32) (q : RS) (p2 : Int32) : Option (RS × RS × RS) := ((f_X3_size q).bind fun a1 => l_X4_enqueue_8 lt lh lx nu q p2 FU a1)
def f_X4_make (lt : RS) (ls : RS) (lw : RS) (lh : RS) (lx : RS) (nu : Int32) (q : RS) (p2 : Int32) (p3 : Int32) (p4 : Int32) : Option (Int32 × RS × RS × RS × RS × RS × RS) := ((f_X2_enter lt ls lw lh lx p2 p3 p4).bind fun a1 => ((f_X4_enqueue a1.2.1 a1.2.2.2.2.1 a1.2.2.2.2.2 nu q a1.1).bind fun a2 => some (a1.1, a1.2.1, a1.2.2.1, a1.2.2.2.1, a2.1, a2.2.1, a2.2.2)))
def f_X4_callOffPlace (lx : RS) (q : RS) (p2 : Int32) : Option (RS × RS) := ((f_X3_remove 48 q p2).bind fun a1 => ((f_X3_set 120 lx a1.1 2).bind fun a2 => some (a2, a1.2)))
def f_X4_letFirstCome (lt : RS) (ls : RS) (lw : RS) (lx : RS) (q : RS) (u : RS) (t : RS) (c : RS) : Option (Int32 × RS × Int32 × RS × RS × RS × RS) := ((f_X3_remove 48 q 0).bind fun a1 => ((f_X3_add 120 u a1.1).bind fun a2 => ((f_X3_get 120 lt a1.1).bind fun a3 => ((f_X2_end lt ls a1.1).bind fun a4 => ((f_X3_get 120 lw a1.1).bind fun a5 => ((f_X0_enter t c a3 a4 a5).bind fun a6 => ((f_X3_set 120 lx a1.1 1).bind fun a7 => some (a1.1, a7, a3, a1.2, a2, a6.1, a6.2))))))))
def f_X4_bringLastBack (lt : RS) (ls : RS) (lw : RS) (lh : RS) (lx : RS) (nu : Int32) (q : RS) (u : RS) (t : RS) (c : RS) : Option (RS × RS × RS × RS × RS × RS) := ((f_X3_size u).bind fun a1 => ((f_X3_remove 120 u (a1 - 1)).bind fun a2 => ((f_X3_get 120 lt a2.1).bind fun a3 => ((f_X2_end lt ls a2.1).bind fun a4 => ((f_X3_get 120 lw a2.1).bind fun a5 => ((f_X0_enter t c a3 a4 (-a5)).bind fun a6 => ((f_X4_enqueue lt lh lx nu q a2.1).bind fun a7 => some (a7.1, a7.2.1, a7.2.2, a2.2, a6.1, a6.2))))))))
def l_X4_waitingAheadOf_2 (lt : RS) (q : RS) (v2 : Int32) : Nat → Int32 → Option (Int32)
  | 0, _ => none
  | F + 1, v3 => ((f_X3_size q).bind fun a1 => (if a1 ≤ v3 then some v3 else ((f_X3_get 48 q v3).bind fun a3 => ((f_X3_get 120 lt a3).bind fun a4 => (if v2 ≤ a4 then some v3 else l_X4_waitingAheadOf_2 lt q v2 F (v3 + 1))))))
def f_X4_waitingAheadOf (lt : RS) (q : RS) (p2 : Int32) : Option (Int32) := l_X4_waitingAheadOf_2 lt q p2 FU 0
def l_X4_cameBehind_8 (lt : RS) (u : RS) (v2 : Int32) : Nat → Int32 → Option (Int32)
  | 0, _ => none
  | F + 1, v3 => (if v3 ≤ 0 then ((f_X3_size u).bind fun a2 => some (a2 - v3)) else ((f_X3_get 120 u (v3 - 1)).bind fun a3 => ((f_X3_get 120 lt a3).bind fun a4 => (if a4 ≤ v2 then ((f_X3_size u).bind fun a6 => some (a6 - v3)) else l_X4_cameBehind_8 lt u v2 F (v3 + (-1))))))
def f_X4_cameBehind (lt : RS) (u : RS) (p2 : Int32) : Option (Int32) := ((f_X3_size u).bind fun a1 => l_X4_cameBehind_8 lt u p2 FU a1)
def l_X4_isSplitByClock_68 (lt : RS) (lh : RS) (nu : Int32) (z : Int32) (q : RS) (u : RS) : Nat → Int32 → Option (Bool)
  | 0, _ => none
  | F + 1, v2 => ((f_X3_size u).bind fun a1 => (if a1 ≤ v2 then ((f_X3_size q).bind fun a3 => (if 48 < a3 then some false else some true)) else ((f_X3_get 120 u v2).bind fun a5 => ((f_X3_get 120 lt a5).bind fun a6 => (if z < a6 then some false else ((f_X3_get 120 lh a5).bind fun a8 => (if a8 = nu then l_X4_isSplitByClock_68 lt lh nu z q u F (v2 + 1) else some false)))))))
def l_X4_isSplitByClock_2 (lt : RS) (lh : RS) (nu : Int32) (z : Int32) (q : RS) (u : RS) : Nat → Int32 → Option (Bool)
  | 0, _ => none
  | F + 1, v2 => ((f_X3_size q).bind fun a1 => (if a1 ≤ v2 then l_X4_isSplitByClock_68 lt lh nu z q u FU 0 else ((f_X3_get 48 q v2).bind fun a3 => ((f_X3_get 120 lt a3).bind fun a4 => (if a4 < z then some false else ((f_X3_get 120 lh a3).bind fun a6 => (if a6 = nu then l_X4_isSplitByClock_2 lt lh nu z q u F (v2 + 1) else some false)))))))
def f_X4_isSplitByClock (lt : RS) (lh : RS) (nu : Int32) (z : Int32) (q : RS) (u : RS) : Option (Bool) := l_X4_isSplitByClock_2 lt lh nu z q u FU 0
def l_X4_move_80 (lt : RS) (nu2 : Int32) (v2 : Int32) (v4 : Int32) : Nat → Int32 → RS → RS → RS → RS → Option (String ⊕ (Int32 × RS × RS × RS × RS))
  | 0, _, _, _, _, _ => none
  | F + 1, v5, lhc, lxc, qc, q2c => (if v4 ≤ v5 then some (.inr (v4, lhc, lxc, qc, q2c)) else ((f_X3_remove 48 qc v2).bind fun a2 => ((f_X4_enqueue lt lhc lxc nu2 q2c a2.1).bind fun a3 => l_X4_move_80 lt nu2 v2 v4 F (v5 + 1) a3.1 a3.2.1 a2.2 a3.2.2)))
def b_X4_move_52 (lt : RS) (lh : RS) (lx : RS) (q : RS) (nu2 : Int32) (q2 : RS) (v2 : Int32) (v4 : Int32) : Option (String ⊕ (Int32 × RS × RS × RS × RS)) := ((f_X3_size q2).bind fun a1 => (if (a1 + v4) ≤ 48 then l_X4_move_80 lt nu2 v2 v4 FU 0 lh lx q q2 else some (.inl "java/lang/IllegalStateException")))
def f_X4_move (lt : RS) (lh : RS) (lx : RS) (q : RS) (nu2 : Int32) (z2 : Int32) (q2 : RS) (p2 : Int32) : Option (String ⊕ (Int32 × RS × RS × RS × RS)) := ((f_X3_size q).bind fun a1 => (if (a1 - p2) ≤ 0 then b_X4_move_52 lt lh lx q nu2 q2 p2 (a1 - p2) else ((f_X3_get 48 q p2).bind fun a3 => ((f_X3_get 120 lt a3).bind fun a4 => (if z2 ≤ a4 then b_X4_move_52 lt lh lx q nu2 q2 p2 (a1 - p2) else some (.inl "java/lang/IllegalStateException"))))))
def b_X4_standInSequence_122 (ko19 : Int32 → Int32 → Int32 → Option (Bool)) (v3 : Int32) (v4 : Int32) (v6 : Int32) (v8 : Bool) (v9 : Int32) : Option (Bool) := (if (bI v8) = 0 then ko19 (v4 + 0) v9 (v6 + 1) else ko19 (v4 + 1) v9 (v6 + 1))
def b_X4_standInSequence_99 (lt : RS) (ko19 : Int32 → Int32 → Int32 → Option (Bool)) (v3 : Int32) (v4 : Int32) (v5 : Int32) (v6 : Int32) (v8 : Bool) (s0 : Int32) : Option (Bool) := (if v5 < 0 then b_X4_standInSequence_122 ko19 v3 v4 v6 v8 s0 else ((f_X2_isAhead lt v5 s0).bind fun a2 => (if (bI a2) = 0 then some false else b_X4_standInSequence_122 ko19 v3 v4 v6 v8 s0)))
def b_X4_standInSequence_77 (lt : RS) (N : Nat) (r : RS) (N2 : Nat) (r2 : RS) (ko19 : Int32 → Int32 → Int32 → Option (Bool)) (v3 : Int32) (v4 : Int32) (v5 : Int32) (v6 : Int32) (v7 : Int32) (s0 : Bool) : Option (Bool) := (if (bI s0) = 0 then ((f_X3_get N2 r2 v7).bind fun a2 => b_X4_standInSequence_99 lt ko19 v3 v4 v5 v6 s0 a2) else ((f_X3_get N r v4).bind fun a3 => b_X4_standInSequence_99 lt ko19 v3 v4 v5 v6 s0 a3))
def l_X4_standInSequence_19 (lt : RS) (N : Nat) (r : RS) (N2 : Nat) (r2 : RS) (v3 : Int32) : Nat → Int32 → Int32 → Int32 → Option (Bool)
  | 0, _, _, _ => none
  | F + 1, v4, v5, v6 => (if v3 ≤ v6 then some true else ((f_X3_size r2).bind fun a2 => (if a2 ≤ (v6 - v4) then b_X4_standInSequence_77 lt N r N2 r2 (fun qv4 qv5 qv6 => l_X4_standInSequence_19 lt N r N2 r2 v3 F qv4 qv5 qv6) v3 v4 v5 v6 (v6 - v4) true else ((f_X3_size r).bind fun a4 => (if a4 ≤ v4 then b_X4_standInSequence_77 lt N r N2 r2 (fun qv4 qv5 qv6 => l_X4_standInSequence_19 lt N r N2 r2 v3 F qv4 qv5 qv6) v3 v4 v5 v6 (v6 - v4) false else ((f_X3_get N r v4).bind fun a6 => ((f_X3_get N2 r2 (v6 - v4)).bind fun a7 => ((f_X2_isAhead lt a6 a7).bind fun a8 => (if (bI a8) = 0 then b_X4_standInSequence_77 lt N r N2 r2 (fun qv4 qv5 qv6 => l_X4_standInSequence_19 lt N r N2 r2 v3 F qv4 qv5 qv6) v3 v4 v5 v6 (v6 - v4) false else b_X4_standInSequence_77 lt N r N2 r2 (fun qv4 qv5 qv6 => l_X4_standInSequence_19 lt N r N2 r2 v3 F qv4 qv5 qv6) v3 v4 v5 v6 (v6 - v4) true)))))))))
def f_X4_standInSequence (lt : RS) (N : Nat) (r : RS) (N2 : Nat) (r2 : RS) : Option (Bool) := ((f_X3_size r).bind fun a1 => ((f_X3_size r2).bind fun a2 => l_X4_standInSequence_19 lt N r N2 r2 (a1 + a2) FU 0 (-1) 0))
def l_X4_crowdIsOfThoseThatCame_12 (lt : RS) (ls : RS) (lw : RS) (u : RS) (t : RS) (c : RS) : Nat → Int64 → Int32 → RS → RS → Option (Bool × RS × RS)
  | 0, _, _, _, _ => none
  | F + 1, v2, v4, rtc, rcc => ((f_X3_size u).bind fun a1 => (if a1 ≤ v4 then ((f_X0_isLike rtc rcc t c).bind fun a3 => (if (bI a3) = 0 then some (false, rtc, rcc) else ((f_X0_isLevelInTheEnd c).bind fun a5 => (if (bI a5) = 0 then some (false, rtc, rcc) else ((f_X0_total t c).bind fun a7 => (if (lg_cmp v2 a7) = 0 then some (true, rtc, rcc) else some (false, rtc, rcc))))))) else ((f_X3_get 120 u v4).bind fun a9 => ((f_X3_get 120 lw a9).bind fun a10 => ((f_X3_get 120 lt a9).bind fun a11 => ((f_X2_end lt ls a9).bind fun a12 => ((f_X0_enter rtc rcc a11 a12 a10).bind fun a13 => ((f_X3_get 120 ls a9).bind fun a14 => l_X4_crowdIsOfThoseThatCame_12 lt ls lw u t c F (v2 + ((a10 * a14).toInt64)) (v4 + 1) a13.1 a13.2))))))))
def f_X4_crowdIsOfThoseThatCame (lt : RS) (ls : RS) (lw : RS) (rt : RS) (rc : RS) (u : RS) (t : RS) (c : RS) : Option (Bool × RS × RS) := ((f_X0_clear rt rc).bind fun a1 => l_X4_crowdIsOfThoseThatCame_12 lt ls lw u t c FU 0 0 a1.1 a1.2)
def b_X4_isOneThingOnce_101 (v3 : Int32) (v4 : Int32) (s0 : Int32) (s1 : Bool) : Option (Bool) := (if s0 = (bI s1) then (if v4 = 1 then (if v3 = 1 then some true else some false) else (if v3 = 0 then some true else some false)) else some false)
def f_X4_isOneThingOnce (lx : RS) (q0 : RS) (u0 : RS) (q1 : RS) (u1 : RS) (q2 : RS) (u2 : RS) (q3 : RS) (u3 : RS) (p1 : Int32) : Option (Bool) := ((f_X3_count 48 q0 p1).bind fun a2 => ((f_X3_count 120 u0 p1).bind fun a3 => ((f_X3_count 48 q1 p1).bind fun a5 => ((f_X3_count 120 u1 p1).bind fun a6 => ((f_X3_count 48 q2 p1).bind fun a8 => ((f_X3_count 120 u2 p1).bind fun a9 => ((f_X3_count 48 q3 p1).bind fun a11 => ((f_X3_count 120 u3 p1).bind fun a12 => ((f_X3_get 120 lx p1).bind fun a14 => ((f_X4_isIn a14 0 2).bind fun a15 => (if (bI a15) = 0 then some false else (if a14 = 0 then b_X4_isOneThingOnce_101 ((((0 + a3) + a6) + a9) + a12) a14 ((((0 + a2) + a5) + a8) + a11) true else b_X4_isOneThingOnce_101 ((((0 + a3) + a6) + a9) + a12) a14 ((((0 + a2) + a5) + a8) + a11) false))))))))))))
def f_X4_standsWithAllOthers_0 (lt : RS) (q0 : RS) (q1 : RS) (q2 : RS) (q3 : RS) : Option (Bool) := ((f_X4_standInSequence lt 48 q0 48 q1).bind fun a5 => (if (bI a5) = 0 then some false else ((f_X4_standInSequence lt 48 q0 48 q2).bind fun a9 => (if (bI a9) = 0 then some false else ((f_X4_standInSequence lt 48 q0 48 q3).bind fun a13 => (if (bI a13) = 0 then some false else some true))))))
def f_X4_standsWithAllOthers_1 (lt : RS) (q1 : RS) (q2 : RS) (q3 : RS) : Option (Bool) := ((f_X4_standInSequence lt 48 q1 48 q2).bind fun a7 => (if (bI a7) = 0 then some false else ((f_X4_standInSequence lt 48 q1 48 q3).bind fun a11 => (if (bI a11) = 0 then some false else some true))))
def f_X4_standsWithAllOthers_2 (lt : RS) (q2 : RS) (q3 : RS) : Option (Bool) := ((f_X4_standInSequence lt 48 q2 48 q3).bind fun a9 => (if (bI a9) = 0 then some false else some true))
def f_X4_standsWithAllOthers_3 : Option (Bool) := some true
abbrev r_X4_isIn : Room := { frames := 1, cells := 0, slots := 0, locals := 20 }
set_option maxHeartbeats 4000000 in
set_option maxRecDepth 100000 in
theorem c_X4_isIn (E : gE) (p0 : Int32) (p1 : Int32) (p2 : Int32) (o : (Bool)) (h : f_X4_isIn p0 p1 p2 = some o) : Ct E yX4_isIn wsX4_isIn r_X4_isIn [.int p0, .int p1, .int p2] ([] : va_W) (gO (fun u9 => some (.int (bI u9))) (fun u9 => ([] : va_W)) (.inr o)) := by
  refine Ct.of (cc := cX4_isIn) (nL := 3) (ret := ((some .boolean))) (own := RX4) (by decide) rfl rfl (Nat.le_of_ble_eq_true rfl) rfl ?_ ?_
  · intro v w1 hh
    cases hh; rfl
  · intro X C hQ
    rw [f_X4_isIn] at h
    refine g_iload_n C 0 rfl rfl dX4_isIn_0 ?_
    refine g_iload_n C 1 rfl rfl dX4_isIn_1 ?_
    refine g_icmp_lt C (tgt := 14) dX4_isIn_2 (by decide) (fun c1 => ?_) (fun c1 => ?_)
    · replace h := (if_pos c1).symm.trans h
      refine g_iconst C (v := 0) (by decide) dX4_isIn_14 ?_
      obtain rfl := Option.some.inj h
      exact g_zret C hQ rfl rfl ⟨by decide, by decide⟩ dX4_isIn_15
    · replace h := (if_neg c1).symm.trans h
      refine g_iload_n C 0 rfl rfl dX4_isIn_5 ?_
      refine g_iload_n C 2 rfl rfl dX4_isIn_6 ?_
      refine g_icmp_gt C (tgt := 14) dX4_isIn_7 (by decide) (fun c2 => ?_) (fun c2 => ?_)
      · replace h := (if_pos c2).symm.trans h
        refine g_iconst C (v := 0) (by decide) dX4_isIn_14 ?_
        obtain rfl := Option.some.inj h
        exact g_zret C hQ rfl rfl ⟨by decide, by decide⟩ dX4_isIn_15
      · replace h := (if_neg c2).symm.trans h
        refine g_iconst C (v := 1) (by decide) dX4_isIn_10 ?_
        refine g_goto C (tgt := 15) dX4_isIn_11 (by decide) ?_
        obtain rfl := Option.some.inj h
        exact g_zret C hQ rfl rfl ⟨by decide, by decide⟩ dX4_isIn_15
abbrev r_X4_isTime : Room := { frames := 2, cells := 0, slots := 0, locals := 42 }
set_option maxHeartbeats 4000000 in
set_option maxRecDepth 100000 in
theorem c_X4_isTime (E : gE) (p0 : Int32) (o : (Bool)) (h : f_X4_isTime p0 = some o) : Ct E yX4_isTime wsX4_isTime r_X4_isTime [.int p0] ([] : va_W) (gO (fun u9 => some (.int (bI u9))) (fun u9 => ([] : va_W)) (.inr o)) := by
  refine Ct.of (cc := cX4_isTime) (nL := 1) (ret := ((some .boolean))) (own := RX4) (by decide) rfl rfl (Nat.le_of_ble_eq_true rfl) rfl ?_ ?_
  · intro v w1 hh
    cases hh; rfl
  · intro X C hQ
    rw [f_X4_isTime] at h
    refine g_iload_n C 0 rfl rfl dX4_isTime_0 ?_
    refine g_iconst C (v := 0) (by decide) dX4_isTime_1 ?_
    refine g_sipush C (v := 9999) (by decide) dX4_isTime_2 ?_
    obtain ⟨a1, ea1, h⟩ := Option.bind_eq_some_iff.mp h
    refine g_cSr (As := [.int p0, .int 0, .int 9999]) (st := []) (w2 := ([] : va_W)) C (c_X4_isIn E p0 0 9999 a1 ea1) gX4_isTime_X4_isIn rfl (by decide +kernel) ⟨by decide, by decide, by decide, by decide, Nat.le_of_ble_eq_true rfl⟩ [] rfl rfl rfl dX4_isTime_5 ?_
    obtain rfl := Option.some.inj h
    exact g_zret C hQ rfl (bI_nar _) ⟨by decide, by decide⟩ dX4_isTime_8
abbrev r_X4_isSpan : Room := { frames := 2, cells := 0, slots := 0, locals := 42 }
set_option maxHeartbeats 4000000 in
set_option maxRecDepth 100000 in
theorem c_X4_isSpan (E : gE) (p0 : Int32) (o : (Bool)) (h : f_X4_isSpan p0 = some o) : Ct E yX4_isSpan wsX4_isSpan r_X4_isSpan [.int p0] ([] : va_W) (gO (fun u9 => some (.int (bI u9))) (fun u9 => ([] : va_W)) (.inr o)) := by
  refine Ct.of (cc := cX4_isSpan) (nL := 1) (ret := ((some .boolean))) (own := RX4) (by decide) rfl rfl (Nat.le_of_ble_eq_true rfl) rfl ?_ ?_
  · intro v w1 hh
    cases hh; rfl
  · intro X C hQ
    rw [f_X4_isSpan] at h
    refine g_iload_n C 0 rfl rfl dX4_isSpan_0 ?_
    refine g_iconst C (v := 0) (by decide) dX4_isSpan_1 ?_
    refine g_sipush C (v := 500) (by decide) dX4_isSpan_2 ?_
    obtain ⟨a1, ea1, h⟩ := Option.bind_eq_some_iff.mp h
    refine g_cSr (As := [.int p0, .int 0, .int 500]) (st := []) (w2 := ([] : va_W)) C (c_X4_isIn E p0 0 500 a1 ea1) gX4_isSpan_X4_isIn rfl (by decide +kernel) ⟨by decide, by decide, by decide, by decide, Nat.le_of_ble_eq_true rfl⟩ [] rfl rfl rfl dX4_isSpan_5 ?_
    obtain rfl := Option.some.inj h
    exact g_zret C hQ rfl (bI_nar _) ⟨by decide, by decide⟩ dX4_isSpan_8
abbrev r_X4_isWeight : Room := { frames := 2, cells := 0, slots := 0, locals := 42 }
set_option maxHeartbeats 4000000 in
set_option maxRecDepth 100000 in
theorem c_X4_isWeight (E : gE) (p0 : Int32) (o : (Bool)) (h : f_X4_isWeight p0 = some o) : Ct E yX4_isWeight wsX4_isWeight r_X4_isWeight [.int p0] ([] : va_W) (gO (fun u9 => some (.int (bI u9))) (fun u9 => ([] : va_W)) (.inr o)) := by
  refine Ct.of (cc := cX4_isWeight) (nL := 1) (ret := ((some .boolean))) (own := RX4) (by decide) rfl rfl (Nat.le_of_ble_eq_true rfl) rfl ?_ ?_
  · intro v w1 hh
    cases hh; rfl
  · intro X C hQ
    rw [f_X4_isWeight] at h
    refine g_iload_n C 0 rfl rfl dX4_isWeight_0 ?_
    refine g_iconst C (v := 1) (by decide) dX4_isWeight_1 ?_
    refine g_bipush C (v := 9) (by decide) dX4_isWeight_2 ?_
    obtain ⟨a1, ea1, h⟩ := Option.bind_eq_some_iff.mp h
    refine g_cSr (As := [.int p0, .int 1, .int 9]) (st := []) (w2 := ([] : va_W)) C (c_X4_isIn E p0 1 9 a1 ea1) gX4_isWeight_X4_isIn rfl (by decide +kernel) ⟨by decide, by decide, by decide, by decide, Nat.le_of_ble_eq_true rfl⟩ [] rfl rfl rfl dX4_isWeight_4 ?_
    obtain rfl := Option.some.inj h
    exact g_zret C hQ rfl (bI_nar _) ⟨by decide, by decide⟩ dX4_isWeight_7
abbrev r_X4_refuseIfNoTime : Room := { frames := 7, cells := 1, slots := 6, locals := 120 }
theorem tf_X4_refuseIfNoTime_46 : gTh wsX4_refuseIfNoTime RX4 "java/lang/IllegalArgumentException" 46 50 := ⟨by decide +kernel, by decide +kernel, by decide +kernel, by decide +kernel⟩
set_option maxHeartbeats 4000000 in
set_option maxRecDepth 100000 in
theorem c_X4_refuseIfNoTime (E : gE) (p0 : Int32) (o : (String ⊕ (Unit))) (h : f_X4_refuseIfNoTime p0 = some o) : Ct E yX4_refuseIfNoTime wsX4_refuseIfNoTime r_X4_refuseIfNoTime [.int p0] ([] : va_W) (gO (fun u9 => none) (fun u9 => ([] : va_W)) o) := by
  refine Ct.of (cc := cX4_refuseIfNoTime) (nL := 1) (ret := (none)) (own := RX4) (by decide) rfl rfl (Nat.le_of_ble_eq_true rfl) rfl ?_ ?_
  · intro v w1 hh
    cases o <;> cases hh <;> rfl
  · intro X C hQ
    rw [f_X4_refuseIfNoTime] at h
    refine g_iload_n C 0 rfl rfl dX4_refuseIfNoTime_0 ?_
    obtain ⟨a1, ea1, h⟩ := Option.bind_eq_some_iff.mp h
    refine g_cSr (As := [.int p0]) (st := []) (w2 := ([] : va_W)) C (c_X4_isTime E p0 a1 ea1) gX4_refuseIfNoTime_X4_isTime rfl (by decide +kernel) ⟨by decide, by decide, by decide, by decide, Nat.le_of_ble_eq_true rfl⟩ [] rfl rfl rfl dX4_refuseIfNoTime_1 ?_
    refine g_if_ne C (tgt := 18) dX4_refuseIfNoTime_4 (by decide) (fun c2 => ?_) (fun c2 => ?_)
    · replace h := (if_neg c2).symm.trans h
      obtain rfl := Option.some.inj h
      exact g_vret C hQ rfl ⟨by decide, by decide⟩ dX4_refuseIfNoTime_18
    · replace h := (if_pos c2).symm.trans h
      obtain rfl := Option.some.inj h
      exact g_throwSW C hQ rfl rfl tf_X4_refuseIfNoTime_46 (text := "time is out of range") (is9 := 263) (by decide +kernel) ⟨by decide, Nat.le_of_ble_eq_true rfl, by decide, by decide, by decide, by decide⟩ rfl dX4_refuseIfNoTime_7 dX4_refuseIfNoTime_10 dX4_refuseIfNoTime_11 dX4_refuseIfNoTime_14 dX4_refuseIfNoTime_17
abbrev r_X4_refuseIfTurned : Room := { frames := 7, cells := 1, slots := 6, locals := 120 }
theorem tf_X4_refuseIfTurned_46 : gTh wsX4_refuseIfTurned RX4 "java/lang/IllegalArgumentException" 46 50 := ⟨by decide +kernel, by decide +kernel, by decide +kernel, by decide +kernel⟩
set_option maxHeartbeats 4000000 in
set_option maxRecDepth 100000 in
theorem c_X4_refuseIfTurned (E : gE) (p0 : Int32) (p1 : Int32) (o : (String ⊕ (Unit))) (h : f_X4_refuseIfTurned p0 p1 = some o) : Ct E yX4_refuseIfTurned wsX4_refuseIfTurned r_X4_refuseIfTurned [.int p0, .int p1] ([] : va_W) (gO (fun u9 => none) (fun u9 => ([] : va_W)) o) := by
  refine Ct.of (cc := cX4_refuseIfTurned) (nL := 2) (ret := (none)) (own := RX4) (by decide) rfl rfl (Nat.le_of_ble_eq_true rfl) rfl ?_ ?_
  · intro v w1 hh
    cases o <;> cases hh <;> rfl
  · intro X C hQ
    rw [f_X4_refuseIfTurned] at h
    refine g_iload_n C 0 rfl rfl dX4_refuseIfTurned_0 ?_
    refine g_iload_n C 1 rfl rfl dX4_refuseIfTurned_1 ?_
    refine g_icmp_le C (tgt := 16) dX4_refuseIfTurned_2 (by decide) (fun c1 => ?_) (fun c1 => ?_)
    · replace h := (if_pos c1).symm.trans h
      obtain rfl := Option.some.inj h
      exact g_vret C hQ rfl ⟨by decide, by decide⟩ dX4_refuseIfTurned_16
    · replace h := (if_neg c1).symm.trans h
      obtain rfl := Option.some.inj h
      exact g_throwSW C hQ rfl rfl tf_X4_refuseIfTurned_46 (text := "from is above to") (is9 := 265) (by decide +kernel) ⟨by decide, Nat.le_of_ble_eq_true rfl, by decide, by decide, by decide, by decide⟩ rfl dX4_refuseIfTurned_5 dX4_refuseIfTurned_8 dX4_refuseIfTurned_9 dX4_refuseIfTurned_12 dX4_refuseIfTurned_15
abbrev r_X4_refuseIfSame : Room := { frames := 7, cells := 1, slots := 6, locals := 120 }
theorem tf_X4_refuseIfSame_105 : gTh wsX4_refuseIfSame RX4 "java/lang/IllegalStateException" 105 109 := ⟨by decide +kernel, by decide +kernel, by decide +kernel, by decide +kernel⟩
set_option maxHeartbeats 4000000 in
set_option maxRecDepth 100000 in
theorem c_X4_refuseIfSame (E : gE) (p0 : Int32) (p1 : Int32) (o : (String ⊕ (Unit))) (h : f_X4_refuseIfSame p0 p1 = some o) : Ct E yX4_refuseIfSame wsX4_refuseIfSame r_X4_refuseIfSame [.int p0, .int p1] ([] : va_W) (gO (fun u9 => none) (fun u9 => ([] : va_W)) o) := by
  refine Ct.of (cc := cX4_refuseIfSame) (nL := 2) (ret := (none)) (own := RX4) (by decide) rfl rfl (Nat.le_of_ble_eq_true rfl) rfl ?_ ?_
  · intro v w1 hh
    cases o <;> cases hh <;> rfl
  · intro X C hQ
    rw [f_X4_refuseIfSame] at h
    refine g_iload_n C 0 rfl rfl dX4_refuseIfSame_0 ?_
    refine g_iload_n C 1 rfl rfl dX4_refuseIfSame_1 ?_
    refine g_icmp_ne C (tgt := 16) dX4_refuseIfSame_2 (by decide) (fun c1 => ?_) (fun c1 => ?_)
    · replace h := (if_neg c1).symm.trans h
      obtain rfl := Option.some.inj h
      exact g_vret C hQ rfl ⟨by decide, by decide⟩ dX4_refuseIfSame_16
    · replace h := (if_pos c1).symm.trans h
      obtain rfl := Option.some.inj h
      exact g_throwSW C hQ rfl rfl tf_X4_refuseIfSame_105 (text := "both houses are the same") (is9 := 267) (by decide +kernel) ⟨by decide, Nat.le_of_ble_eq_true rfl, by decide, by decide, by decide, by decide⟩ rfl dX4_refuseIfSame_5 dX4_refuseIfSame_8 dX4_refuseIfSame_9 dX4_refuseIfSame_12 dX4_refuseIfSame_15
abbrev r_X4_itemAt : Room := { frames := 7, cells := 1, slots := 6, locals := 120 }
theorem tf_X4_itemAt_96 : gTh wsX4_itemAt RX4 "java/util/NoSuchElementException" 96 100 := ⟨by decide +kernel, by decide +kernel, by decide +kernel, by decide +kernel⟩
set_option maxHeartbeats 4000000 in
set_option maxRecDepth 100000 in
theorem c_X4_itemAt (E : gE) (x : Nat) (y : Nat) (N : Nat) (r : RS) (p1 : Int32) (o : (String ⊕ (Int32))) (h : f_X4_itemAt N r p1 = some o) : Ct E yX4_itemAt wsX4_itemAt r_X4_itemAt [.ref x, .int p1] (wX3 E x y N r) (gO (fun u9 => some (.int u9)) (fun u9 => (wX3 E x y N r)) o) := by
  refine Ct.of (cc := cX4_itemAt) (nL := 2) (ret := ((some .int))) (own := RX4) (by decide) rfl rfl (Nat.le_of_ble_eq_true rfl) rfl ?_ ?_
  · intro v w1 hh
    cases o <;> cases hh <;> rfl
  · intro X C hQ
    rw [f_X4_itemAt] at h
    refine g_aload_n C 0 rfl rfl dX4_itemAt_0 ?_
    refine g_iload_n C 1 rfl rfl dX4_itemAt_1 ?_
    obtain ⟨a1, ea1, h⟩ := Option.bind_eq_some_iff.mp h
    refine g_cVr (As := [.int p1]) (st := []) (w2 := (wX3 E x y N r)) C (c_X3_holds E x y N r p1 a1 ea1) gX4_itemAt_X3_holds rfl (by decide +kernel) ⟨by decide, by decide, by decide, by decide, Nat.le_of_ble_eq_true rfl⟩ rfl 0 rfl [0, 1] rfl rfl rfl dX4_itemAt_2 ?_
    refine g_if_ne C (tgt := 18) dX4_itemAt_5 (by decide) (fun c2 => ?_) (fun c2 => ?_)
    · replace h := (if_neg c2).symm.trans h
      refine g_aload_n C 0 rfl rfl dX4_itemAt_18 ?_
      refine g_iload_n C 1 rfl rfl dX4_itemAt_19 ?_
      obtain ⟨a3, ea3, h⟩ := Option.bind_eq_some_iff.mp h
      refine g_cVr (As := [.int p1]) (st := []) (w2 := (wX3 E x y N r)) C (c_X3_get E x y N r p1 a3 ea3) gX4_itemAt_X3_get rfl (by decide +kernel) ⟨by decide, by decide, by decide, by decide, Nat.le_of_ble_eq_true rfl⟩ rfl 0 rfl [0, 1] rfl rfl rfl dX4_itemAt_20 ?_
      obtain rfl := Option.some.inj h
      exact g_iret C hQ rfl ⟨by decide, by decide⟩ dX4_itemAt_23
    · replace h := (if_pos c2).symm.trans h
      obtain rfl := Option.some.inj h
      exact g_throwS C hQ rfl rfl tf_X4_itemAt_96 (text := "no such place") (is9 := 211) (by decide +kernel) ⟨by decide, Nat.le_of_ble_eq_true rfl, by decide, by decide, by decide, by decide⟩ rfl dX4_itemAt_8 dX4_itemAt_11 dX4_itemAt_12 dX4_itemAt_14 dX4_itemAt_17
abbrev r_X4_withRow : Room := { frames := 3, cells := 0, slots := 0, locals := 62 }
theorem m_X4_withRow_0 : Cond.constantLong RX4 297 31 ∈ wsX4_withRow := by decide +kernel
set_option maxHeartbeats 4000000 in
set_option maxRecDepth 100000 in
theorem w_X4_withRow_15 {E : gE} {X : gX} {x : Nat} {y : Nat} {N : Nat} {r : RS} {p0 : Int64} {o : (Int64)} (C : Cx E X cX4_withRow 6 RX4 wsX4_withRow r_X4_withRow ((some .long)) []) (hQ : gQ E X (wX3 E x y N r) r_X4_withRow (gO (fun u9 => some (.long u9)) (fun u9 => (wX3 E x y N r)) (.inr o))) : ∀ (F : Nat) (v3 : Int64) (v5 : Int32), l_X4_withRow_15 N r F v3 v5 = some o → Gx E X (wX3 E x y N r) 6 [(2, .ref x), (3, .long v3), (5, .int v5)] [] 15 0 0 := by
  intro F
  induction F with
  | zero => intro v3 v5 h; exact absurd h (by simp [l_X4_withRow_15])
  | succ F ih =>
    intro v3 v5 h
    rw [l_X4_withRow_15] at h
    refine g_iload C 2 rfl dX4_withRow_15 ?_
    refine g_aload_n C 0 rfl rfl dX4_withRow_17 ?_
    obtain ⟨a1, ea1, h⟩ := Option.bind_eq_some_iff.mp h
    refine g_cVr (As := []) (st := [.int v5]) (w2 := (wX3 E x y N r)) C (c_X3_size E x y N r a1 ea1) gX4_withRow_X3_size rfl (by decide +kernel) ⟨by decide, by decide, by decide, by decide, Nat.le_of_ble_eq_true rfl⟩ rfl 0 rfl [0, 1] rfl rfl rfl dX4_withRow_18 ?_
    refine g_icmp_ge C (tgt := 44) dX4_withRow_21 (by decide) (fun c2 => ?_) (fun c2 => ?_)
    · replace h := (if_pos c2).symm.trans h
      refine g_lload_n C 1 rfl rfl dX4_withRow_44 ?_
      obtain rfl := Option.some.inj h
      exact g_lret C hQ rfl ⟨by decide, by decide⟩ dX4_withRow_45
    · replace h := (if_neg c2).symm.trans h
      refine g_ldc2 C (v := 31) m_X4_withRow_0 dX4_withRow_24 ?_
      refine g_lload_n C 1 rfl rfl dX4_withRow_27 ?_
      refine g_lmul C dX4_withRow_28 ?_
      refine g_aload_n C 0 rfl rfl dX4_withRow_29 ?_
      refine g_iload C 2 rfl dX4_withRow_30 ?_
      obtain ⟨a3, ea3, h⟩ := Option.bind_eq_some_iff.mp h
      refine g_cVr (As := [.int v5]) (st := [.long (31 * v3)]) (w2 := (wX3 E x y N r)) C (c_X3_get E x y N r v5 a3 ea3) gX4_withRow_X3_get rfl (by decide +kernel) ⟨by decide, by decide, by decide, by decide, Nat.le_of_ble_eq_true rfl⟩ rfl 0 rfl [0, 1] rfl rfl rfl dX4_withRow_32 ?_
      refine g_i2l C dX4_withRow_35 ?_
      refine g_ladd C dX4_withRow_36 ?_
      refine g_lstore_n C (lv2 := [(3, .long ((31 * v3) + a3.toInt64)), (2, .ref x), (5, .int v5)]) rfl (by decide) rfl dX4_withRow_37 ?_
      refine g_iinc C (v := v5 + 1) 2 rfl rfl (lv2 := [(5, .int (v5 + 1)), (3, .long ((31 * v3) + a3.toInt64)), (2, .ref x)]) rfl (by decide) dX4_withRow_38 ?_
      refine g_goto C (tgt := 15) dX4_withRow_41 (by decide) ?_
      refine g_lv [2, 1, 0] (lv2 := [(2, .ref x), (3, .long ((31 * v3) + a3.toInt64)), (5, .int (v5 + 1))]) rfl ?_
      exact ih ((31 * v3) + a3.toInt64) (v5 + 1) h
set_option maxHeartbeats 4000000 in
set_option maxRecDepth 100000 in
theorem c_X4_withRow (E : gE) (x : Nat) (y : Nat) (N : Nat) (r : RS) (p0 : Int64) (o : (Int64)) (h : f_X4_withRow N r p0 = some o) : Ct E yX4_withRow wsX4_withRow r_X4_withRow [.long p0, .ref x] (wX3 E x y N r) (gO (fun u9 => some (.long u9)) (fun u9 => (wX3 E x y N r)) (.inr o)) := by
  refine Ct.of (cc := cX4_withRow) (nL := 6) (ret := ((some .long))) (own := RX4) (by decide) rfl rfl (Nat.le_of_ble_eq_true rfl) rfl ?_ ?_
  · intro v w1 hh
    cases hh; rfl
  · intro X C hQ
    rw [f_X4_withRow] at h
    refine g_ldc2 C (v := 31) m_X4_withRow_0 dX4_withRow_0 ?_
    refine g_lload_n C 0 rfl rfl dX4_withRow_3 ?_
    refine g_lmul C dX4_withRow_4 ?_
    refine g_aload_n C 1 rfl rfl dX4_withRow_5 ?_
    obtain ⟨a1, ea1, h⟩ := Option.bind_eq_some_iff.mp h
    refine g_cVr (As := []) (st := [.long (31 * p0)]) (w2 := (wX3 E x y N r)) C (c_X3_size E x y N r a1 ea1) gX4_withRow_X3_size rfl (by decide +kernel) ⟨by decide, by decide, by decide, by decide, Nat.le_of_ble_eq_true rfl⟩ rfl 0 rfl [0, 1] rfl rfl rfl dX4_withRow_6 ?_
    refine g_i2l C dX4_withRow_9 ?_
    refine g_ladd C dX4_withRow_10 ?_
    refine g_lstore_n C (lv2 := [(3, .long ((31 * p0) + a1.toInt64)), (0, .long p0), (2, .ref x)]) rfl (by decide) rfl dX4_withRow_11 ?_
    refine g_iconst C (v := 0) (by decide) dX4_withRow_12 ?_
    refine g_istore C (lv2 := [(5, .int 0), (3, .long ((31 * p0) + a1.toInt64)), (0, .long p0), (2, .ref x)]) rfl (by decide) dX4_withRow_13 ?_
    refine g_lv [3, 1, 0] (lv2 := [(2, .ref x), (3, .long ((31 * p0) + a1.toInt64)), (5, .int 0)]) rfl ?_
    exact w_X4_withRow_15 C hQ FU ((31 * p0) + a1.toInt64) 0 h
abbrev r_X4_withHouse : Room := { frames := 4, cells := 0, slots := 0, locals := 87 }
theorem m_X4_withHouse_0 : Cond.constantLong RX4 297 31 ∈ wsX4_withHouse := by decide +kernel
theorem m_X4_withHouse_1 : Cond.fieldLink RX4 101 "Bookinghouse$House" "now" "I" ∈ wsX4_withHouse := by decide +kernel
theorem i_X4_withHouse_X1 : ∀ w ∈ wsX10, w ∈ wsX4_withHouse := by decide +kernel
theorem m_X4_withHouse_3 : Cond.fieldLink RX4 71 "Bookinghouse$House" "queue" "LBookinghouse$Row;" ∈ wsX4_withHouse := by decide +kernel
theorem m_X4_withHouse_4 : Cond.fieldLink RX4 150 "Bookinghouse$House" "past" "LBookinghouse$Row;" ∈ wsX4_withHouse := by decide +kernel
theorem m_X4_withHouse_5 : Cond.fieldLink RX4 178 "Bookinghouse$House" "crowd" "LBookinghouse$Crowd;" ∈ wsX4_withHouse := by decide +kernel
theorem m_X4_withHouse_6 : Cond.fieldLink RX4 213 "Bookinghouse$Crowd" "times" "LBookinghouse$Row;" ∈ wsX4_withHouse := by decide +kernel
theorem i_X4_withHouse_X0 : ∀ w ∈ wsX00, w ∈ wsX4_withHouse := by decide +kernel
theorem m_X4_withHouse_8 : Cond.fieldLink RX4 303 "Bookinghouse$Crowd" "changes" "LBookinghouse$Row;" ∈ wsX4_withHouse := by decide +kernel
set_option maxHeartbeats 4000000 in
set_option maxRecDepth 100000 in
theorem w_X4_withHouse_33 {E : gE} {X : gX} {a : Nat → Nat} {i : Nat} {nu : Int32} {z : Int32} {q : RS} {u : RS} {t : RS} {c : RS} {p0 : Int64} {o : (Int64)} (C : Cx E X cX4_withHouse 6 RX4 wsX4_withHouse r_X4_withHouse ((some .long)) []) (hQ : gQ E X (wX1 E a i nu z q u t c) r_X4_withHouse (gO (fun u9 => some (.long u9)) (fun u9 => (wX1 E a i nu z q u t c)) (.inr o))) : ∀ (F : Nat) (v3 : Int64) (v5 : Int32), l_X4_withHouse_33 t c F v3 v5 = some o → Gx E X (wX1 E a i nu z q u t c) 6 [(2, .ref (a i)), (3, .long v3), (5, .int v5)] [] 33 0 0 := by
  intro F
  induction F with
  | zero => intro v3 v5 h; exact absurd h (by simp [l_X4_withHouse_33])
  | succ F ih =>
    intro v3 v5 h
    rw [l_X4_withHouse_33] at h
    refine g_iload C 2 rfl dX4_withHouse_33 ?_
    refine g_aload_n C 0 rfl rfl dX4_withHouse_35 ?_
    refine g_X1_crowd C i_X4_withHouse_X1 m_X4_withHouse_5 0 rfl dX4_withHouse_36 ?_
    refine g_X0_times C i_X4_withHouse_X0 m_X4_withHouse_6 5 rfl dX4_withHouse_39 ?_
    obtain ⟨a1, ea1, h⟩ := Option.bind_eq_some_iff.mp h
    refine g_cVr (As := []) (st := [.int v5]) (w2 := (wX1 E a i nu z q u t c)) C (c_X3_size E (a (i + 5 + 1)) (a (i + 5 + 2)) 240 t a1 ea1) gX4_withHouse_X3_size rfl (by decide +kernel) ⟨by decide, by decide, by decide, by decide, Nat.le_of_ble_eq_true rfl⟩ rfl 0 rfl [6, 7] rfl rfl rfl dX4_withHouse_42 ?_
    refine g_icmp_ge C (tgt := 94) dX4_withHouse_45 (by decide) (fun c2 => ?_) (fun c2 => ?_)
    · replace h := (if_pos c2).symm.trans h
      refine g_lload_n C 1 rfl rfl dX4_withHouse_94 ?_
      obtain rfl := Option.some.inj h
      exact g_lret C hQ rfl ⟨by decide, by decide⟩ dX4_withHouse_95
    · replace h := (if_neg c2).symm.trans h
      refine g_ldc2 C (v := 31) m_X4_withHouse_0 dX4_withHouse_48 ?_
      refine g_lload_n C 1 rfl rfl dX4_withHouse_51 ?_
      refine g_lmul C dX4_withHouse_52 ?_
      refine g_aload_n C 0 rfl rfl dX4_withHouse_53 ?_
      refine g_X1_crowd C i_X4_withHouse_X1 m_X4_withHouse_5 0 rfl dX4_withHouse_54 ?_
      refine g_X0_times C i_X4_withHouse_X0 m_X4_withHouse_6 5 rfl dX4_withHouse_57 ?_
      refine g_iload C 2 rfl dX4_withHouse_60 ?_
      obtain ⟨a3, ea3, h⟩ := Option.bind_eq_some_iff.mp h
      refine g_cVr (As := [.int v5]) (st := [.long (31 * v3)]) (w2 := (wX1 E a i nu z q u t c)) C (c_X3_get E (a (i + 5 + 1)) (a (i + 5 + 2)) 240 t v5 a3 ea3) gX4_withHouse_X3_get rfl (by decide +kernel) ⟨by decide, by decide, by decide, by decide, Nat.le_of_ble_eq_true rfl⟩ rfl 0 rfl [6, 7] rfl rfl rfl dX4_withHouse_62 ?_
      refine g_i2l C dX4_withHouse_65 ?_
      refine g_ladd C dX4_withHouse_66 ?_
      refine g_lstore_n C (lv2 := [(3, .long ((31 * v3) + a3.toInt64)), (2, .ref (a i)), (5, .int v5)]) rfl (by decide) rfl dX4_withHouse_67 ?_
      refine g_ldc2 C (v := 31) m_X4_withHouse_0 dX4_withHouse_68 ?_
      refine g_lload_n C 0 rfl rfl dX4_withHouse_71 ?_
      refine g_lmul C dX4_withHouse_72 ?_
      refine g_aload_n C 1 rfl rfl dX4_withHouse_73 ?_
      refine g_X1_crowd C i_X4_withHouse_X1 m_X4_withHouse_5 0 rfl dX4_withHouse_74 ?_
      refine g_X0_changes C i_X4_withHouse_X0 m_X4_withHouse_8 5 rfl dX4_withHouse_77 ?_
      refine g_iload C 2 rfl dX4_withHouse_80 ?_
      obtain ⟨a4, ea4, h⟩ := Option.bind_eq_some_iff.mp h
      refine g_cVr (As := [.int v5]) (st := [.long (31 * ((31 * v3) + a3.toInt64))]) (w2 := (wX1 E a i nu z q u t c)) C (c_X3_get E (a (i + 5 + 3)) (a (i + 5 + 4)) 240 c v5 a4 ea4) gX4_withHouse_X3_get rfl (by decide +kernel) ⟨by decide, by decide, by decide, by decide, Nat.le_of_ble_eq_true rfl⟩ rfl 0 rfl [8, 9] rfl rfl rfl dX4_withHouse_82 ?_
      refine g_i2l C dX4_withHouse_85 ?_
      refine g_ladd C dX4_withHouse_86 ?_
      refine g_lstore_n C (lv2 := [(3, .long ((31 * ((31 * v3) + a3.toInt64)) + a4.toInt64)), (2, .ref (a i)), (5, .int v5)]) rfl (by decide) rfl dX4_withHouse_87 ?_
      refine g_iinc C (v := v5 + 1) 2 rfl rfl (lv2 := [(5, .int (v5 + 1)), (3, .long ((31 * ((31 * v3) + a3.toInt64)) + a4.toInt64)), (2, .ref (a i))]) rfl (by decide) dX4_withHouse_88 ?_
      refine g_goto C (tgt := 33) dX4_withHouse_91 (by decide) ?_
      refine g_lv [2, 1, 0] (lv2 := [(2, .ref (a i)), (3, .long ((31 * ((31 * v3) + a3.toInt64)) + a4.toInt64)), (5, .int (v5 + 1))]) rfl ?_
      exact ih ((31 * ((31 * v3) + a3.toInt64)) + a4.toInt64) (v5 + 1) h
set_option maxHeartbeats 4000000 in
set_option maxRecDepth 100000 in
theorem c_X4_withHouse (E : gE) (a : Nat → Nat) (i : Nat) (nu : Int32) (z : Int32) (q : RS) (u : RS) (t : RS) (c : RS) (p0 : Int64) (o : (Int64)) (h : f_X4_withHouse z q u t c p0 = some o) : Ct E yX4_withHouse wsX4_withHouse r_X4_withHouse [.long p0, .ref (a i)] (wX1 E a i nu z q u t c) (gO (fun u9 => some (.long u9)) (fun u9 => (wX1 E a i nu z q u t c)) (.inr o)) := by
  refine Ct.of (cc := cX4_withHouse) (nL := 6) (ret := ((some .long))) (own := RX4) (by decide) rfl rfl (Nat.le_of_ble_eq_true rfl) rfl ?_ ?_
  · intro v w1 hh
    cases hh; rfl
  · intro X C hQ
    rw [f_X4_withHouse] at h
    refine g_ldc2 C (v := 31) m_X4_withHouse_0 dX4_withHouse_0 ?_
    refine g_lload_n C 0 rfl rfl dX4_withHouse_3 ?_
    refine g_lmul C dX4_withHouse_4 ?_
    refine g_aload_n C 1 rfl rfl dX4_withHouse_5 ?_
    refine g_X1_now C i_X4_withHouse_X1 m_X4_withHouse_1 0 rfl dX4_withHouse_6 ?_
    refine g_i2l C dX4_withHouse_9 ?_
    refine g_ladd C dX4_withHouse_10 ?_
    refine g_lstore_n C (lv2 := [(3, .long ((31 * p0) + z.toInt64)), (0, .long p0), (2, .ref (a i))]) rfl (by decide) rfl dX4_withHouse_11 ?_
    refine g_lload_n C 0 rfl rfl dX4_withHouse_12 ?_
    refine g_aload_n C 2 rfl rfl dX4_withHouse_13 ?_
    refine g_X1_queue C i_X4_withHouse_X1 m_X4_withHouse_3 0 rfl dX4_withHouse_14 ?_
    obtain ⟨a1, ea1, h⟩ := Option.bind_eq_some_iff.mp h
    refine g_cSr (As := [.long ((31 * p0) + z.toInt64), .ref (a (i + 1))]) (st := []) (w2 := (wX1 E a i nu z q u t c)) C (c_X4_withRow E (a (i + 1)) (a (i + 2)) 48 q ((31 * p0) + z.toInt64) a1 ea1) gX4_withHouse_X4_withRow rfl (by decide +kernel) ⟨by decide, by decide, by decide, by decide, Nat.le_of_ble_eq_true rfl⟩ [1, 2] rfl rfl rfl dX4_withHouse_17 ?_
    refine g_lstore_n C (lv2 := [(3, .long a1), (0, .long p0), (2, .ref (a i))]) rfl (by decide) rfl dX4_withHouse_20 ?_
    refine g_lload_n C 0 rfl rfl dX4_withHouse_21 ?_
    refine g_aload_n C 2 rfl rfl dX4_withHouse_22 ?_
    refine g_X1_past C i_X4_withHouse_X1 m_X4_withHouse_4 0 rfl dX4_withHouse_23 ?_
    obtain ⟨a2, ea2, h⟩ := Option.bind_eq_some_iff.mp h
    refine g_cSr (As := [.long a1, .ref (a (i + 3))]) (st := []) (w2 := (wX1 E a i nu z q u t c)) C (c_X4_withRow E (a (i + 3)) (a (i + 4)) 120 u a1 a2 ea2) gX4_withHouse_X4_withRow rfl (by decide +kernel) ⟨by decide, by decide, by decide, by decide, Nat.le_of_ble_eq_true rfl⟩ [3, 4] rfl rfl rfl dX4_withHouse_26 ?_
    refine g_lstore_n C (lv2 := [(3, .long a2), (0, .long p0), (2, .ref (a i))]) rfl (by decide) rfl dX4_withHouse_29 ?_
    refine g_iconst C (v := 0) (by decide) dX4_withHouse_30 ?_
    refine g_istore C (lv2 := [(5, .int 0), (3, .long a2), (0, .long p0), (2, .ref (a i))]) rfl (by decide) dX4_withHouse_31 ?_
    refine g_lv [3, 1, 0] (lv2 := [(2, .ref (a i)), (3, .long a2), (5, .int 0)]) rfl ?_
    exact w_X4_withHouse_33 C hQ FU a2 0 h
abbrev r_X4_refuseIfNoRoom : Room := { frames := 7, cells := 1, slots := 6, locals := 120 }
theorem m_X4_refuseIfNoRoom_0 : Cond.fieldLink RX4 101 "Bookinghouse$House" "now" "I" ∈ wsX4_refuseIfNoRoom := by decide +kernel
theorem i_X4_refuseIfNoRoom_X1 : ∀ w ∈ wsX10, w ∈ wsX4_refuseIfNoRoom := by decide +kernel
theorem m_X4_refuseIfNoRoom_2 : Cond.fieldLink RX4 71 "Bookinghouse$House" "queue" "LBookinghouse$Row;" ∈ wsX4_refuseIfNoRoom := by decide +kernel
theorem m_X4_refuseIfNoRoom_3 : Cond.fieldLink RX4 10 "Bookinghouse" "ledger" "LBookinghouse$Ledger;" ∈ wsX4_refuseIfNoRoom := by decide +kernel
theorem i_X4_refuseIfNoRoom_X4 : ∀ w ∈ wsX40, w ∈ wsX4_refuseIfNoRoom := by decide +kernel
theorem tf_X4_refuseIfNoRoom_105 : gTh wsX4_refuseIfNoRoom RX4 "java/lang/IllegalStateException" 105 109 := ⟨by decide +kernel, by decide +kernel, by decide +kernel, by decide +kernel⟩
set_option maxHeartbeats 4000000 in
set_option maxRecDepth 100000 in
theorem c_X4_refuseIfNoRoom (E : gE) (a : Nat → Nat) (i : Nat) (lt : RS) (ls : RS) (lw : RS) (lh : RS) (lx : RS) (nu : Int32) (z : Int32) (q : RS) (u : RS) (t : RS) (c : RS) (p2 : Int32) (p3 : Int32) (o : (String ⊕ (Unit))) (h : f_X4_refuseIfNoRoom lt z q p2 p3 = some o) : Ct E yX4_refuseIfNoRoom wsX4_refuseIfNoRoom r_X4_refuseIfNoRoom [.ref (a 0), .ref (a i), .int p2, .int p3] (wB E a ++ (wX2 E a 2 lt ls lw lh lx ++ wX1 E a i nu z q u t c)) (gO (fun u9 => none) (fun u9 => (wB E a ++ (wX2 E a 2 lt ls lw lh lx ++ wX1 E a i nu z q u t c))) o) := by
  refine Ct.of (cc := cX4_refuseIfNoRoom) (nL := 4) (ret := (none)) (own := RX4) (by decide) rfl rfl (Nat.le_of_ble_eq_true rfl) rfl ?_ ?_
  · intro v w1 hh
    cases o <;> cases hh <;> rfl
  · intro X C hQ
    rw [f_X4_refuseIfNoRoom] at h
    refine g_iload_n C 2 rfl rfl dX4_refuseIfNoRoom_0 ?_
    refine g_aload_n C 1 rfl rfl dX4_refuseIfNoRoom_1 ?_
    refine g_X1_now C i_X4_refuseIfNoRoom_X1 m_X4_refuseIfNoRoom_0 12 rfl dX4_refuseIfNoRoom_2 ?_
    refine g_icmp_ge C (tgt := 18) dX4_refuseIfNoRoom_5 (by decide) (fun c1 => ?_) (fun c1 => ?_)
    · replace h := (if_pos c1).symm.trans h
      refine g_aload_n C 1 rfl rfl dX4_refuseIfNoRoom_18 ?_
      refine g_X1_queue C i_X4_refuseIfNoRoom_X1 m_X4_refuseIfNoRoom_2 12 rfl dX4_refuseIfNoRoom_19 ?_
      obtain ⟨a2, ea2, h⟩ := Option.bind_eq_some_iff.mp h
      refine g_cVr (As := []) (st := []) (w2 := (wB E a ++ (wX2 E a 2 lt ls lw lh lx ++ wX1 E a i nu z q u t c))) C (c_X3_size E (a (i + 1)) (a (i + 2)) 48 q a2 ea2) gX4_refuseIfNoRoom_X3_size rfl (by decide +kernel) ⟨by decide, by decide, by decide, by decide, Nat.le_of_ble_eq_true rfl⟩ rfl 0 rfl [13, 14] rfl rfl rfl dX4_refuseIfNoRoom_22 ?_
      refine g_iload_n C 3 rfl rfl dX4_refuseIfNoRoom_25 ?_
      refine g_iadd C dX4_refuseIfNoRoom_26 ?_
      refine g_bipush C (v := 48) (by decide) dX4_refuseIfNoRoom_27 ?_
      refine g_icmp_le C (tgt := 42) dX4_refuseIfNoRoom_29 (by decide) (fun c3 => ?_) (fun c3 => ?_)
      · replace h := (if_pos c3).symm.trans h
        refine g_aload_n C 0 rfl rfl dX4_refuseIfNoRoom_42 ?_
        refine g_X4_ledger C i_X4_refuseIfNoRoom_X4 m_X4_refuseIfNoRoom_3 0 rfl dX4_refuseIfNoRoom_43 ?_
        obtain ⟨a4, ea4, h⟩ := Option.bind_eq_some_iff.mp h
        refine g_cVr (As := []) (st := []) (w2 := (wB E a ++ (wX2 E a 2 lt ls lw lh lx ++ wX1 E a i nu z q u t c))) C (c_X2_size E a 2 lt ls lw lh lx a4 ea4) gX4_refuseIfNoRoom_X2_size rfl (by decide +kernel) ⟨by decide, by decide, by decide, by decide, Nat.le_of_ble_eq_true rfl⟩ rfl 0 rfl [1, 2, 3, 4, 5, 6, 7, 8, 9, 10, 11] rfl rfl rfl dX4_refuseIfNoRoom_46 ?_
        refine g_iload_n C 3 rfl rfl dX4_refuseIfNoRoom_49 ?_
        refine g_iadd C dX4_refuseIfNoRoom_50 ?_
        refine g_bipush C (v := 120) (by decide) dX4_refuseIfNoRoom_51 ?_
        refine g_icmp_le C (tgt := 67) dX4_refuseIfNoRoom_53 (by decide) (fun c5 => ?_) (fun c5 => ?_)
        · replace h := (if_pos c5).symm.trans h
          obtain rfl := Option.some.inj h
          exact g_vret C hQ rfl ⟨by decide, by decide⟩ dX4_refuseIfNoRoom_67
        · replace h := (if_neg c5).symm.trans h
          obtain rfl := Option.some.inj h
          exact g_throwSW C hQ rfl rfl tf_X4_refuseIfNoRoom_105 (text := "more than 120 bookings would have been made") (is9 := 261) (by decide +kernel) ⟨by decide, Nat.le_of_ble_eq_true rfl, by decide, by decide, by decide, by decide⟩ rfl dX4_refuseIfNoRoom_56 dX4_refuseIfNoRoom_59 dX4_refuseIfNoRoom_60 dX4_refuseIfNoRoom_63 dX4_refuseIfNoRoom_66
      · replace h := (if_neg c3).symm.trans h
        obtain rfl := Option.some.inj h
        exact g_throwS C hQ rfl rfl tf_X4_refuseIfNoRoom_105 (text := "more than 48 would wait in the house") (is9 := 144) (by decide +kernel) ⟨by decide, Nat.le_of_ble_eq_true rfl, by decide, by decide, by decide, by decide⟩ rfl dX4_refuseIfNoRoom_32 dX4_refuseIfNoRoom_35 dX4_refuseIfNoRoom_36 dX4_refuseIfNoRoom_38 dX4_refuseIfNoRoom_41
    · replace h := (if_neg c1).symm.trans h
      obtain rfl := Option.some.inj h
      exact g_throwS C hQ rfl rfl tf_X4_refuseIfNoRoom_105 (text := "the time is below the clock") (is9 := 107) (by decide +kernel) ⟨by decide, Nat.le_of_ble_eq_true rfl, by decide, by decide, by decide, by decide⟩ rfl dX4_refuseIfNoRoom_8 dX4_refuseIfNoRoom_11 dX4_refuseIfNoRoom_12 dX4_refuseIfNoRoom_14 dX4_refuseIfNoRoom_17
abbrev r_X4_enqueue : Room := { frames := 4, cells := 0, slots := 0, locals := 86 }
theorem m_X4_enqueue_0 : Cond.fieldLink RX4 71 "Bookinghouse$House" "queue" "LBookinghouse$Row;" ∈ wsX4_enqueue := by decide +kernel
theorem i_X4_enqueue_X1 : ∀ w ∈ wsX10, w ∈ wsX4_enqueue := by decide +kernel
theorem m_X4_enqueue_2 : Cond.fieldLink RX4 10 "Bookinghouse" "ledger" "LBookinghouse$Ledger;" ∈ wsX4_enqueue := by decide +kernel
theorem i_X4_enqueue_X4 : ∀ w ∈ wsX40, w ∈ wsX4_enqueue := by decide +kernel
theorem m_X4_enqueue_4 : Cond.fieldLink RX4 170 "Bookinghouse$Ledger" "homes" "LBookinghouse$Row;" ∈ wsX4_enqueue := by decide +kernel
theorem i_X4_enqueue_X2 : ∀ w ∈ wsX20, w ∈ wsX4_enqueue := by decide +kernel
theorem m_X4_enqueue_6 : Cond.fieldLink RX4 283 "Bookinghouse$House" "number" "I" ∈ wsX4_enqueue := by decide +kernel
theorem m_X4_enqueue_7 : Cond.fieldLink RX4 173 "Bookinghouse$Ledger" "states" "LBookinghouse$Row;" ∈ wsX4_enqueue := by decide +kernel
set_option maxHeartbeats 4000000 in
set_option maxRecDepth 100000 in
theorem v_X4_enqueue_39 {E : gE} {X : gX} {a : Nat → Nat} {i : Nat} {lt : RS} {ls : RS} {lw : RS} {lh : RS} {lx : RS} {nu : Int32} {z : Int32} {q : RS} {u : RS} {t : RS} {c : RS} {p2 : Int32} {v2 : Int32} {v3 : Int32} {o : (RS × RS × RS)} (C : Cx E X cX4_enqueue 4 RX4 wsX4_enqueue r_X4_enqueue (none) []) (hQ : gQ E X (wB E a ++ (wX2 E a 2 lt ls lw lh lx ++ wX1 E a i nu z q u t c)) r_X4_enqueue (gO (fun u9 => none) (fun u9 => (wB E a ++ (wX2 E a 2 lt ls lw u9.1 u9.2.1 ++ wX1 E a i nu z u9.2.2 u t c))) (.inr o))) (h : b_X4_enqueue_39 lh lx nu q v2 v3 = some o) : Gx E X (wB E a ++ (wX2 E a 2 lt ls lw lh lx ++ wX1 E a i nu z q u t c)) 4 [(0, .ref (a 0)), (1, .ref (a i)), (2, .int v2), (3, .int v3)] [] 39 0 0 := by
  rw [b_X4_enqueue_39] at h
  refine g_aload_n C 1 rfl rfl dX4_enqueue_39 ?_
  refine g_X1_queue C i_X4_enqueue_X1 m_X4_enqueue_0 12 rfl dX4_enqueue_40 ?_
  refine g_iload_n C 3 rfl rfl dX4_enqueue_43 ?_
  refine g_iload_n C 2 rfl rfl dX4_enqueue_44 ?_
  obtain ⟨a1, ea1, h⟩ := Option.bind_eq_some_iff.mp h
  refine g_cVv (As := [.int v3, .int v2]) (st := []) (w2 := (wB E a ++ (wX2 E a 2 lt ls lw lh lx ++ wX1 E a i nu z a1 u t c))) C (c_X3_insert E (a (i + 1)) (a (i + 2)) 48 q v3 v2 a1 ea1) gX4_enqueue_X3_insert rfl (by decide +kernel) ⟨by decide, by decide, by decide, by decide, Nat.le_of_ble_eq_true rfl⟩ rfl 0 rfl [13, 14] rfl rfl rfl dX4_enqueue_45 ?_
  refine g_aload_n C 0 rfl rfl dX4_enqueue_48 ?_
  refine g_X4_ledger C i_X4_enqueue_X4 m_X4_enqueue_2 0 rfl dX4_enqueue_49 ?_
  refine g_X2_homes C i_X4_enqueue_X2 m_X4_enqueue_4 1 rfl dX4_enqueue_52 ?_
  refine g_iload_n C 2 rfl rfl dX4_enqueue_55 ?_
  refine g_aload_n C 1 rfl rfl dX4_enqueue_56 ?_
  refine g_X1_number C i_X4_enqueue_X1 m_X4_enqueue_6 12 rfl dX4_enqueue_57 ?_
  obtain ⟨a2, ea2, h⟩ := Option.bind_eq_some_iff.mp h
  refine g_cVv (As := [.int v2, .int nu]) (st := []) (w2 := (wB E a ++ (wX2 E a 2 lt ls lw a2 lx ++ wX1 E a i nu z a1 u t c))) C (c_X3_set E (a 9) (a 10) 120 lh v2 nu a2 ea2) gX4_enqueue_X3_set rfl (by decide +kernel) ⟨by decide, by decide, by decide, by decide, Nat.le_of_ble_eq_true rfl⟩ rfl 0 rfl [8, 9] rfl rfl rfl dX4_enqueue_60 ?_
  refine g_aload_n C 0 rfl rfl dX4_enqueue_63 ?_
  refine g_X4_ledger C i_X4_enqueue_X4 m_X4_enqueue_2 0 rfl dX4_enqueue_64 ?_
  refine g_X2_states C i_X4_enqueue_X2 m_X4_enqueue_7 1 rfl dX4_enqueue_67 ?_
  refine g_iload_n C 2 rfl rfl dX4_enqueue_70 ?_
  refine g_iconst C (v := 0) (by decide) dX4_enqueue_71 ?_
  obtain ⟨a3, ea3, h⟩ := Option.bind_eq_some_iff.mp h
  refine g_cVv (As := [.int v2, .int 0]) (st := []) (w2 := (wB E a ++ (wX2 E a 2 lt ls lw a2 a3 ++ wX1 E a i nu z a1 u t c))) C (c_X3_set E (a 11) (a 12) 120 lx v2 0 a3 ea3) gX4_enqueue_X3_set rfl (by decide +kernel) ⟨by decide, by decide, by decide, by decide, Nat.le_of_ble_eq_true rfl⟩ rfl 0 rfl [10, 11] rfl rfl rfl dX4_enqueue_72 ?_
  obtain rfl := Option.some.inj h
  exact g_vret C hQ rfl ⟨by decide, by decide⟩ dX4_enqueue_75
set_option maxHeartbeats 4000000 in
set_option maxRecDepth 100000 in
theorem w_X4_enqueue_8 {E : gE} {X : gX} {a : Nat → Nat} {i : Nat} {lt : RS} {ls : RS} {lw : RS} {lh : RS} {lx : RS} {nu : Int32} {z : Int32} {q : RS} {u : RS} {t : RS} {c : RS} {p2 : Int32} {v2 : Int32} {o : (RS × RS × RS)} (C : Cx E X cX4_enqueue 4 RX4 wsX4_enqueue r_X4_enqueue (none) []) (hQ : gQ E X (wB E a ++ (wX2 E a 2 lt ls lw lh lx ++ wX1 E a i nu z q u t c)) r_X4_enqueue (gO (fun u9 => none) (fun u9 => (wB E a ++ (wX2 E a 2 lt ls lw u9.1 u9.2.1 ++ wX1 E a i nu z u9.2.2 u t c))) (.inr o))) : ∀ (F : Nat) (v3 : Int32), l_X4_enqueue_8 lt lh lx nu q v2 F v3 = some o → Gx E X (wB E a ++ (wX2 E a 2 lt ls lw lh lx ++ wX1 E a i nu z q u t c)) 4 [(0, .ref (a 0)), (1, .ref (a i)), (2, .int v2), (3, .int v3)] [] 8 0 0 := by
  intro F
  induction F with
  | zero => intro v3 h; exact absurd h (by simp [l_X4_enqueue_8])
  | succ F ih =>
    intro v3 h
    rw [l_X4_enqueue_8] at h
    refine g_iload_n C 3 rfl rfl dX4_enqueue_8 ?_
    refine g_if_le C (tgt := 39) dX4_enqueue_9 (by decide) (fun c1 => ?_) (fun c1 => ?_)
    · replace h := (if_pos c1).symm.trans h
      exact v_X4_enqueue_39 (v2 := v2) (v3 := v3) C hQ h
    · replace h := (if_neg c1).symm.trans h
      refine g_aload_n C 0 rfl rfl dX4_enqueue_12 ?_
      refine g_X4_ledger C i_X4_enqueue_X4 m_X4_enqueue_2 0 rfl dX4_enqueue_13 ?_
      refine g_iload_n C 2 rfl rfl dX4_enqueue_16 ?_
      refine g_aload_n C 1 rfl rfl dX4_enqueue_17 ?_
      refine g_X1_queue C i_X4_enqueue_X1 m_X4_enqueue_0 12 rfl dX4_enqueue_18 ?_
      refine g_iload_n C 3 rfl rfl dX4_enqueue_21 ?_
      refine g_iconst C (v := 1) (by decide) dX4_enqueue_22 ?_
      refine g_isub C dX4_enqueue_23 ?_
      obtain ⟨a2, ea2, h⟩ := Option.bind_eq_some_iff.mp h
      refine g_cVr (As := [.int (v3 - 1)]) (st := [.int v2, .ref (a 2)]) (w2 := (wB E a ++ (wX2 E a 2 lt ls lw lh lx ++ wX1 E a i nu z q u t c))) C (c_X3_get E (a (i + 1)) (a (i + 2)) 48 q (v3 - 1) a2 ea2) gX4_enqueue_X3_get rfl (by decide +kernel) ⟨by decide, by decide, by decide, by decide, Nat.le_of_ble_eq_true rfl⟩ rfl 0 rfl [13, 14] rfl rfl rfl dX4_enqueue_24 ?_
      obtain ⟨a3, ea3, h⟩ := Option.bind_eq_some_iff.mp h
      refine g_cVr (As := [.int v2, .int a2]) (st := []) (w2 := (wB E a ++ (wX2 E a 2 lt ls lw lh lx ++ wX1 E a i nu z q u t c))) C (c_X2_isAhead E a 2 lt ls lw lh lx v2 a2 a3 ea3) gX4_enqueue_X2_isAhead rfl (by decide +kernel) ⟨by decide, by decide, by decide, by decide, Nat.le_of_ble_eq_true rfl⟩ rfl 0 rfl [1, 2, 3, 4, 5, 6, 7, 8, 9, 10, 11] rfl rfl rfl dX4_enqueue_27 ?_
      refine g_if_eq C (tgt := 39) dX4_enqueue_30 (by decide) (fun c4 => ?_) (fun c4 => ?_)
      · replace h := (if_pos c4).symm.trans h
        exact v_X4_enqueue_39 (v2 := v2) (v3 := v3) C hQ h
      · replace h := (if_neg c4).symm.trans h
        refine g_iinc C (v := v3 + (-1)) 3 rfl rfl (lv2 := [(3, .int (v3 + (-1))), (0, .ref (a 0)), (1, .ref (a i)), (2, .int v2)]) rfl (by decide) dX4_enqueue_33 ?_
        refine g_goto C (tgt := 8) dX4_enqueue_36 (by decide) ?_
        refine g_lv [1, 2, 3, 0] (lv2 := [(0, .ref (a 0)), (1, .ref (a i)), (2, .int v2), (3, .int (v3 + (-1)))]) rfl ?_
        exact ih (v3 + (-1)) h
set_option maxHeartbeats 4000000 in
set_option maxRecDepth 100000 in
theorem c_X4_enqueue (E : gE) (a : Nat → Nat) (i : Nat) (lt : RS) (ls : RS) (lw : RS) (lh : RS) (lx : RS) (nu : Int32) (z : Int32) (q : RS) (u : RS) (t : RS) (c : RS) (p2 : Int32) (o : (RS × RS × RS)) (h : f_X4_enqueue lt lh lx nu q p2 = some o) : Ct E yX4_enqueue wsX4_enqueue r_X4_enqueue [.ref (a 0), .ref (a i), .int p2] (wB E a ++ (wX2 E a 2 lt ls lw lh lx ++ wX1 E a i nu z q u t c)) (gO (fun u9 => none) (fun u9 => (wB E a ++ (wX2 E a 2 lt ls lw u9.1 u9.2.1 ++ wX1 E a i nu z u9.2.2 u t c))) (.inr o)) := by
  refine Ct.of (cc := cX4_enqueue) (nL := 4) (ret := (none)) (own := RX4) (by decide) rfl rfl (Nat.le_of_ble_eq_true rfl) rfl ?_ ?_
  · intro v w1 hh
    cases hh; rfl
  · intro X C hQ
    rw [f_X4_enqueue] at h
    refine g_aload_n C 1 rfl rfl dX4_enqueue_0 ?_
    refine g_X1_queue C i_X4_enqueue_X1 m_X4_enqueue_0 12 rfl dX4_enqueue_1 ?_
    obtain ⟨a1, ea1, h⟩ := Option.bind_eq_some_iff.mp h
    refine g_cVr (As := []) (st := []) (w2 := (wB E a ++ (wX2 E a 2 lt ls lw lh lx ++ wX1 E a i nu z q u t c))) C (c_X3_size E (a (i + 1)) (a (i + 2)) 48 q a1 ea1) gX4_enqueue_X3_size rfl (by decide +kernel) ⟨by decide, by decide, by decide, by decide, Nat.le_of_ble_eq_true rfl⟩ rfl 0 rfl [13, 14] rfl rfl rfl dX4_enqueue_4 ?_
    refine g_istore_n C (lv2 := [(3, .int a1), (0, .ref (a 0)), (1, .ref (a i)), (2, .int p2)]) rfl (by decide) rfl dX4_enqueue_7 ?_
    refine g_lv [1, 2, 3, 0] (lv2 := [(0, .ref (a 0)), (1, .ref (a i)), (2, .int p2), (3, .int a1)]) rfl ?_
    exact w_X4_enqueue_8 (v2 := p2) C hQ FU a1 h
abbrev r_X4_make : Room := { frames := 5, cells := 0, slots := 0, locals := 126 }
theorem m_X4_make_0 : Cond.fieldLink RX4 10 "Bookinghouse" "ledger" "LBookinghouse$Ledger;" ∈ wsX4_make := by decide +kernel
theorem i_X4_make_X4 : ∀ w ∈ wsX40, w ∈ wsX4_make := by decide +kernel
set_option maxHeartbeats 4000000 in
set_option maxRecDepth 100000 in
theorem c_X4_make (E : gE) (a : Nat → Nat) (i : Nat) (lt : RS) (ls : RS) (lw : RS) (lh : RS) (lx : RS) (nu : Int32) (z : Int32) (q : RS) (u : RS) (t : RS) (c : RS) (p2 : Int32) (p3 : Int32) (p4 : Int32) (o : (Int32 × RS × RS × RS × RS × RS × RS)) (h : f_X4_make lt ls lw lh lx nu q p2 p3 p4 = some o) : Ct E yX4_make wsX4_make r_X4_make [.ref (a 0), .ref (a i), .int p2, .int p3, .int p4] (wB E a ++ (wX2 E a 2 lt ls lw lh lx ++ wX1 E a i nu z q u t c)) (gO (fun u9 => some (.int u9.1)) (fun u9 => (wB E a ++ (wX2 E a 2 u9.2.1 u9.2.2.1 u9.2.2.2.1 u9.2.2.2.2.1 u9.2.2.2.2.2.1 ++ wX1 E a i nu z u9.2.2.2.2.2.2 u t c))) (.inr o)) := by
  refine Ct.of (cc := cX4_make) (nL := 6) (ret := ((some .int))) (own := RX4) (by decide) rfl rfl (Nat.le_of_ble_eq_true rfl) rfl ?_ ?_
  · intro v w1 hh
    cases hh; rfl
  · intro X C hQ
    rw [f_X4_make] at h
    refine g_aload_n C 0 rfl rfl dX4_make_0 ?_
    refine g_X4_ledger C i_X4_make_X4 m_X4_make_0 0 rfl dX4_make_1 ?_
    refine g_iload_n C 2 rfl rfl dX4_make_4 ?_
    refine g_iload_n C 3 rfl rfl dX4_make_5 ?_
    refine g_iload C 4 rfl dX4_make_6 ?_
    obtain ⟨a1, ea1, h⟩ := Option.bind_eq_some_iff.mp h
    refine g_cVr (As := [.int p2, .int p3, .int p4]) (st := []) (w2 := (wB E a ++ (wX2 E a 2 a1.2.1 a1.2.2.1 a1.2.2.2.1 a1.2.2.2.2.1 a1.2.2.2.2.2 ++ wX1 E a i nu z q u t c))) C (c_X2_enter E a 2 lt ls lw lh lx p2 p3 p4 a1 ea1) gX4_make_X2_enter rfl (by decide +kernel) ⟨by decide, by decide, by decide, by decide, Nat.le_of_ble_eq_true rfl⟩ rfl 0 rfl [1, 2, 3, 4, 5, 6, 7, 8, 9, 10, 11] rfl rfl rfl dX4_make_8 ?_
    refine g_istore C (lv2 := [(5, .int a1.1), (0, .ref (a 0)), (1, .ref (a i)), (2, .int p2), (3, .int p3), (4, .int p4)]) rfl (by decide) dX4_make_11 ?_
    refine g_aload_n C 1 rfl rfl dX4_make_13 ?_
    refine g_aload_n C 2 rfl rfl dX4_make_14 ?_
    refine g_iload C 0 rfl dX4_make_15 ?_
    obtain ⟨a2, ea2, h⟩ := Option.bind_eq_some_iff.mp h
    refine g_cVv (As := [.ref (a i), .int a1.1]) (st := []) (w2 := (wB E a ++ (wX2 E a 2 a1.2.1 a1.2.2.1 a1.2.2.2.1 a2.1 a2.2.1 ++ wX1 E a i nu z a2.2.2 u t c))) C (c_X4_enqueue E a i a1.2.1 a1.2.2.1 a1.2.2.2.1 a1.2.2.2.2.1 a1.2.2.2.2.2 nu z q u t c a1.1 a2 ea2) gX4_make_X4_enqueue rfl (by decide +kernel) ⟨by decide, by decide, by decide, by decide, Nat.le_of_ble_eq_true rfl⟩ rfl 0 rfl [0, 1, 2, 3, 4, 5, 6, 7, 8, 9, 10, 11, 12, 13, 14, 15, 16, 17, 18, 19, 20, 21] rfl rfl rfl dX4_make_17 ?_
    refine g_iload C 0 rfl dX4_make_20 ?_
    obtain rfl := Option.some.inj h
    exact g_iret C hQ rfl ⟨by decide, by decide⟩ dX4_make_22
abbrev r_X4_callOffPlace : Room := { frames := 3, cells := 0, slots := 0, locals := 82 }
theorem m_X4_callOffPlace_0 : Cond.fieldLink RX4 10 "Bookinghouse" "ledger" "LBookinghouse$Ledger;" ∈ wsX4_callOffPlace := by decide +kernel
theorem i_X4_callOffPlace_X4 : ∀ w ∈ wsX40, w ∈ wsX4_callOffPlace := by decide +kernel
theorem m_X4_callOffPlace_2 : Cond.fieldLink RX4 173 "Bookinghouse$Ledger" "states" "LBookinghouse$Row;" ∈ wsX4_callOffPlace := by decide +kernel
theorem i_X4_callOffPlace_X2 : ∀ w ∈ wsX20, w ∈ wsX4_callOffPlace := by decide +kernel
theorem m_X4_callOffPlace_4 : Cond.fieldLink RX4 71 "Bookinghouse$House" "queue" "LBookinghouse$Row;" ∈ wsX4_callOffPlace := by decide +kernel
theorem i_X4_callOffPlace_X1 : ∀ w ∈ wsX10, w ∈ wsX4_callOffPlace := by decide +kernel
set_option maxHeartbeats 4000000 in
set_option maxRecDepth 100000 in
theorem c_X4_callOffPlace (E : gE) (a : Nat → Nat) (i : Nat) (lt : RS) (ls : RS) (lw : RS) (lh : RS) (lx : RS) (nu : Int32) (z : Int32) (q : RS) (u : RS) (t : RS) (c : RS) (p2 : Int32) (o : (RS × RS)) (h : f_X4_callOffPlace lx q p2 = some o) : Ct E yX4_callOffPlace wsX4_callOffPlace r_X4_callOffPlace [.ref (a 0), .ref (a i), .int p2] (wB E a ++ (wX2 E a 2 lt ls lw lh lx ++ wX1 E a i nu z q u t c)) (gO (fun u9 => none) (fun u9 => (wB E a ++ (wX2 E a 2 lt ls lw lh u9.1 ++ wX1 E a i nu z u9.2 u t c))) (.inr o)) := by
  refine Ct.of (cc := cX4_callOffPlace) (nL := 3) (ret := (none)) (own := RX4) (by decide) rfl rfl (Nat.le_of_ble_eq_true rfl) rfl ?_ ?_
  · intro v w1 hh
    cases hh; rfl
  · intro X C hQ
    rw [f_X4_callOffPlace] at h
    refine g_aload_n C 0 rfl rfl dX4_callOffPlace_0 ?_
    refine g_X4_ledger C i_X4_callOffPlace_X4 m_X4_callOffPlace_0 0 rfl dX4_callOffPlace_1 ?_
    refine g_X2_states C i_X4_callOffPlace_X2 m_X4_callOffPlace_2 1 rfl dX4_callOffPlace_4 ?_
    refine g_aload_n C 1 rfl rfl dX4_callOffPlace_7 ?_
    refine g_X1_queue C i_X4_callOffPlace_X1 m_X4_callOffPlace_4 12 rfl dX4_callOffPlace_8 ?_
    refine g_iload_n C 2 rfl rfl dX4_callOffPlace_11 ?_
    obtain ⟨a1, ea1, h⟩ := Option.bind_eq_some_iff.mp h
    refine g_cVr (As := [.int p2]) (st := [.ref (a 11)]) (w2 := (wB E a ++ (wX2 E a 2 lt ls lw lh lx ++ wX1 E a i nu z a1.2 u t c))) C (c_X3_remove E (a (i + 1)) (a (i + 2)) 48 q p2 a1 ea1) gX4_callOffPlace_X3_remove rfl (by decide +kernel) ⟨by decide, by decide, by decide, by decide, Nat.le_of_ble_eq_true rfl⟩ rfl 0 rfl [13, 14] rfl rfl rfl dX4_callOffPlace_12 ?_
    refine g_iconst C (v := 2) (by decide) dX4_callOffPlace_15 ?_
    obtain ⟨a2, ea2, h⟩ := Option.bind_eq_some_iff.mp h
    refine g_cVv (As := [.int a1.1, .int 2]) (st := []) (w2 := (wB E a ++ (wX2 E a 2 lt ls lw lh a2 ++ wX1 E a i nu z a1.2 u t c))) C (c_X3_set E (a 11) (a 12) 120 lx a1.1 2 a2 ea2) gX4_callOffPlace_X3_set rfl (by decide +kernel) ⟨by decide, by decide, by decide, by decide, Nat.le_of_ble_eq_true rfl⟩ rfl 0 rfl [10, 11] rfl rfl rfl dX4_callOffPlace_16 ?_
    obtain rfl := Option.some.inj h
    exact g_vret C hQ rfl ⟨by decide, by decide⟩ dX4_callOffPlace_19
abbrev r_X4_letFirstCome : Room := { frames := 5, cells := 0, slots := 0, locals := 128 }
theorem m_X4_letFirstCome_0 : Cond.fieldLink RX4 71 "Bookinghouse$House" "queue" "LBookinghouse$Row;" ∈ wsX4_letFirstCome := by decide +kernel
theorem i_X4_letFirstCome_X1 : ∀ w ∈ wsX10, w ∈ wsX4_letFirstCome := by decide +kernel
theorem m_X4_letFirstCome_2 : Cond.fieldLink RX4 150 "Bookinghouse$House" "past" "LBookinghouse$Row;" ∈ wsX4_letFirstCome := by decide +kernel
theorem m_X4_letFirstCome_3 : Cond.fieldLink RX4 10 "Bookinghouse" "ledger" "LBookinghouse$Ledger;" ∈ wsX4_letFirstCome := by decide +kernel
theorem i_X4_letFirstCome_X4 : ∀ w ∈ wsX40, w ∈ wsX4_letFirstCome := by decide +kernel
theorem m_X4_letFirstCome_5 : Cond.fieldLink RX4 110 "Bookinghouse$Ledger" "times" "LBookinghouse$Row;" ∈ wsX4_letFirstCome := by decide +kernel
theorem i_X4_letFirstCome_X2 : ∀ w ∈ wsX20, w ∈ wsX4_letFirstCome := by decide +kernel
theorem m_X4_letFirstCome_7 : Cond.fieldLink RX4 101 "Bookinghouse$House" "now" "I" ∈ wsX4_letFirstCome := by decide +kernel
theorem m_X4_letFirstCome_8 : Cond.fieldLink RX4 178 "Bookinghouse$House" "crowd" "LBookinghouse$Crowd;" ∈ wsX4_letFirstCome := by decide +kernel
theorem m_X4_letFirstCome_9 : Cond.fieldLink RX4 167 "Bookinghouse$Ledger" "weights" "LBookinghouse$Row;" ∈ wsX4_letFirstCome := by decide +kernel
theorem m_X4_letFirstCome_10 : Cond.fieldLink RX4 173 "Bookinghouse$Ledger" "states" "LBookinghouse$Row;" ∈ wsX4_letFirstCome := by decide +kernel
set_option maxHeartbeats 4000000 in
set_option maxRecDepth 100000 in
theorem c_X4_letFirstCome (E : gE) (a : Nat → Nat) (i : Nat) (lt : RS) (ls : RS) (lw : RS) (lh : RS) (lx : RS) (nu : Int32) (z : Int32) (q : RS) (u : RS) (t : RS) (c : RS) (o : (Int32 × RS × Int32 × RS × RS × RS × RS)) (h : f_X4_letFirstCome lt ls lw lx q u t c = some o) : Ct E yX4_letFirstCome wsX4_letFirstCome r_X4_letFirstCome [.ref (a 0), .ref (a i)] (wB E a ++ (wX2 E a 2 lt ls lw lh lx ++ wX1 E a i nu z q u t c)) (gO (fun u9 => some (.int u9.1)) (fun u9 => (wB E a ++ (wX2 E a 2 lt ls lw lh u9.2.1 ++ wX1 E a i nu u9.2.2.1 u9.2.2.2.1 u9.2.2.2.2.1 u9.2.2.2.2.2.1 u9.2.2.2.2.2.2))) (.inr o)) := by
  refine Ct.of (cc := cX4_letFirstCome) (nL := 3) (ret := ((some .int))) (own := RX4) (by decide) rfl rfl (Nat.le_of_ble_eq_true rfl) rfl ?_ ?_
  · intro v w1 hh
    cases hh; rfl
  · intro X C hQ
    rw [f_X4_letFirstCome] at h
    refine g_aload_n C 1 rfl rfl dX4_letFirstCome_0 ?_
    refine g_X1_queue C i_X4_letFirstCome_X1 m_X4_letFirstCome_0 12 rfl dX4_letFirstCome_1 ?_
    refine g_iconst C (v := 0) (by decide) dX4_letFirstCome_4 ?_
    obtain ⟨a1, ea1, h⟩ := Option.bind_eq_some_iff.mp h
    refine g_cVr (As := [.int 0]) (st := []) (w2 := (wB E a ++ (wX2 E a 2 lt ls lw lh lx ++ wX1 E a i nu z a1.2 u t c))) C (c_X3_remove E (a (i + 1)) (a (i + 2)) 48 q 0 a1 ea1) gX4_letFirstCome_X3_remove rfl (by decide +kernel) ⟨by decide, by decide, by decide, by decide, Nat.le_of_ble_eq_true rfl⟩ rfl 0 rfl [13, 14] rfl rfl rfl dX4_letFirstCome_5 ?_
    refine g_istore_n C (lv2 := [(2, .int a1.1), (0, .ref (a 0)), (1, .ref (a i))]) rfl (by decide) rfl dX4_letFirstCome_8 ?_
    refine g_aload_n C 2 rfl rfl dX4_letFirstCome_9 ?_
    refine g_X1_past C i_X4_letFirstCome_X1 m_X4_letFirstCome_2 12 rfl dX4_letFirstCome_10 ?_
    refine g_iload_n C 0 rfl rfl dX4_letFirstCome_13 ?_
    obtain ⟨a2, ea2, h⟩ := Option.bind_eq_some_iff.mp h
    refine g_cVv (As := [.int a1.1]) (st := []) (w2 := (wB E a ++ (wX2 E a 2 lt ls lw lh lx ++ wX1 E a i nu z a1.2 a2 t c))) C (c_X3_add E (a (i + 3)) (a (i + 4)) 120 u a1.1 a2 ea2) gX4_letFirstCome_X3_add rfl (by decide +kernel) ⟨by decide, by decide, by decide, by decide, Nat.le_of_ble_eq_true rfl⟩ rfl 0 rfl [15, 16] rfl rfl rfl dX4_letFirstCome_14 ?_
    refine g_aload_n C 2 rfl rfl dX4_letFirstCome_17 ?_
    refine g_aload_n C 1 rfl rfl dX4_letFirstCome_18 ?_
    refine g_X4_ledger C i_X4_letFirstCome_X4 m_X4_letFirstCome_3 0 rfl dX4_letFirstCome_19 ?_
    refine g_X2_times C i_X4_letFirstCome_X2 m_X4_letFirstCome_5 1 rfl dX4_letFirstCome_22 ?_
    refine g_iload_n C 0 rfl rfl dX4_letFirstCome_25 ?_
    obtain ⟨a3, ea3, h⟩ := Option.bind_eq_some_iff.mp h
    refine g_cVr (As := [.int a1.1]) (st := [.ref (a i)]) (w2 := (wB E a ++ (wX2 E a 2 lt ls lw lh lx ++ wX1 E a i nu z a1.2 a2 t c))) C (c_X3_get E (a 3) (a 4) 120 lt a1.1 a3 ea3) gX4_letFirstCome_X3_get rfl (by decide +kernel) ⟨by decide, by decide, by decide, by decide, Nat.le_of_ble_eq_true rfl⟩ rfl 0 rfl [2, 3] rfl rfl rfl dX4_letFirstCome_26 ?_
    refine g_X1_set_now C i_X4_letFirstCome_X1 m_X4_letFirstCome_7 12 rfl (ws2 := (wB E a ++ (wX2 E a 2 lt ls lw lh lx ++ wX1 E a i nu a3 a1.2 a2 t c))) rfl dX4_letFirstCome_29 ?_
    refine g_aload_n C 2 rfl rfl dX4_letFirstCome_32 ?_
    refine g_X1_crowd C i_X4_letFirstCome_X1 m_X4_letFirstCome_8 12 rfl dX4_letFirstCome_33 ?_
    refine g_aload_n C 2 rfl rfl dX4_letFirstCome_36 ?_
    refine g_X1_now C i_X4_letFirstCome_X1 m_X4_letFirstCome_7 12 rfl dX4_letFirstCome_37 ?_
    refine g_aload_n C 1 rfl rfl dX4_letFirstCome_40 ?_
    refine g_X4_ledger C i_X4_letFirstCome_X4 m_X4_letFirstCome_3 0 rfl dX4_letFirstCome_41 ?_
    refine g_iload_n C 0 rfl rfl dX4_letFirstCome_44 ?_
    obtain ⟨a4, ea4, h⟩ := Option.bind_eq_some_iff.mp h
    refine g_cVr (As := [.int a1.1]) (st := [.int a3, .ref (a (i + 5))]) (w2 := (wB E a ++ (wX2 E a 2 lt ls lw lh lx ++ wX1 E a i nu a3 a1.2 a2 t c))) C (c_X2_end E a 2 lt ls lw lh lx a1.1 a4 ea4) gX4_letFirstCome_X2_end rfl (by decide +kernel) ⟨by decide, by decide, by decide, by decide, Nat.le_of_ble_eq_true rfl⟩ rfl 0 rfl [1, 2, 3, 4, 5, 6, 7, 8, 9, 10, 11] rfl rfl rfl dX4_letFirstCome_45 ?_
    refine g_aload_n C 1 rfl rfl dX4_letFirstCome_48 ?_
    refine g_X4_ledger C i_X4_letFirstCome_X4 m_X4_letFirstCome_3 0 rfl dX4_letFirstCome_49 ?_
    refine g_X2_weights C i_X4_letFirstCome_X2 m_X4_letFirstCome_9 1 rfl dX4_letFirstCome_52 ?_
    refine g_iload_n C 0 rfl rfl dX4_letFirstCome_55 ?_
    obtain ⟨a5, ea5, h⟩ := Option.bind_eq_some_iff.mp h
    refine g_cVr (As := [.int a1.1]) (st := [.int a4, .int a3, .ref (a (i + 5))]) (w2 := (wB E a ++ (wX2 E a 2 lt ls lw lh lx ++ wX1 E a i nu a3 a1.2 a2 t c))) C (c_X3_get E (a 7) (a 8) 120 lw a1.1 a5 ea5) gX4_letFirstCome_X3_get rfl (by decide +kernel) ⟨by decide, by decide, by decide, by decide, Nat.le_of_ble_eq_true rfl⟩ rfl 0 rfl [6, 7] rfl rfl rfl dX4_letFirstCome_56 ?_
    obtain ⟨a6, ea6, h⟩ := Option.bind_eq_some_iff.mp h
    refine g_cVv (As := [.int a3, .int a4, .int a5]) (st := []) (w2 := (wB E a ++ (wX2 E a 2 lt ls lw lh lx ++ wX1 E a i nu a3 a1.2 a2 a6.1 a6.2))) C (c_X0_enter E a (i + 5) t c a3 a4 a5 a6 ea6) gX4_letFirstCome_X0_enter rfl (by decide +kernel) ⟨by decide, by decide, by decide, by decide, Nat.le_of_ble_eq_true rfl⟩ rfl 0 rfl [17, 18, 19, 20, 21] rfl rfl rfl dX4_letFirstCome_59 ?_
    refine g_aload_n C 1 rfl rfl dX4_letFirstCome_62 ?_
    refine g_X4_ledger C i_X4_letFirstCome_X4 m_X4_letFirstCome_3 0 rfl dX4_letFirstCome_63 ?_
    refine g_X2_states C i_X4_letFirstCome_X2 m_X4_letFirstCome_10 1 rfl dX4_letFirstCome_66 ?_
    refine g_iload_n C 0 rfl rfl dX4_letFirstCome_69 ?_
    refine g_iconst C (v := 1) (by decide) dX4_letFirstCome_70 ?_
    obtain ⟨a7, ea7, h⟩ := Option.bind_eq_some_iff.mp h
    refine g_cVv (As := [.int a1.1, .int 1]) (st := []) (w2 := (wB E a ++ (wX2 E a 2 lt ls lw lh a7 ++ wX1 E a i nu a3 a1.2 a2 a6.1 a6.2))) C (c_X3_set E (a 11) (a 12) 120 lx a1.1 1 a7 ea7) gX4_letFirstCome_X3_set rfl (by decide +kernel) ⟨by decide, by decide, by decide, by decide, Nat.le_of_ble_eq_true rfl⟩ rfl 0 rfl [10, 11] rfl rfl rfl dX4_letFirstCome_71 ?_
    refine g_iload_n C 0 rfl rfl dX4_letFirstCome_74 ?_
    obtain rfl := Option.some.inj h
    exact g_iret C hQ rfl ⟨by decide, by decide⟩ dX4_letFirstCome_75
abbrev r_X4_bringLastBack : Room := { frames := 5, cells := 0, slots := 0, locals := 128 }
theorem m_X4_bringLastBack_0 : Cond.fieldLink RX4 150 "Bookinghouse$House" "past" "LBookinghouse$Row;" ∈ wsX4_bringLastBack := by decide +kernel
theorem i_X4_bringLastBack_X1 : ∀ w ∈ wsX10, w ∈ wsX4_bringLastBack := by decide +kernel
theorem m_X4_bringLastBack_2 : Cond.fieldLink RX4 178 "Bookinghouse$House" "crowd" "LBookinghouse$Crowd;" ∈ wsX4_bringLastBack := by decide +kernel
theorem m_X4_bringLastBack_3 : Cond.fieldLink RX4 10 "Bookinghouse" "ledger" "LBookinghouse$Ledger;" ∈ wsX4_bringLastBack := by decide +kernel
theorem i_X4_bringLastBack_X4 : ∀ w ∈ wsX40, w ∈ wsX4_bringLastBack := by decide +kernel
theorem m_X4_bringLastBack_5 : Cond.fieldLink RX4 110 "Bookinghouse$Ledger" "times" "LBookinghouse$Row;" ∈ wsX4_bringLastBack := by decide +kernel
theorem i_X4_bringLastBack_X2 : ∀ w ∈ wsX20, w ∈ wsX4_bringLastBack := by decide +kernel
theorem m_X4_bringLastBack_7 : Cond.fieldLink RX4 167 "Bookinghouse$Ledger" "weights" "LBookinghouse$Row;" ∈ wsX4_bringLastBack := by decide +kernel
set_option maxHeartbeats 4000000 in
set_option maxRecDepth 100000 in
theorem c_X4_bringLastBack (E : gE) (a : Nat → Nat) (i : Nat) (lt : RS) (ls : RS) (lw : RS) (lh : RS) (lx : RS) (nu : Int32) (z : Int32) (q : RS) (u : RS) (t : RS) (c : RS) (o : (RS × RS × RS × RS × RS × RS)) (h : f_X4_bringLastBack lt ls lw lh lx nu q u t c = some o) : Ct E yX4_bringLastBack wsX4_bringLastBack r_X4_bringLastBack [.ref (a 0), .ref (a i)] (wB E a ++ (wX2 E a 2 lt ls lw lh lx ++ wX1 E a i nu z q u t c)) (gO (fun u9 => none) (fun u9 => (wB E a ++ (wX2 E a 2 lt ls lw u9.1 u9.2.1 ++ wX1 E a i nu z u9.2.2.1 u9.2.2.2.1 u9.2.2.2.2.1 u9.2.2.2.2.2))) (.inr o)) := by
  refine Ct.of (cc := cX4_bringLastBack) (nL := 3) (ret := (none)) (own := RX4) (by decide) rfl rfl (Nat.le_of_ble_eq_true rfl) rfl ?_ ?_
  · intro v w1 hh
    cases hh; rfl
  · intro X C hQ
    rw [f_X4_bringLastBack] at h
    refine g_aload_n C 1 rfl rfl dX4_bringLastBack_0 ?_
    refine g_X1_past C i_X4_bringLastBack_X1 m_X4_bringLastBack_0 12 rfl dX4_bringLastBack_1 ?_
    refine g_aload_n C 1 rfl rfl dX4_bringLastBack_4 ?_
    refine g_X1_past C i_X4_bringLastBack_X1 m_X4_bringLastBack_0 12 rfl dX4_bringLastBack_5 ?_
    obtain ⟨a1, ea1, h⟩ := Option.bind_eq_some_iff.mp h
    refine g_cVr (As := []) (st := [.ref (a (i + 3))]) (w2 := (wB E a ++ (wX2 E a 2 lt ls lw lh lx ++ wX1 E a i nu z q u t c))) C (c_X3_size E (a (i + 3)) (a (i + 4)) 120 u a1 ea1) gX4_bringLastBack_X3_size rfl (by decide +kernel) ⟨by decide, by decide, by decide, by decide, Nat.le_of_ble_eq_true rfl⟩ rfl 0 rfl [15, 16] rfl rfl rfl dX4_bringLastBack_8 ?_
    refine g_iconst C (v := 1) (by decide) dX4_bringLastBack_11 ?_
    refine g_isub C dX4_bringLastBack_12 ?_
    obtain ⟨a2, ea2, h⟩ := Option.bind_eq_some_iff.mp h
    refine g_cVr (As := [.int (a1 - 1)]) (st := []) (w2 := (wB E a ++ (wX2 E a 2 lt ls lw lh lx ++ wX1 E a i nu z q a2.2 t c))) C (c_X3_remove E (a (i + 3)) (a (i + 4)) 120 u (a1 - 1) a2 ea2) gX4_bringLastBack_X3_remove rfl (by decide +kernel) ⟨by decide, by decide, by decide, by decide, Nat.le_of_ble_eq_true rfl⟩ rfl 0 rfl [15, 16] rfl rfl rfl dX4_bringLastBack_13 ?_
    refine g_istore_n C (lv2 := [(2, .int a2.1), (0, .ref (a 0)), (1, .ref (a i))]) rfl (by decide) rfl dX4_bringLastBack_16 ?_
    refine g_aload_n C 2 rfl rfl dX4_bringLastBack_17 ?_
    refine g_X1_crowd C i_X4_bringLastBack_X1 m_X4_bringLastBack_2 12 rfl dX4_bringLastBack_18 ?_
    refine g_aload_n C 1 rfl rfl dX4_bringLastBack_21 ?_
    refine g_X4_ledger C i_X4_bringLastBack_X4 m_X4_bringLastBack_3 0 rfl dX4_bringLastBack_22 ?_
    refine g_X2_times C i_X4_bringLastBack_X2 m_X4_bringLastBack_5 1 rfl dX4_bringLastBack_25 ?_
    refine g_iload_n C 0 rfl rfl dX4_bringLastBack_28 ?_
    obtain ⟨a3, ea3, h⟩ := Option.bind_eq_some_iff.mp h
    refine g_cVr (As := [.int a2.1]) (st := [.ref (a (i + 5))]) (w2 := (wB E a ++ (wX2 E a 2 lt ls lw lh lx ++ wX1 E a i nu z q a2.2 t c))) C (c_X3_get E (a 3) (a 4) 120 lt a2.1 a3 ea3) gX4_bringLastBack_X3_get rfl (by decide +kernel) ⟨by decide, by decide, by decide, by decide, Nat.le_of_ble_eq_true rfl⟩ rfl 0 rfl [2, 3] rfl rfl rfl dX4_bringLastBack_29 ?_
    refine g_aload_n C 1 rfl rfl dX4_bringLastBack_32 ?_
    refine g_X4_ledger C i_X4_bringLastBack_X4 m_X4_bringLastBack_3 0 rfl dX4_bringLastBack_33 ?_
    refine g_iload_n C 0 rfl rfl dX4_bringLastBack_36 ?_
    obtain ⟨a4, ea4, h⟩ := Option.bind_eq_some_iff.mp h
    refine g_cVr (As := [.int a2.1]) (st := [.int a3, .ref (a (i + 5))]) (w2 := (wB E a ++ (wX2 E a 2 lt ls lw lh lx ++ wX1 E a i nu z q a2.2 t c))) C (c_X2_end E a 2 lt ls lw lh lx a2.1 a4 ea4) gX4_bringLastBack_X2_end rfl (by decide +kernel) ⟨by decide, by decide, by decide, by decide, Nat.le_of_ble_eq_true rfl⟩ rfl 0 rfl [1, 2, 3, 4, 5, 6, 7, 8, 9, 10, 11] rfl rfl rfl dX4_bringLastBack_37 ?_
    refine g_aload_n C 1 rfl rfl dX4_bringLastBack_40 ?_
    refine g_X4_ledger C i_X4_bringLastBack_X4 m_X4_bringLastBack_3 0 rfl dX4_bringLastBack_41 ?_
    refine g_X2_weights C i_X4_bringLastBack_X2 m_X4_bringLastBack_7 1 rfl dX4_bringLastBack_44 ?_
    refine g_iload_n C 0 rfl rfl dX4_bringLastBack_47 ?_
    obtain ⟨a5, ea5, h⟩ := Option.bind_eq_some_iff.mp h
    refine g_cVr (As := [.int a2.1]) (st := [.int a4, .int a3, .ref (a (i + 5))]) (w2 := (wB E a ++ (wX2 E a 2 lt ls lw lh lx ++ wX1 E a i nu z q a2.2 t c))) C (c_X3_get E (a 7) (a 8) 120 lw a2.1 a5 ea5) gX4_bringLastBack_X3_get rfl (by decide +kernel) ⟨by decide, by decide, by decide, by decide, Nat.le_of_ble_eq_true rfl⟩ rfl 0 rfl [6, 7] rfl rfl rfl dX4_bringLastBack_48 ?_
    refine g_ineg C dX4_bringLastBack_51 ?_
    obtain ⟨a6, ea6, h⟩ := Option.bind_eq_some_iff.mp h
    refine g_cVv (As := [.int a3, .int a4, .int (-a5)]) (st := []) (w2 := (wB E a ++ (wX2 E a 2 lt ls lw lh lx ++ wX1 E a i nu z q a2.2 a6.1 a6.2))) C (c_X0_enter E a (i + 5) t c a3 a4 (-a5) a6 ea6) gX4_bringLastBack_X0_enter rfl (by decide +kernel) ⟨by decide, by decide, by decide, by decide, Nat.le_of_ble_eq_true rfl⟩ rfl 0 rfl [17, 18, 19, 20, 21] rfl rfl rfl dX4_bringLastBack_52 ?_
    refine g_aload_n C 1 rfl rfl dX4_bringLastBack_55 ?_
    refine g_aload_n C 2 rfl rfl dX4_bringLastBack_56 ?_
    refine g_iload_n C 0 rfl rfl dX4_bringLastBack_57 ?_
    obtain ⟨a7, ea7, h⟩ := Option.bind_eq_some_iff.mp h
    refine g_cVv (As := [.ref (a i), .int a2.1]) (st := []) (w2 := (wB E a ++ (wX2 E a 2 lt ls lw a7.1 a7.2.1 ++ wX1 E a i nu z a7.2.2 a2.2 a6.1 a6.2))) C (c_X4_enqueue E a i lt ls lw lh lx nu z q a2.2 a6.1 a6.2 a2.1 a7 ea7) gX4_bringLastBack_X4_enqueue rfl (by decide +kernel) ⟨by decide, by decide, by decide, by decide, Nat.le_of_ble_eq_true rfl⟩ rfl 0 rfl [0, 1, 2, 3, 4, 5, 6, 7, 8, 9, 10, 11, 12, 13, 14, 15, 16, 17, 18, 19, 20, 21] rfl rfl rfl dX4_bringLastBack_58 ?_
    obtain rfl := Option.some.inj h
    exact g_vret C hQ rfl ⟨by decide, by decide⟩ dX4_bringLastBack_61
abbrev r_X4_waitingAheadOf : Room := { frames := 3, cells := 0, slots := 0, locals := 62 }
theorem m_X4_waitingAheadOf_0 : Cond.fieldLink RX4 71 "Bookinghouse$House" "queue" "LBookinghouse$Row;" ∈ wsX4_waitingAheadOf := by decide +kernel
theorem i_X4_waitingAheadOf_X1 : ∀ w ∈ wsX10, w ∈ wsX4_waitingAheadOf := by decide +kernel
theorem m_X4_waitingAheadOf_2 : Cond.fieldLink RX4 10 "Bookinghouse" "ledger" "LBookinghouse$Ledger;" ∈ wsX4_waitingAheadOf := by decide +kernel
theorem i_X4_waitingAheadOf_X4 : ∀ w ∈ wsX40, w ∈ wsX4_waitingAheadOf := by decide +kernel
theorem m_X4_waitingAheadOf_4 : Cond.fieldLink RX4 110 "Bookinghouse$Ledger" "times" "LBookinghouse$Row;" ∈ wsX4_waitingAheadOf := by decide +kernel
theorem i_X4_waitingAheadOf_X2 : ∀ w ∈ wsX20, w ∈ wsX4_waitingAheadOf := by decide +kernel
set_option maxHeartbeats 4000000 in
set_option maxRecDepth 100000 in
theorem w_X4_waitingAheadOf_2 {E : gE} {X : gX} {a : Nat → Nat} {i : Nat} {lt : RS} {ls : RS} {lw : RS} {lh : RS} {lx : RS} {nu : Int32} {z : Int32} {q : RS} {u : RS} {t : RS} {c : RS} {p2 : Int32} {v2 : Int32} {o : (Int32)} (C : Cx E X cX4_waitingAheadOf 4 RX4 wsX4_waitingAheadOf r_X4_waitingAheadOf ((some .int)) []) (hQ : gQ E X (wB E a ++ (wX2 E a 2 lt ls lw lh lx ++ wX1 E a i nu z q u t c)) r_X4_waitingAheadOf (gO (fun u9 => some (.int u9)) (fun u9 => (wB E a ++ (wX2 E a 2 lt ls lw lh lx ++ wX1 E a i nu z q u t c))) (.inr o))) : ∀ (F : Nat) (v3 : Int32), l_X4_waitingAheadOf_2 lt q v2 F v3 = some o → Gx E X (wB E a ++ (wX2 E a 2 lt ls lw lh lx ++ wX1 E a i nu z q u t c)) 4 [(0, .ref (a 0)), (1, .ref (a i)), (2, .int v2), (3, .int v3)] [] 2 0 0 := by
  intro F
  induction F with
  | zero => intro v3 h; exact absurd h (by simp [l_X4_waitingAheadOf_2])
  | succ F ih =>
    intro v3 h
    rw [l_X4_waitingAheadOf_2] at h
    refine g_iload_n C 3 rfl rfl dX4_waitingAheadOf_2 ?_
    refine g_aload_n C 1 rfl rfl dX4_waitingAheadOf_3 ?_
    refine g_X1_queue C i_X4_waitingAheadOf_X1 m_X4_waitingAheadOf_0 12 rfl dX4_waitingAheadOf_4 ?_
    obtain ⟨a1, ea1, h⟩ := Option.bind_eq_some_iff.mp h
    refine g_cVr (As := []) (st := [.int v3]) (w2 := (wB E a ++ (wX2 E a 2 lt ls lw lh lx ++ wX1 E a i nu z q u t c))) C (c_X3_size E (a (i + 1)) (a (i + 2)) 48 q a1 ea1) gX4_waitingAheadOf_X3_size rfl (by decide +kernel) ⟨by decide, by decide, by decide, by decide, Nat.le_of_ble_eq_true rfl⟩ rfl 0 rfl [13, 14] rfl rfl rfl dX4_waitingAheadOf_7 ?_
    refine g_icmp_ge C (tgt := 41) dX4_waitingAheadOf_10 (by decide) (fun c2 => ?_) (fun c2 => ?_)
    · replace h := (if_pos c2).symm.trans h
      refine g_iload_n C 3 rfl rfl dX4_waitingAheadOf_41 ?_
      obtain rfl := Option.some.inj h
      exact g_iret C hQ rfl ⟨by decide, by decide⟩ dX4_waitingAheadOf_42
    · replace h := (if_neg c2).symm.trans h
      refine g_aload_n C 0 rfl rfl dX4_waitingAheadOf_13 ?_
      refine g_X4_ledger C i_X4_waitingAheadOf_X4 m_X4_waitingAheadOf_2 0 rfl dX4_waitingAheadOf_14 ?_
      refine g_X2_times C i_X4_waitingAheadOf_X2 m_X4_waitingAheadOf_4 1 rfl dX4_waitingAheadOf_17 ?_
      refine g_aload_n C 1 rfl rfl dX4_waitingAheadOf_20 ?_
      refine g_X1_queue C i_X4_waitingAheadOf_X1 m_X4_waitingAheadOf_0 12 rfl dX4_waitingAheadOf_21 ?_
      refine g_iload_n C 3 rfl rfl dX4_waitingAheadOf_24 ?_
      obtain ⟨a3, ea3, h⟩ := Option.bind_eq_some_iff.mp h
      refine g_cVr (As := [.int v3]) (st := [.ref (a 3)]) (w2 := (wB E a ++ (wX2 E a 2 lt ls lw lh lx ++ wX1 E a i nu z q u t c))) C (c_X3_get E (a (i + 1)) (a (i + 2)) 48 q v3 a3 ea3) gX4_waitingAheadOf_X3_get rfl (by decide +kernel) ⟨by decide, by decide, by decide, by decide, Nat.le_of_ble_eq_true rfl⟩ rfl 0 rfl [13, 14] rfl rfl rfl dX4_waitingAheadOf_25 ?_
      obtain ⟨a4, ea4, h⟩ := Option.bind_eq_some_iff.mp h
      refine g_cVr (As := [.int a3]) (st := []) (w2 := (wB E a ++ (wX2 E a 2 lt ls lw lh lx ++ wX1 E a i nu z q u t c))) C (c_X3_get E (a 3) (a 4) 120 lt a3 a4 ea4) gX4_waitingAheadOf_X3_get rfl (by decide +kernel) ⟨by decide, by decide, by decide, by decide, Nat.le_of_ble_eq_true rfl⟩ rfl 0 rfl [2, 3] rfl rfl rfl dX4_waitingAheadOf_28 ?_
      refine g_iload_n C 2 rfl rfl dX4_waitingAheadOf_31 ?_
      refine g_icmp_ge C (tgt := 41) dX4_waitingAheadOf_32 (by decide) (fun c5 => ?_) (fun c5 => ?_)
      · replace h := (if_pos c5).symm.trans h
        refine g_iload_n C 3 rfl rfl dX4_waitingAheadOf_41 ?_
        obtain rfl := Option.some.inj h
        exact g_iret C hQ rfl ⟨by decide, by decide⟩ dX4_waitingAheadOf_42
      · replace h := (if_neg c5).symm.trans h
        refine g_iinc C (v := v3 + 1) 3 rfl rfl (lv2 := [(3, .int (v3 + 1)), (0, .ref (a 0)), (1, .ref (a i)), (2, .int v2)]) rfl (by decide) dX4_waitingAheadOf_35 ?_
        refine g_goto C (tgt := 2) dX4_waitingAheadOf_38 (by decide) ?_
        refine g_lv [1, 2, 3, 0] (lv2 := [(0, .ref (a 0)), (1, .ref (a i)), (2, .int v2), (3, .int (v3 + 1))]) rfl ?_
        exact ih (v3 + 1) h
set_option maxHeartbeats 4000000 in
set_option maxRecDepth 100000 in
theorem c_X4_waitingAheadOf (E : gE) (a : Nat → Nat) (i : Nat) (lt : RS) (ls : RS) (lw : RS) (lh : RS) (lx : RS) (nu : Int32) (z : Int32) (q : RS) (u : RS) (t : RS) (c : RS) (p2 : Int32) (o : (Int32)) (h : f_X4_waitingAheadOf lt q p2 = some o) : Ct E yX4_waitingAheadOf wsX4_waitingAheadOf r_X4_waitingAheadOf [.ref (a 0), .ref (a i), .int p2] (wB E a ++ (wX2 E a 2 lt ls lw lh lx ++ wX1 E a i nu z q u t c)) (gO (fun u9 => some (.int u9)) (fun u9 => (wB E a ++ (wX2 E a 2 lt ls lw lh lx ++ wX1 E a i nu z q u t c))) (.inr o)) := by
  refine Ct.of (cc := cX4_waitingAheadOf) (nL := 4) (ret := ((some .int))) (own := RX4) (by decide) rfl rfl (Nat.le_of_ble_eq_true rfl) rfl ?_ ?_
  · intro v w1 hh
    cases hh; rfl
  · intro X C hQ
    rw [f_X4_waitingAheadOf] at h
    refine g_iconst C (v := 0) (by decide) dX4_waitingAheadOf_0 ?_
    refine g_istore_n C (lv2 := [(3, .int 0), (0, .ref (a 0)), (1, .ref (a i)), (2, .int p2)]) rfl (by decide) rfl dX4_waitingAheadOf_1 ?_
    refine g_lv [1, 2, 3, 0] (lv2 := [(0, .ref (a 0)), (1, .ref (a i)), (2, .int p2), (3, .int 0)]) rfl ?_
    exact w_X4_waitingAheadOf_2 (v2 := p2) C hQ FU 0 h
abbrev r_X4_cameBehind : Room := { frames := 3, cells := 0, slots := 0, locals := 62 }
theorem m_X4_cameBehind_0 : Cond.fieldLink RX4 150 "Bookinghouse$House" "past" "LBookinghouse$Row;" ∈ wsX4_cameBehind := by decide +kernel
theorem i_X4_cameBehind_X1 : ∀ w ∈ wsX10, w ∈ wsX4_cameBehind := by decide +kernel
theorem m_X4_cameBehind_2 : Cond.fieldLink RX4 10 "Bookinghouse" "ledger" "LBookinghouse$Ledger;" ∈ wsX4_cameBehind := by decide +kernel
theorem i_X4_cameBehind_X4 : ∀ w ∈ wsX40, w ∈ wsX4_cameBehind := by decide +kernel
theorem m_X4_cameBehind_4 : Cond.fieldLink RX4 110 "Bookinghouse$Ledger" "times" "LBookinghouse$Row;" ∈ wsX4_cameBehind := by decide +kernel
theorem i_X4_cameBehind_X2 : ∀ w ∈ wsX20, w ∈ wsX4_cameBehind := by decide +kernel
set_option maxHeartbeats 4000000 in
set_option maxRecDepth 100000 in
theorem w_X4_cameBehind_8 {E : gE} {X : gX} {a : Nat → Nat} {i : Nat} {lt : RS} {ls : RS} {lw : RS} {lh : RS} {lx : RS} {nu : Int32} {z : Int32} {q : RS} {u : RS} {t : RS} {c : RS} {p2 : Int32} {v2 : Int32} {o : (Int32)} (C : Cx E X cX4_cameBehind 4 RX4 wsX4_cameBehind r_X4_cameBehind ((some .int)) []) (hQ : gQ E X (wB E a ++ (wX2 E a 2 lt ls lw lh lx ++ wX1 E a i nu z q u t c)) r_X4_cameBehind (gO (fun u9 => some (.int u9)) (fun u9 => (wB E a ++ (wX2 E a 2 lt ls lw lh lx ++ wX1 E a i nu z q u t c))) (.inr o))) : ∀ (F : Nat) (v3 : Int32), l_X4_cameBehind_8 lt u v2 F v3 = some o → Gx E X (wB E a ++ (wX2 E a 2 lt ls lw lh lx ++ wX1 E a i nu z q u t c)) 4 [(0, .ref (a 0)), (1, .ref (a i)), (2, .int v2), (3, .int v3)] [] 8 0 0 := by
  intro F
  induction F with
  | zero => intro v3 h; exact absurd h (by simp [l_X4_cameBehind_8])
  | succ F ih =>
    intro v3 h
    rw [l_X4_cameBehind_8] at h
    refine g_iload_n C 3 rfl rfl dX4_cameBehind_8 ?_
    refine g_if_le C (tgt := 42) dX4_cameBehind_9 (by decide) (fun c1 => ?_) (fun c1 => ?_)
    · replace h := (if_pos c1).symm.trans h
      refine g_aload_n C 1 rfl rfl dX4_cameBehind_42 ?_
      refine g_X1_past C i_X4_cameBehind_X1 m_X4_cameBehind_0 12 rfl dX4_cameBehind_43 ?_
      obtain ⟨a2, ea2, h⟩ := Option.bind_eq_some_iff.mp h
      refine g_cVr (As := []) (st := []) (w2 := (wB E a ++ (wX2 E a 2 lt ls lw lh lx ++ wX1 E a i nu z q u t c))) C (c_X3_size E (a (i + 3)) (a (i + 4)) 120 u a2 ea2) gX4_cameBehind_X3_size rfl (by decide +kernel) ⟨by decide, by decide, by decide, by decide, Nat.le_of_ble_eq_true rfl⟩ rfl 0 rfl [15, 16] rfl rfl rfl dX4_cameBehind_46 ?_
      refine g_iload_n C 3 rfl rfl dX4_cameBehind_49 ?_
      refine g_isub C dX4_cameBehind_50 ?_
      obtain rfl := Option.some.inj h
      exact g_iret C hQ rfl ⟨by decide, by decide⟩ dX4_cameBehind_51
    · replace h := (if_neg c1).symm.trans h
      refine g_aload_n C 0 rfl rfl dX4_cameBehind_12 ?_
      refine g_X4_ledger C i_X4_cameBehind_X4 m_X4_cameBehind_2 0 rfl dX4_cameBehind_13 ?_
      refine g_X2_times C i_X4_cameBehind_X2 m_X4_cameBehind_4 1 rfl dX4_cameBehind_16 ?_
      refine g_aload_n C 1 rfl rfl dX4_cameBehind_19 ?_
      refine g_X1_past C i_X4_cameBehind_X1 m_X4_cameBehind_0 12 rfl dX4_cameBehind_20 ?_
      refine g_iload_n C 3 rfl rfl dX4_cameBehind_23 ?_
      refine g_iconst C (v := 1) (by decide) dX4_cameBehind_24 ?_
      refine g_isub C dX4_cameBehind_25 ?_
      obtain ⟨a3, ea3, h⟩ := Option.bind_eq_some_iff.mp h
      refine g_cVr (As := [.int (v3 - 1)]) (st := [.ref (a 3)]) (w2 := (wB E a ++ (wX2 E a 2 lt ls lw lh lx ++ wX1 E a i nu z q u t c))) C (c_X3_get E (a (i + 3)) (a (i + 4)) 120 u (v3 - 1) a3 ea3) gX4_cameBehind_X3_get rfl (by decide +kernel) ⟨by decide, by decide, by decide, by decide, Nat.le_of_ble_eq_true rfl⟩ rfl 0 rfl [15, 16] rfl rfl rfl dX4_cameBehind_26 ?_
      obtain ⟨a4, ea4, h⟩ := Option.bind_eq_some_iff.mp h
      refine g_cVr (As := [.int a3]) (st := []) (w2 := (wB E a ++ (wX2 E a 2 lt ls lw lh lx ++ wX1 E a i nu z q u t c))) C (c_X3_get E (a 3) (a 4) 120 lt a3 a4 ea4) gX4_cameBehind_X3_get rfl (by decide +kernel) ⟨by decide, by decide, by decide, by decide, Nat.le_of_ble_eq_true rfl⟩ rfl 0 rfl [2, 3] rfl rfl rfl dX4_cameBehind_29 ?_
      refine g_iload_n C 2 rfl rfl dX4_cameBehind_32 ?_
      refine g_icmp_le C (tgt := 42) dX4_cameBehind_33 (by decide) (fun c5 => ?_) (fun c5 => ?_)
      · replace h := (if_pos c5).symm.trans h
        refine g_aload_n C 1 rfl rfl dX4_cameBehind_42 ?_
        refine g_X1_past C i_X4_cameBehind_X1 m_X4_cameBehind_0 12 rfl dX4_cameBehind_43 ?_
        obtain ⟨a6, ea6, h⟩ := Option.bind_eq_some_iff.mp h
        refine g_cVr (As := []) (st := []) (w2 := (wB E a ++ (wX2 E a 2 lt ls lw lh lx ++ wX1 E a i nu z q u t c))) C (c_X3_size E (a (i + 3)) (a (i + 4)) 120 u a6 ea6) gX4_cameBehind_X3_size rfl (by decide +kernel) ⟨by decide, by decide, by decide, by decide, Nat.le_of_ble_eq_true rfl⟩ rfl 0 rfl [15, 16] rfl rfl rfl dX4_cameBehind_46 ?_
        refine g_iload_n C 3 rfl rfl dX4_cameBehind_49 ?_
        refine g_isub C dX4_cameBehind_50 ?_
        obtain rfl := Option.some.inj h
        exact g_iret C hQ rfl ⟨by decide, by decide⟩ dX4_cameBehind_51
      · replace h := (if_neg c5).symm.trans h
        refine g_iinc C (v := v3 + (-1)) 3 rfl rfl (lv2 := [(3, .int (v3 + (-1))), (0, .ref (a 0)), (1, .ref (a i)), (2, .int v2)]) rfl (by decide) dX4_cameBehind_36 ?_
        refine g_goto C (tgt := 8) dX4_cameBehind_39 (by decide) ?_
        refine g_lv [1, 2, 3, 0] (lv2 := [(0, .ref (a 0)), (1, .ref (a i)), (2, .int v2), (3, .int (v3 + (-1)))]) rfl ?_
        exact ih (v3 + (-1)) h
set_option maxHeartbeats 4000000 in
set_option maxRecDepth 100000 in
theorem c_X4_cameBehind (E : gE) (a : Nat → Nat) (i : Nat) (lt : RS) (ls : RS) (lw : RS) (lh : RS) (lx : RS) (nu : Int32) (z : Int32) (q : RS) (u : RS) (t : RS) (c : RS) (p2 : Int32) (o : (Int32)) (h : f_X4_cameBehind lt u p2 = some o) : Ct E yX4_cameBehind wsX4_cameBehind r_X4_cameBehind [.ref (a 0), .ref (a i), .int p2] (wB E a ++ (wX2 E a 2 lt ls lw lh lx ++ wX1 E a i nu z q u t c)) (gO (fun u9 => some (.int u9)) (fun u9 => (wB E a ++ (wX2 E a 2 lt ls lw lh lx ++ wX1 E a i nu z q u t c))) (.inr o)) := by
  refine Ct.of (cc := cX4_cameBehind) (nL := 4) (ret := ((some .int))) (own := RX4) (by decide) rfl rfl (Nat.le_of_ble_eq_true rfl) rfl ?_ ?_
  · intro v w1 hh
    cases hh; rfl
  · intro X C hQ
    rw [f_X4_cameBehind] at h
    refine g_aload_n C 1 rfl rfl dX4_cameBehind_0 ?_
    refine g_X1_past C i_X4_cameBehind_X1 m_X4_cameBehind_0 12 rfl dX4_cameBehind_1 ?_
    obtain ⟨a1, ea1, h⟩ := Option.bind_eq_some_iff.mp h
    refine g_cVr (As := []) (st := []) (w2 := (wB E a ++ (wX2 E a 2 lt ls lw lh lx ++ wX1 E a i nu z q u t c))) C (c_X3_size E (a (i + 3)) (a (i + 4)) 120 u a1 ea1) gX4_cameBehind_X3_size rfl (by decide +kernel) ⟨by decide, by decide, by decide, by decide, Nat.le_of_ble_eq_true rfl⟩ rfl 0 rfl [15, 16] rfl rfl rfl dX4_cameBehind_4 ?_
    refine g_istore_n C (lv2 := [(3, .int a1), (0, .ref (a 0)), (1, .ref (a i)), (2, .int p2)]) rfl (by decide) rfl dX4_cameBehind_7 ?_
    refine g_lv [1, 2, 3, 0] (lv2 := [(0, .ref (a 0)), (1, .ref (a i)), (2, .int p2), (3, .int a1)]) rfl ?_
    exact w_X4_cameBehind_8 (v2 := p2) C hQ FU a1 h
abbrev r_X4_isSplitByClock : Room := { frames := 3, cells := 0, slots := 0, locals := 62 }
theorem m_X4_isSplitByClock_0 : Cond.fieldLink RX4 71 "Bookinghouse$House" "queue" "LBookinghouse$Row;" ∈ wsX4_isSplitByClock := by decide +kernel
theorem i_X4_isSplitByClock_X1 : ∀ w ∈ wsX10, w ∈ wsX4_isSplitByClock := by decide +kernel
theorem m_X4_isSplitByClock_2 : Cond.fieldLink RX4 10 "Bookinghouse" "ledger" "LBookinghouse$Ledger;" ∈ wsX4_isSplitByClock := by decide +kernel
theorem i_X4_isSplitByClock_X4 : ∀ w ∈ wsX40, w ∈ wsX4_isSplitByClock := by decide +kernel
theorem m_X4_isSplitByClock_4 : Cond.fieldLink RX4 110 "Bookinghouse$Ledger" "times" "LBookinghouse$Row;" ∈ wsX4_isSplitByClock := by decide +kernel
theorem i_X4_isSplitByClock_X2 : ∀ w ∈ wsX20, w ∈ wsX4_isSplitByClock := by decide +kernel
theorem m_X4_isSplitByClock_6 : Cond.fieldLink RX4 101 "Bookinghouse$House" "now" "I" ∈ wsX4_isSplitByClock := by decide +kernel
theorem m_X4_isSplitByClock_7 : Cond.fieldLink RX4 170 "Bookinghouse$Ledger" "homes" "LBookinghouse$Row;" ∈ wsX4_isSplitByClock := by decide +kernel
theorem m_X4_isSplitByClock_8 : Cond.fieldLink RX4 283 "Bookinghouse$House" "number" "I" ∈ wsX4_isSplitByClock := by decide +kernel
theorem m_X4_isSplitByClock_9 : Cond.fieldLink RX4 150 "Bookinghouse$House" "past" "LBookinghouse$Row;" ∈ wsX4_isSplitByClock := by decide +kernel
set_option maxHeartbeats 4000000 in
set_option maxRecDepth 100000 in
theorem w_X4_isSplitByClock_68 {E : gE} {X : gX} {a : Nat → Nat} {i : Nat} {lt : RS} {ls : RS} {lw : RS} {lh : RS} {lx : RS} {nu : Int32} {z : Int32} {q : RS} {u : RS} {t : RS} {c : RS} {o : (Bool)} (C : Cx E X cX4_isSplitByClock 4 RX4 wsX4_isSplitByClock r_X4_isSplitByClock ((some .boolean)) []) (hQ : gQ E X (wB E a ++ (wX2 E a 2 lt ls lw lh lx ++ wX1 E a i nu z q u t c)) r_X4_isSplitByClock (gO (fun u9 => some (.int (bI u9))) (fun u9 => (wB E a ++ (wX2 E a 2 lt ls lw lh lx ++ wX1 E a i nu z q u t c))) (.inr o))) : ∀ (F : Nat) (v2 : Int32), l_X4_isSplitByClock_68 lt lh nu z q u F v2 = some o → Gx E X (wB E a ++ (wX2 E a 2 lt ls lw lh lx ++ wX1 E a i nu z q u t c)) 4 [(0, .ref (a 0)), (1, .ref (a i)), (2, .int v2)] [] 68 0 0 := by
  intro F
  induction F with
  | zero => intro v2 h; exact absurd h (by simp [l_X4_isSplitByClock_68])
  | succ F ih =>
    intro v2 h
    rw [l_X4_isSplitByClock_68] at h
    refine g_iload_n C 2 rfl rfl dX4_isSplitByClock_68 ?_
    refine g_aload_n C 1 rfl rfl dX4_isSplitByClock_69 ?_
    refine g_X1_past C i_X4_isSplitByClock_X1 m_X4_isSplitByClock_9 12 rfl dX4_isSplitByClock_70 ?_
    obtain ⟨a1, ea1, h⟩ := Option.bind_eq_some_iff.mp h
    refine g_cVr (As := []) (st := [.int v2]) (w2 := (wB E a ++ (wX2 E a 2 lt ls lw lh lx ++ wX1 E a i nu z q u t c))) C (c_X3_size E (a (i + 3)) (a (i + 4)) 120 u a1 ea1) gX4_isSplitByClock_X3_size rfl (by decide +kernel) ⟨by decide, by decide, by decide, by decide, Nat.le_of_ble_eq_true rfl⟩ rfl 0 rfl [15, 16] rfl rfl rfl dX4_isSplitByClock_73 ?_
    refine g_icmp_ge C (tgt := 132) dX4_isSplitByClock_76 (by decide) (fun c2 => ?_) (fun c2 => ?_)
    · replace h := (if_pos c2).symm.trans h
      refine g_aload_n C 1 rfl rfl dX4_isSplitByClock_132 ?_
      refine g_X1_queue C i_X4_isSplitByClock_X1 m_X4_isSplitByClock_0 12 rfl dX4_isSplitByClock_133 ?_
      obtain ⟨a3, ea3, h⟩ := Option.bind_eq_some_iff.mp h
      refine g_cVr (As := []) (st := []) (w2 := (wB E a ++ (wX2 E a 2 lt ls lw lh lx ++ wX1 E a i nu z q u t c))) C (c_X3_size E (a (i + 1)) (a (i + 2)) 48 q a3 ea3) gX4_isSplitByClock_X3_size rfl (by decide +kernel) ⟨by decide, by decide, by decide, by decide, Nat.le_of_ble_eq_true rfl⟩ rfl 0 rfl [13, 14] rfl rfl rfl dX4_isSplitByClock_136 ?_
      refine g_bipush C (v := 48) (by decide) dX4_isSplitByClock_139 ?_
      refine g_icmp_gt C (tgt := 148) dX4_isSplitByClock_141 (by decide) (fun c4 => ?_) (fun c4 => ?_)
      · replace h := (if_pos c4).symm.trans h
        refine g_iconst C (v := 0) (by decide) dX4_isSplitByClock_148 ?_
        obtain rfl := Option.some.inj h
        exact g_zret C hQ rfl rfl ⟨by decide, by decide⟩ dX4_isSplitByClock_149
      · replace h := (if_neg c4).symm.trans h
        refine g_iconst C (v := 1) (by decide) dX4_isSplitByClock_144 ?_
        refine g_goto C (tgt := 149) dX4_isSplitByClock_145 (by decide) ?_
        obtain rfl := Option.some.inj h
        exact g_zret C hQ rfl rfl ⟨by decide, by decide⟩ dX4_isSplitByClock_149
    · replace h := (if_neg c2).symm.trans h
      refine g_aload_n C 1 rfl rfl dX4_isSplitByClock_79 ?_
      refine g_X1_past C i_X4_isSplitByClock_X1 m_X4_isSplitByClock_9 12 rfl dX4_isSplitByClock_80 ?_
      refine g_iload_n C 2 rfl rfl dX4_isSplitByClock_83 ?_
      obtain ⟨a5, ea5, h⟩ := Option.bind_eq_some_iff.mp h
      refine g_cVr (As := [.int v2]) (st := []) (w2 := (wB E a ++ (wX2 E a 2 lt ls lw lh lx ++ wX1 E a i nu z q u t c))) C (c_X3_get E (a (i + 3)) (a (i + 4)) 120 u v2 a5 ea5) gX4_isSplitByClock_X3_get rfl (by decide +kernel) ⟨by decide, by decide, by decide, by decide, Nat.le_of_ble_eq_true rfl⟩ rfl 0 rfl [15, 16] rfl rfl rfl dX4_isSplitByClock_84 ?_
      refine g_istore_n C (lv2 := [(3, .int a5), (0, .ref (a 0)), (1, .ref (a i)), (2, .int v2)]) rfl (by decide) rfl dX4_isSplitByClock_87 ?_
      refine g_aload_n C 1 rfl rfl dX4_isSplitByClock_88 ?_
      refine g_X4_ledger C i_X4_isSplitByClock_X4 m_X4_isSplitByClock_2 0 rfl dX4_isSplitByClock_89 ?_
      refine g_X2_times C i_X4_isSplitByClock_X2 m_X4_isSplitByClock_4 1 rfl dX4_isSplitByClock_92 ?_
      refine g_iload_n C 0 rfl rfl dX4_isSplitByClock_95 ?_
      obtain ⟨a6, ea6, h⟩ := Option.bind_eq_some_iff.mp h
      refine g_cVr (As := [.int a5]) (st := []) (w2 := (wB E a ++ (wX2 E a 2 lt ls lw lh lx ++ wX1 E a i nu z q u t c))) C (c_X3_get E (a 3) (a 4) 120 lt a5 a6 ea6) gX4_isSplitByClock_X3_get rfl (by decide +kernel) ⟨by decide, by decide, by decide, by decide, Nat.le_of_ble_eq_true rfl⟩ rfl 0 rfl [2, 3] rfl rfl rfl dX4_isSplitByClock_96 ?_
      refine g_aload_n C 2 rfl rfl dX4_isSplitByClock_99 ?_
      refine g_X1_now C i_X4_isSplitByClock_X1 m_X4_isSplitByClock_6 12 rfl dX4_isSplitByClock_100 ?_
      refine g_icmp_gt C (tgt := 124) dX4_isSplitByClock_103 (by decide) (fun c7 => ?_) (fun c7 => ?_)
      · replace h := (if_pos c7).symm.trans h
        refine g_iconst C (v := 0) (by decide) dX4_isSplitByClock_124 ?_
        obtain rfl := Option.some.inj h
        exact g_zret C hQ rfl rfl ⟨by decide, by decide⟩ dX4_isSplitByClock_125
      · replace h := (if_neg c7).symm.trans h
        refine g_aload_n C 1 rfl rfl dX4_isSplitByClock_106 ?_
        refine g_X4_ledger C i_X4_isSplitByClock_X4 m_X4_isSplitByClock_2 0 rfl dX4_isSplitByClock_107 ?_
        refine g_X2_homes C i_X4_isSplitByClock_X2 m_X4_isSplitByClock_7 1 rfl dX4_isSplitByClock_110 ?_
        refine g_iload_n C 0 rfl rfl dX4_isSplitByClock_113 ?_
        obtain ⟨a8, ea8, h⟩ := Option.bind_eq_some_iff.mp h
        refine g_cVr (As := [.int a5]) (st := []) (w2 := (wB E a ++ (wX2 E a 2 lt ls lw lh lx ++ wX1 E a i nu z q u t c))) C (c_X3_get E (a 9) (a 10) 120 lh a5 a8 ea8) gX4_isSplitByClock_X3_get rfl (by decide +kernel) ⟨by decide, by decide, by decide, by decide, Nat.le_of_ble_eq_true rfl⟩ rfl 0 rfl [8, 9] rfl rfl rfl dX4_isSplitByClock_114 ?_
        refine g_aload_n C 2 rfl rfl dX4_isSplitByClock_117 ?_
        refine g_X1_number C i_X4_isSplitByClock_X1 m_X4_isSplitByClock_8 12 rfl dX4_isSplitByClock_118 ?_
        refine g_icmp_eq C (tgt := 126) dX4_isSplitByClock_121 (by decide) (fun c9 => ?_) (fun c9 => ?_)
        · replace h := (if_pos c9).symm.trans h
          refine g_iinc C (v := v2 + 1) 3 rfl rfl (lv2 := [(2, .int (v2 + 1)), (3, .int a5), (0, .ref (a 0)), (1, .ref (a i))]) rfl (by decide) dX4_isSplitByClock_126 ?_
          refine g_goto C (tgt := 68) dX4_isSplitByClock_129 (by decide) ?_
          refine g_lv [2, 3, 0] (lv2 := [(0, .ref (a 0)), (1, .ref (a i)), (2, .int (v2 + 1))]) rfl ?_
          exact ih (v2 + 1) h
        · replace h := (if_neg c9).symm.trans h
          refine g_iconst C (v := 0) (by decide) dX4_isSplitByClock_124 ?_
          obtain rfl := Option.some.inj h
          exact g_zret C hQ rfl rfl ⟨by decide, by decide⟩ dX4_isSplitByClock_125
set_option maxHeartbeats 4000000 in
set_option maxRecDepth 100000 in
theorem w_X4_isSplitByClock_2 {E : gE} {X : gX} {a : Nat → Nat} {i : Nat} {lt : RS} {ls : RS} {lw : RS} {lh : RS} {lx : RS} {nu : Int32} {z : Int32} {q : RS} {u : RS} {t : RS} {c : RS} {o : (Bool)} (C : Cx E X cX4_isSplitByClock 4 RX4 wsX4_isSplitByClock r_X4_isSplitByClock ((some .boolean)) []) (hQ : gQ E X (wB E a ++ (wX2 E a 2 lt ls lw lh lx ++ wX1 E a i nu z q u t c)) r_X4_isSplitByClock (gO (fun u9 => some (.int (bI u9))) (fun u9 => (wB E a ++ (wX2 E a 2 lt ls lw lh lx ++ wX1 E a i nu z q u t c))) (.inr o))) : ∀ (F : Nat) (v2 : Int32), l_X4_isSplitByClock_2 lt lh nu z q u F v2 = some o → Gx E X (wB E a ++ (wX2 E a 2 lt ls lw lh lx ++ wX1 E a i nu z q u t c)) 4 [(0, .ref (a 0)), (1, .ref (a i)), (2, .int v2)] [] 2 0 0 := by
  intro F
  induction F with
  | zero => intro v2 h; exact absurd h (by simp [l_X4_isSplitByClock_2])
  | succ F ih =>
    intro v2 h
    rw [l_X4_isSplitByClock_2] at h
    refine g_iload_n C 2 rfl rfl dX4_isSplitByClock_2 ?_
    refine g_aload_n C 1 rfl rfl dX4_isSplitByClock_3 ?_
    refine g_X1_queue C i_X4_isSplitByClock_X1 m_X4_isSplitByClock_0 12 rfl dX4_isSplitByClock_4 ?_
    obtain ⟨a1, ea1, h⟩ := Option.bind_eq_some_iff.mp h
    refine g_cVr (As := []) (st := [.int v2]) (w2 := (wB E a ++ (wX2 E a 2 lt ls lw lh lx ++ wX1 E a i nu z q u t c))) C (c_X3_size E (a (i + 1)) (a (i + 2)) 48 q a1 ea1) gX4_isSplitByClock_X3_size rfl (by decide +kernel) ⟨by decide, by decide, by decide, by decide, Nat.le_of_ble_eq_true rfl⟩ rfl 0 rfl [13, 14] rfl rfl rfl dX4_isSplitByClock_7 ?_
    refine g_icmp_ge C (tgt := 66) dX4_isSplitByClock_10 (by decide) (fun c2 => ?_) (fun c2 => ?_)
    · replace h := (if_pos c2).symm.trans h
      refine g_iconst C (v := 0) (by decide) dX4_isSplitByClock_66 ?_
      refine g_istore_n C (lv2 := [(2, .int 0), (0, .ref (a 0)), (1, .ref (a i))]) rfl (by decide) rfl dX4_isSplitByClock_67 ?_
      refine g_lv [1, 2, 0] (lv2 := [(0, .ref (a 0)), (1, .ref (a i)), (2, .int 0)]) rfl ?_
      exact w_X4_isSplitByClock_68 C hQ FU 0 h
    · replace h := (if_neg c2).symm.trans h
      refine g_aload_n C 1 rfl rfl dX4_isSplitByClock_13 ?_
      refine g_X1_queue C i_X4_isSplitByClock_X1 m_X4_isSplitByClock_0 12 rfl dX4_isSplitByClock_14 ?_
      refine g_iload_n C 2 rfl rfl dX4_isSplitByClock_17 ?_
      obtain ⟨a3, ea3, h⟩ := Option.bind_eq_some_iff.mp h
      refine g_cVr (As := [.int v2]) (st := []) (w2 := (wB E a ++ (wX2 E a 2 lt ls lw lh lx ++ wX1 E a i nu z q u t c))) C (c_X3_get E (a (i + 1)) (a (i + 2)) 48 q v2 a3 ea3) gX4_isSplitByClock_X3_get rfl (by decide +kernel) ⟨by decide, by decide, by decide, by decide, Nat.le_of_ble_eq_true rfl⟩ rfl 0 rfl [13, 14] rfl rfl rfl dX4_isSplitByClock_18 ?_
      refine g_istore_n C (lv2 := [(3, .int a3), (0, .ref (a 0)), (1, .ref (a i)), (2, .int v2)]) rfl (by decide) rfl dX4_isSplitByClock_21 ?_
      refine g_aload_n C 1 rfl rfl dX4_isSplitByClock_22 ?_
      refine g_X4_ledger C i_X4_isSplitByClock_X4 m_X4_isSplitByClock_2 0 rfl dX4_isSplitByClock_23 ?_
      refine g_X2_times C i_X4_isSplitByClock_X2 m_X4_isSplitByClock_4 1 rfl dX4_isSplitByClock_26 ?_
      refine g_iload_n C 0 rfl rfl dX4_isSplitByClock_29 ?_
      obtain ⟨a4, ea4, h⟩ := Option.bind_eq_some_iff.mp h
      refine g_cVr (As := [.int a3]) (st := []) (w2 := (wB E a ++ (wX2 E a 2 lt ls lw lh lx ++ wX1 E a i nu z q u t c))) C (c_X3_get E (a 3) (a 4) 120 lt a3 a4 ea4) gX4_isSplitByClock_X3_get rfl (by decide +kernel) ⟨by decide, by decide, by decide, by decide, Nat.le_of_ble_eq_true rfl⟩ rfl 0 rfl [2, 3] rfl rfl rfl dX4_isSplitByClock_30 ?_
      refine g_aload_n C 2 rfl rfl dX4_isSplitByClock_33 ?_
      refine g_X1_now C i_X4_isSplitByClock_X1 m_X4_isSplitByClock_6 12 rfl dX4_isSplitByClock_34 ?_
      refine g_icmp_lt C (tgt := 58) dX4_isSplitByClock_37 (by decide) (fun c5 => ?_) (fun c5 => ?_)
      · replace h := (if_pos c5).symm.trans h
        refine g_iconst C (v := 0) (by decide) dX4_isSplitByClock_58 ?_
        obtain rfl := Option.some.inj h
        exact g_zret C hQ rfl rfl ⟨by decide, by decide⟩ dX4_isSplitByClock_59
      · replace h := (if_neg c5).symm.trans h
        refine g_aload_n C 1 rfl rfl dX4_isSplitByClock_40 ?_
        refine g_X4_ledger C i_X4_isSplitByClock_X4 m_X4_isSplitByClock_2 0 rfl dX4_isSplitByClock_41 ?_
        refine g_X2_homes C i_X4_isSplitByClock_X2 m_X4_isSplitByClock_7 1 rfl dX4_isSplitByClock_44 ?_
        refine g_iload_n C 0 rfl rfl dX4_isSplitByClock_47 ?_
        obtain ⟨a6, ea6, h⟩ := Option.bind_eq_some_iff.mp h
        refine g_cVr (As := [.int a3]) (st := []) (w2 := (wB E a ++ (wX2 E a 2 lt ls lw lh lx ++ wX1 E a i nu z q u t c))) C (c_X3_get E (a 9) (a 10) 120 lh a3 a6 ea6) gX4_isSplitByClock_X3_get rfl (by decide +kernel) ⟨by decide, by decide, by decide, by decide, Nat.le_of_ble_eq_true rfl⟩ rfl 0 rfl [8, 9] rfl rfl rfl dX4_isSplitByClock_48 ?_
        refine g_aload_n C 2 rfl rfl dX4_isSplitByClock_51 ?_
        refine g_X1_number C i_X4_isSplitByClock_X1 m_X4_isSplitByClock_8 12 rfl dX4_isSplitByClock_52 ?_
        refine g_icmp_eq C (tgt := 60) dX4_isSplitByClock_55 (by decide) (fun c7 => ?_) (fun c7 => ?_)
        · replace h := (if_pos c7).symm.trans h
          refine g_iinc C (v := v2 + 1) 3 rfl rfl (lv2 := [(2, .int (v2 + 1)), (3, .int a3), (0, .ref (a 0)), (1, .ref (a i))]) rfl (by decide) dX4_isSplitByClock_60 ?_
          refine g_goto C (tgt := 2) dX4_isSplitByClock_63 (by decide) ?_
          refine g_lv [2, 3, 0] (lv2 := [(0, .ref (a 0)), (1, .ref (a i)), (2, .int (v2 + 1))]) rfl ?_
          exact ih (v2 + 1) h
        · replace h := (if_neg c7).symm.trans h
          refine g_iconst C (v := 0) (by decide) dX4_isSplitByClock_58 ?_
          obtain rfl := Option.some.inj h
          exact g_zret C hQ rfl rfl ⟨by decide, by decide⟩ dX4_isSplitByClock_59
set_option maxHeartbeats 4000000 in
set_option maxRecDepth 100000 in
theorem c_X4_isSplitByClock (E : gE) (a : Nat → Nat) (i : Nat) (lt : RS) (ls : RS) (lw : RS) (lh : RS) (lx : RS) (nu : Int32) (z : Int32) (q : RS) (u : RS) (t : RS) (c : RS) (o : (Bool)) (h : f_X4_isSplitByClock lt lh nu z q u = some o) : Ct E yX4_isSplitByClock wsX4_isSplitByClock r_X4_isSplitByClock [.ref (a 0), .ref (a i)] (wB E a ++ (wX2 E a 2 lt ls lw lh lx ++ wX1 E a i nu z q u t c)) (gO (fun u9 => some (.int (bI u9))) (fun u9 => (wB E a ++ (wX2 E a 2 lt ls lw lh lx ++ wX1 E a i nu z q u t c))) (.inr o)) := by
  refine Ct.of (cc := cX4_isSplitByClock) (nL := 4) (ret := ((some .boolean))) (own := RX4) (by decide) rfl rfl (Nat.le_of_ble_eq_true rfl) rfl ?_ ?_
  · intro v w1 hh
    cases hh; rfl
  · intro X C hQ
    rw [f_X4_isSplitByClock] at h
    refine g_iconst C (v := 0) (by decide) dX4_isSplitByClock_0 ?_
    refine g_istore_n C (lv2 := [(2, .int 0), (0, .ref (a 0)), (1, .ref (a i))]) rfl (by decide) rfl dX4_isSplitByClock_1 ?_
    refine g_lv [1, 2, 0] (lv2 := [(0, .ref (a 0)), (1, .ref (a i)), (2, .int 0)]) rfl ?_
    exact w_X4_isSplitByClock_2 C hQ FU 0 h
abbrev r_X4_move : Room := { frames := 7, cells := 1, slots := 6, locals := 120 }
theorem m_X4_move_0 : Cond.fieldLink RX4 71 "Bookinghouse$House" "queue" "LBookinghouse$Row;" ∈ wsX4_move := by decide +kernel
theorem i_X4_move_X1 : ∀ w ∈ wsX10, w ∈ wsX4_move := by decide +kernel
theorem m_X4_move_2 : Cond.fieldLink RX4 10 "Bookinghouse" "ledger" "LBookinghouse$Ledger;" ∈ wsX4_move := by decide +kernel
theorem i_X4_move_X4 : ∀ w ∈ wsX40, w ∈ wsX4_move := by decide +kernel
theorem m_X4_move_4 : Cond.fieldLink RX4 110 "Bookinghouse$Ledger" "times" "LBookinghouse$Row;" ∈ wsX4_move := by decide +kernel
theorem i_X4_move_X2 : ∀ w ∈ wsX20, w ∈ wsX4_move := by decide +kernel
theorem m_X4_move_6 : Cond.fieldLink RX4 101 "Bookinghouse$House" "now" "I" ∈ wsX4_move := by decide +kernel
theorem tf_X4_move_105 : gTh wsX4_move RX4 "java/lang/IllegalStateException" 105 109 := ⟨by decide +kernel, by decide +kernel, by decide +kernel, by decide +kernel⟩
set_option maxHeartbeats 4000000 in
set_option maxRecDepth 100000 in
theorem w_X4_move_80 {E : gE} {X : gX} {a : Nat → Nat} {i : Nat} {j : Nat} {lt : RS} {ls : RS} {lw : RS} {lh : RS} {lx : RS} {nu : Int32} {z : Int32} {q : RS} {u : RS} {t : RS} {c : RS} {nu2 : Int32} {z2 : Int32} {q2 : RS} {u2 : RS} {t2 : RS} {c2 : RS} {p2 : Int32} {v2 : Int32} {v4 : Int32} {o : (String ⊕ (Int32 × RS × RS × RS × RS))} (C : Cx E X cX4_move 6 RX4 wsX4_move r_X4_move ((some .int)) []) (hQ : gQ E X (wB E a ++ (wX2 E a 2 lt ls lw lh lx ++ (wX1 E a i nu z q u t c ++ wX1 E a j nu2 z2 q2 u2 t2 c2))) r_X4_move (gO (fun u9 => some (.int u9.1)) (fun u9 => (wB E a ++ (wX2 E a 2 lt ls lw u9.2.1 u9.2.2.1 ++ (wX1 E a i nu z u9.2.2.2.1 u t c ++ wX1 E a j nu2 z2 u9.2.2.2.2 u2 t2 c2)))) o)) : ∀ (F : Nat) (v5 : Int32) (lhc : RS) (lxc : RS) (qc : RS) (q2c : RS), l_X4_move_80 lt nu2 v2 v4 F v5 lhc lxc qc q2c = some o → Gx E X (wB E a ++ (wX2 E a 2 lt ls lw lhc lxc ++ (wX1 E a i nu z qc u t c ++ wX1 E a j nu2 z2 q2c u2 t2 c2))) 6 [(0, .ref (a 0)), (1, .ref (a i)), (2, .int v2), (3, .ref (a j)), (4, .int v4), (5, .int v5)] [] 80 0 0 := by
  intro F
  induction F with
  | zero => intro v5 lhc lxc qc q2c h; exact absurd h (by simp [l_X4_move_80])
  | succ F ih =>
    intro v5 lhc lxc qc q2c h
    rw [l_X4_move_80] at h
    refine g_iload C 5 rfl dX4_move_80 ?_
    refine g_iload C 4 rfl dX4_move_82 ?_
    refine g_icmp_ge C (tgt := 106) dX4_move_84 (by decide) (fun c1 => ?_) (fun c1 => ?_)
    · replace h := (if_pos c1).symm.trans h
      refine g_iload C 4 rfl dX4_move_106 ?_
      obtain rfl := Option.some.inj h
      exact g_iret C hQ rfl ⟨by decide, by decide⟩ dX4_move_108
    · replace h := (if_neg c1).symm.trans h
      refine g_aload_n C 0 rfl rfl dX4_move_87 ?_
      refine g_aload_n C 3 rfl rfl dX4_move_88 ?_
      refine g_aload_n C 1 rfl rfl dX4_move_89 ?_
      refine g_X1_queue C i_X4_move_X1 m_X4_move_0 12 rfl dX4_move_90 ?_
      refine g_iload_n C 2 rfl rfl dX4_move_93 ?_
      obtain ⟨a2, ea2, h⟩ := Option.bind_eq_some_iff.mp h
      refine g_cVr (As := [.int v2]) (st := [.ref (a j), .ref (a 0)]) (w2 := (wB E a ++ (wX2 E a 2 lt ls lw lhc lxc ++ (wX1 E a i nu z a2.2 u t c ++ wX1 E a j nu2 z2 q2c u2 t2 c2)))) C (c_X3_remove E (a (i + 1)) (a (i + 2)) 48 qc v2 a2 ea2) gX4_move_X3_remove rfl (by decide +kernel) ⟨by decide, by decide, by decide, by decide, Nat.le_of_ble_eq_true rfl⟩ rfl 0 rfl [13, 14] rfl rfl rfl dX4_move_94 ?_
      obtain ⟨a3, ea3, h⟩ := Option.bind_eq_some_iff.mp h
      refine g_cVv (As := [.ref (a j), .int a2.1]) (st := []) (w2 := (wB E a ++ (wX2 E a 2 lt ls lw a3.1 a3.2.1 ++ (wX1 E a i nu z a2.2 u t c ++ wX1 E a j nu2 z2 a3.2.2 u2 t2 c2)))) C (c_X4_enqueue E a j lt ls lw lhc lxc nu2 z2 q2c u2 t2 c2 a2.1 a3 ea3) gX4_move_X4_enqueue rfl (by decide +kernel) ⟨by decide, by decide, by decide, by decide, Nat.le_of_ble_eq_true rfl⟩ rfl 0 rfl [0, 1, 2, 3, 4, 5, 6, 7, 8, 9, 10, 11, 22, 23, 24, 25, 26, 27, 28, 29, 30, 31] rfl rfl rfl dX4_move_97 ?_
      refine g_iinc C (v := v5 + 1) 5 rfl rfl (lv2 := [(5, .int (v5 + 1)), (0, .ref (a 0)), (1, .ref (a i)), (2, .int v2), (3, .ref (a j)), (4, .int v4)]) rfl (by decide) dX4_move_100 ?_
      refine g_goto C (tgt := 80) dX4_move_103 (by decide) ?_
      refine g_lv [1, 2, 3, 4, 5, 0] (lv2 := [(0, .ref (a 0)), (1, .ref (a i)), (2, .int v2), (3, .ref (a j)), (4, .int v4), (5, .int (v5 + 1))]) rfl ?_
      exact ih (v5 + 1) a3.1 a3.2.1 a2.2 a3.2.2 h
set_option maxHeartbeats 4000000 in
set_option maxRecDepth 100000 in
theorem v_X4_move_52 {E : gE} {X : gX} {a : Nat → Nat} {i : Nat} {j : Nat} {lt : RS} {ls : RS} {lw : RS} {lh : RS} {lx : RS} {nu : Int32} {z : Int32} {q : RS} {u : RS} {t : RS} {c : RS} {nu2 : Int32} {z2 : Int32} {q2 : RS} {u2 : RS} {t2 : RS} {c2 : RS} {p2 : Int32} {v2 : Int32} {v4 : Int32} {o : (String ⊕ (Int32 × RS × RS × RS × RS))} (C : Cx E X cX4_move 6 RX4 wsX4_move r_X4_move ((some .int)) []) (hQ : gQ E X (wB E a ++ (wX2 E a 2 lt ls lw lh lx ++ (wX1 E a i nu z q u t c ++ wX1 E a j nu2 z2 q2 u2 t2 c2))) r_X4_move (gO (fun u9 => some (.int u9.1)) (fun u9 => (wB E a ++ (wX2 E a 2 lt ls lw u9.2.1 u9.2.2.1 ++ (wX1 E a i nu z u9.2.2.2.1 u t c ++ wX1 E a j nu2 z2 u9.2.2.2.2 u2 t2 c2)))) o)) (h : b_X4_move_52 lt lh lx q nu2 q2 v2 v4 = some o) : Gx E X (wB E a ++ (wX2 E a 2 lt ls lw lh lx ++ (wX1 E a i nu z q u t c ++ wX1 E a j nu2 z2 q2 u2 t2 c2))) 6 [(0, .ref (a 0)), (1, .ref (a i)), (2, .int v2), (3, .ref (a j)), (4, .int v4)] [] 52 0 0 := by
  rw [b_X4_move_52] at h
  refine g_aload_n C 3 rfl rfl dX4_move_52 ?_
  refine g_X1_queue C i_X4_move_X1 m_X4_move_0 22 rfl dX4_move_53 ?_
  obtain ⟨a1, ea1, h⟩ := Option.bind_eq_some_iff.mp h
  refine g_cVr (As := []) (st := []) (w2 := (wB E a ++ (wX2 E a 2 lt ls lw lh lx ++ (wX1 E a i nu z q u t c ++ wX1 E a j nu2 z2 q2 u2 t2 c2)))) C (c_X3_size E (a (j + 1)) (a (j + 2)) 48 q2 a1 ea1) gX4_move_X3_size rfl (by decide +kernel) ⟨by decide, by decide, by decide, by decide, Nat.le_of_ble_eq_true rfl⟩ rfl 0 rfl [23, 24] rfl rfl rfl dX4_move_56 ?_
  refine g_iload C 4 rfl dX4_move_59 ?_
  refine g_iadd C dX4_move_61 ?_
  refine g_bipush C (v := 48) (by decide) dX4_move_62 ?_
  refine g_icmp_le C (tgt := 77) dX4_move_64 (by decide) (fun c2 => ?_) (fun c2 => ?_)
  · replace h := (if_pos c2).symm.trans h
    refine g_iconst C (v := 0) (by decide) dX4_move_77 ?_
    refine g_istore C (lv2 := [(5, .int 0), (0, .ref (a 0)), (1, .ref (a i)), (2, .int v2), (3, .ref (a j)), (4, .int v4)]) rfl (by decide) dX4_move_78 ?_
    refine g_lv [1, 2, 3, 4, 5, 0] (lv2 := [(0, .ref (a 0)), (1, .ref (a i)), (2, .int v2), (3, .ref (a j)), (4, .int v4), (5, .int 0)]) rfl ?_
    exact w_X4_move_80 (v2 := v2) (v4 := v4) C hQ FU 0 lh lx q q2 h
  · replace h := (if_neg c2).symm.trans h
    obtain rfl := Option.some.inj h
    exact g_throwS C hQ rfl rfl tf_X4_move_105 (text := "more than 48 would wait in the house") (is9 := 144) (by decide +kernel) ⟨by decide, Nat.le_of_ble_eq_true rfl, by decide, by decide, by decide, by decide⟩ rfl dX4_move_67 dX4_move_70 dX4_move_71 dX4_move_73 dX4_move_76
set_option maxHeartbeats 4000000 in
set_option maxRecDepth 100000 in
theorem c_X4_move (E : gE) (a : Nat → Nat) (i : Nat) (j : Nat) (lt : RS) (ls : RS) (lw : RS) (lh : RS) (lx : RS) (nu : Int32) (z : Int32) (q : RS) (u : RS) (t : RS) (c : RS) (nu2 : Int32) (z2 : Int32) (q2 : RS) (u2 : RS) (t2 : RS) (c2 : RS) (p2 : Int32) (o : (String ⊕ (Int32 × RS × RS × RS × RS))) (h : f_X4_move lt lh lx q nu2 z2 q2 p2 = some o) : Ct E yX4_move wsX4_move r_X4_move [.ref (a 0), .ref (a i), .int p2, .ref (a j)] (wB E a ++ (wX2 E a 2 lt ls lw lh lx ++ (wX1 E a i nu z q u t c ++ wX1 E a j nu2 z2 q2 u2 t2 c2))) (gO (fun u9 => some (.int u9.1)) (fun u9 => (wB E a ++ (wX2 E a 2 lt ls lw u9.2.1 u9.2.2.1 ++ (wX1 E a i nu z u9.2.2.2.1 u t c ++ wX1 E a j nu2 z2 u9.2.2.2.2 u2 t2 c2)))) o) := by
  refine Ct.of (cc := cX4_move) (nL := 6) (ret := ((some .int))) (own := RX4) (by decide) rfl rfl (Nat.le_of_ble_eq_true rfl) rfl ?_ ?_
  · intro v w1 hh
    cases o <;> cases hh <;> rfl
  · intro X C hQ
    rw [f_X4_move] at h
    refine g_aload_n C 1 rfl rfl dX4_move_0 ?_
    refine g_X1_queue C i_X4_move_X1 m_X4_move_0 12 rfl dX4_move_1 ?_
    obtain ⟨a1, ea1, h⟩ := Option.bind_eq_some_iff.mp h
    refine g_cVr (As := []) (st := []) (w2 := (wB E a ++ (wX2 E a 2 lt ls lw lh lx ++ (wX1 E a i nu z q u t c ++ wX1 E a j nu2 z2 q2 u2 t2 c2)))) C (c_X3_size E (a (i + 1)) (a (i + 2)) 48 q a1 ea1) gX4_move_X3_size rfl (by decide +kernel) ⟨by decide, by decide, by decide, by decide, Nat.le_of_ble_eq_true rfl⟩ rfl 0 rfl [13, 14] rfl rfl rfl dX4_move_4 ?_
    refine g_iload_n C 2 rfl rfl dX4_move_7 ?_
    refine g_isub C dX4_move_8 ?_
    refine g_istore C (lv2 := [(4, .int (a1 - p2)), (0, .ref (a 0)), (1, .ref (a i)), (2, .int p2), (3, .ref (a j))]) rfl (by decide) dX4_move_9 ?_
    refine g_iload C 0 rfl dX4_move_11 ?_
    refine g_if_le C (tgt := 52) dX4_move_13 (by decide) (fun c2 => ?_) (fun c2 => ?_)
    · replace h := (if_pos c2).symm.trans h
      refine g_lv [1, 2, 3, 4, 0] (lv2 := [(0, .ref (a 0)), (1, .ref (a i)), (2, .int p2), (3, .ref (a j)), (4, .int (a1 - p2))]) rfl ?_
      exact v_X4_move_52 (v2 := p2) (v4 := (a1 - p2)) C hQ h
    · replace h := (if_neg c2).symm.trans h
      refine g_aload_n C 1 rfl rfl dX4_move_16 ?_
      refine g_X4_ledger C i_X4_move_X4 m_X4_move_2 0 rfl dX4_move_17 ?_
      refine g_X2_times C i_X4_move_X2 m_X4_move_4 1 rfl dX4_move_20 ?_
      refine g_aload_n C 2 rfl rfl dX4_move_23 ?_
      refine g_X1_queue C i_X4_move_X1 m_X4_move_0 12 rfl dX4_move_24 ?_
      refine g_iload_n C 3 rfl rfl dX4_move_27 ?_
      obtain ⟨a3, ea3, h⟩ := Option.bind_eq_some_iff.mp h
      refine g_cVr (As := [.int p2]) (st := [.ref (a 3)]) (w2 := (wB E a ++ (wX2 E a 2 lt ls lw lh lx ++ (wX1 E a i nu z q u t c ++ wX1 E a j nu2 z2 q2 u2 t2 c2)))) C (c_X3_get E (a (i + 1)) (a (i + 2)) 48 q p2 a3 ea3) gX4_move_X3_get rfl (by decide +kernel) ⟨by decide, by decide, by decide, by decide, Nat.le_of_ble_eq_true rfl⟩ rfl 0 rfl [13, 14] rfl rfl rfl dX4_move_28 ?_
      obtain ⟨a4, ea4, h⟩ := Option.bind_eq_some_iff.mp h
      refine g_cVr (As := [.int a3]) (st := []) (w2 := (wB E a ++ (wX2 E a 2 lt ls lw lh lx ++ (wX1 E a i nu z q u t c ++ wX1 E a j nu2 z2 q2 u2 t2 c2)))) C (c_X3_get E (a 3) (a 4) 120 lt a3 a4 ea4) gX4_move_X3_get rfl (by decide +kernel) ⟨by decide, by decide, by decide, by decide, Nat.le_of_ble_eq_true rfl⟩ rfl 0 rfl [2, 3] rfl rfl rfl dX4_move_31 ?_
      refine g_aload_n C 4 rfl rfl dX4_move_34 ?_
      refine g_X1_now C i_X4_move_X1 m_X4_move_6 22 rfl dX4_move_35 ?_
      refine g_icmp_ge C (tgt := 52) dX4_move_38 (by decide) (fun c5 => ?_) (fun c5 => ?_)
      · replace h := (if_pos c5).symm.trans h
        refine g_lv [1, 2, 3, 4, 0] (lv2 := [(0, .ref (a 0)), (1, .ref (a i)), (2, .int p2), (3, .ref (a j)), (4, .int (a1 - p2))]) rfl ?_
        exact v_X4_move_52 (v2 := p2) (v4 := (a1 - p2)) C hQ h
      · replace h := (if_neg c5).symm.trans h
        obtain rfl := Option.some.inj h
        exact g_throwSW C hQ rfl rfl tf_X4_move_105 (text := "a time is below the clock of the house") (is9 := 286) (by decide +kernel) ⟨by decide, Nat.le_of_ble_eq_true rfl, by decide, by decide, by decide, by decide⟩ rfl dX4_move_41 dX4_move_44 dX4_move_45 dX4_move_48 dX4_move_51
abbrev r_X4_standInSequence : Room := { frames := 4, cells := 0, slots := 0, locals := 86 }
theorem m_X4_standInSequence_0 : Cond.fieldLink RX4 10 "Bookinghouse" "ledger" "LBookinghouse$Ledger;" ∈ wsX4_standInSequence := by decide +kernel
theorem i_X4_standInSequence_X4 : ∀ w ∈ wsX40, w ∈ wsX4_standInSequence := by decide +kernel
set_option maxHeartbeats 4000000 in
set_option maxRecDepth 100000 in
theorem v_X4_standInSequence_122 {E : gE} {X : gX} {a : Nat → Nat} {lt : RS} {ls : RS} {lw : RS} {lh : RS} {lx : RS} {x : Nat} {y : Nat} {N : Nat} {r : RS} {x2 : Nat} {y2 : Nat} {N2 : Nat} {r2 : RS} {v3 : Int32} {v4 : Int32} {v6 : Int32} {v8 : Bool} {v9 : Int32} {ko19 : Int32 → Int32 → Int32 → Option (Bool)} {o : (Bool)} (C : Cx E X cX4_standInSequence 10 RX4 wsX4_standInSequence r_X4_standInSequence ((some .boolean)) []) (hQ : gQ E X (wB E a ++ (wX2 E a 2 lt ls lw lh lx ++ (wX3 E x y N r ++ wX3 E x2 y2 N2 r2))) r_X4_standInSequence (gO (fun u9 => some (.int (bI u9))) (fun u9 => (wB E a ++ (wX2 E a 2 lt ls lw lh lx ++ (wX3 E x y N r ++ wX3 E x2 y2 N2 r2)))) (.inr o))) (Hko19 : ∀ (qv4 : Int32) (qv5 : Int32) (qv6 : Int32), ko19 qv4 qv5 qv6 = some o → Gx E X (wB E a ++ (wX2 E a 2 lt ls lw lh lx ++ (wX3 E x y N r ++ wX3 E x2 y2 N2 r2))) 10 [(0, .ref (a 0)), (1, .ref x), (2, .ref x2), (3, .int v3), (4, .int qv4), (5, .int qv5), (6, .int qv6)] [] 19 0 0) (h : b_X4_standInSequence_122 ko19 v3 v4 v6 v8 v9 = some o) : Gx E X (wB E a ++ (wX2 E a 2 lt ls lw lh lx ++ (wX3 E x y N r ++ wX3 E x2 y2 N2 r2))) 10 [(0, .ref (a 0)), (1, .ref x), (2, .ref x2), (3, .int v3), (4, .int v4), (6, .int v6), (8, .int (bI v8)), (9, .int v9)] [] 122 0 0 := by
  rw [b_X4_standInSequence_122] at h
  refine g_iload C 7 rfl dX4_standInSequence_122 ?_
  refine g_istore C (lv2 := [(5, .int v9), (0, .ref (a 0)), (1, .ref x), (2, .ref x2), (3, .int v3), (4, .int v4), (6, .int v6), (8, .int (bI v8)), (9, .int v9)]) rfl (by decide) dX4_standInSequence_124 ?_
  refine g_iload C 5 rfl dX4_standInSequence_126 ?_
  refine g_iload C 7 rfl dX4_standInSequence_128 ?_
  refine g_if_eq C (tgt := 137) dX4_standInSequence_130 (by decide) (fun c1 => ?_) (fun c1 => ?_)
  · replace h := (if_pos c1).symm.trans h
    refine g_iconst C (v := 0) (by decide) dX4_standInSequence_137 ?_
    refine g_iadd C dX4_standInSequence_138 ?_
    refine g_istore C (lv2 := [(4, .int (v4 + 0)), (5, .int v9), (0, .ref (a 0)), (1, .ref x), (2, .ref x2), (3, .int v3), (6, .int v6), (8, .int (bI v8)), (9, .int v9)]) rfl (by decide) dX4_standInSequence_139 ?_
    refine g_iinc C (v := v6 + 1) 6 rfl rfl (lv2 := [(6, .int (v6 + 1)), (4, .int (v4 + 0)), (5, .int v9), (0, .ref (a 0)), (1, .ref x), (2, .ref x2), (3, .int v3), (8, .int (bI v8)), (9, .int v9)]) rfl (by decide) dX4_standInSequence_141 ?_
    refine g_goto C (tgt := 19) dX4_standInSequence_144 (by decide) ?_
    refine g_lv [3, 4, 5, 6, 1, 2, 0] (lv2 := [(0, .ref (a 0)), (1, .ref x), (2, .ref x2), (3, .int v3), (4, .int (v4 + 0)), (5, .int v9), (6, .int (v6 + 1))]) rfl ?_
    exact Hko19 (v4 + 0) v9 (v6 + 1) h
  · replace h := (if_neg c1).symm.trans h
    refine g_iconst C (v := 1) (by decide) dX4_standInSequence_133 ?_
    refine g_goto C (tgt := 138) dX4_standInSequence_134 (by decide) ?_
    refine g_iadd C dX4_standInSequence_138 ?_
    refine g_istore C (lv2 := [(4, .int (v4 + 1)), (5, .int v9), (0, .ref (a 0)), (1, .ref x), (2, .ref x2), (3, .int v3), (6, .int v6), (8, .int (bI v8)), (9, .int v9)]) rfl (by decide) dX4_standInSequence_139 ?_
    refine g_iinc C (v := v6 + 1) 6 rfl rfl (lv2 := [(6, .int (v6 + 1)), (4, .int (v4 + 1)), (5, .int v9), (0, .ref (a 0)), (1, .ref x), (2, .ref x2), (3, .int v3), (8, .int (bI v8)), (9, .int v9)]) rfl (by decide) dX4_standInSequence_141 ?_
    refine g_goto C (tgt := 19) dX4_standInSequence_144 (by decide) ?_
    refine g_lv [3, 4, 5, 6, 1, 2, 0] (lv2 := [(0, .ref (a 0)), (1, .ref x), (2, .ref x2), (3, .int v3), (4, .int (v4 + 1)), (5, .int v9), (6, .int (v6 + 1))]) rfl ?_
    exact Hko19 (v4 + 1) v9 (v6 + 1) h
set_option maxHeartbeats 4000000 in
set_option maxRecDepth 100000 in
theorem v_X4_standInSequence_99 {E : gE} {X : gX} {a : Nat → Nat} {lt : RS} {ls : RS} {lw : RS} {lh : RS} {lx : RS} {x : Nat} {y : Nat} {N : Nat} {r : RS} {x2 : Nat} {y2 : Nat} {N2 : Nat} {r2 : RS} {v3 : Int32} {v4 : Int32} {v5 : Int32} {v6 : Int32} {v8 : Bool} {s0 : Int32} {ko19 : Int32 → Int32 → Int32 → Option (Bool)} {o : (Bool)} (C : Cx E X cX4_standInSequence 10 RX4 wsX4_standInSequence r_X4_standInSequence ((some .boolean)) []) (hQ : gQ E X (wB E a ++ (wX2 E a 2 lt ls lw lh lx ++ (wX3 E x y N r ++ wX3 E x2 y2 N2 r2))) r_X4_standInSequence (gO (fun u9 => some (.int (bI u9))) (fun u9 => (wB E a ++ (wX2 E a 2 lt ls lw lh lx ++ (wX3 E x y N r ++ wX3 E x2 y2 N2 r2)))) (.inr o))) (Hko19 : ∀ (qv4 : Int32) (qv5 : Int32) (qv6 : Int32), ko19 qv4 qv5 qv6 = some o → Gx E X (wB E a ++ (wX2 E a 2 lt ls lw lh lx ++ (wX3 E x y N r ++ wX3 E x2 y2 N2 r2))) 10 [(0, .ref (a 0)), (1, .ref x), (2, .ref x2), (3, .int v3), (4, .int qv4), (5, .int qv5), (6, .int qv6)] [] 19 0 0) (h : b_X4_standInSequence_99 lt ko19 v3 v4 v5 v6 v8 s0 = some o) : Gx E X (wB E a ++ (wX2 E a 2 lt ls lw lh lx ++ (wX3 E x y N r ++ wX3 E x2 y2 N2 r2))) 10 [(0, .ref (a 0)), (1, .ref x), (2, .ref x2), (3, .int v3), (4, .int v4), (5, .int v5), (6, .int v6), (8, .int (bI v8))] [.int s0] 99 0 0 := by
  rw [b_X4_standInSequence_99] at h
  refine g_istore C (lv2 := [(9, .int s0), (0, .ref (a 0)), (1, .ref x), (2, .ref x2), (3, .int v3), (4, .int v4), (5, .int v5), (6, .int v6), (8, .int (bI v8))]) rfl (by decide) dX4_standInSequence_99 ?_
  refine g_iload C 6 rfl dX4_standInSequence_101 ?_
  refine g_if_lt C (tgt := 122) dX4_standInSequence_103 (by decide) (fun c1 => ?_) (fun c1 => ?_)
  · replace h := (if_pos c1).symm.trans h
    refine g_lv [1, 2, 3, 4, 5, 7, 8, 0] (lv2 := [(0, .ref (a 0)), (1, .ref x), (2, .ref x2), (3, .int v3), (4, .int v4), (6, .int v6), (8, .int (bI v8)), (9, .int s0)]) rfl ?_
    exact v_X4_standInSequence_122 (v3 := v3) (v4 := v4) (v6 := v6) (v8 := v8) (v9 := s0) C hQ Hko19 h
  · replace h := (if_neg c1).symm.trans h
    refine g_aload_n C 1 rfl rfl dX4_standInSequence_106 ?_
    refine g_X4_ledger C i_X4_standInSequence_X4 m_X4_standInSequence_0 0 rfl dX4_standInSequence_107 ?_
    refine g_iload C 6 rfl dX4_standInSequence_110 ?_
    refine g_iload C 0 rfl dX4_standInSequence_112 ?_
    obtain ⟨a2, ea2, h⟩ := Option.bind_eq_some_iff.mp h
    refine g_cVr (As := [.int v5, .int s0]) (st := []) (w2 := (wB E a ++ (wX2 E a 2 lt ls lw lh lx ++ (wX3 E x y N r ++ wX3 E x2 y2 N2 r2)))) C (c_X2_isAhead E a 2 lt ls lw lh lx v5 s0 a2 ea2) gX4_standInSequence_X2_isAhead rfl (by decide +kernel) ⟨by decide, by decide, by decide, by decide, Nat.le_of_ble_eq_true rfl⟩ rfl 0 rfl [1, 2, 3, 4, 5, 6, 7, 8, 9, 10, 11] rfl rfl rfl dX4_standInSequence_114 ?_
    refine g_if_ne C (tgt := 122) dX4_standInSequence_117 (by decide) (fun c3 => ?_) (fun c3 => ?_)
    · replace h := (if_neg c3).symm.trans h
      refine g_lv [1, 2, 3, 4, 5, 7, 8, 0] (lv2 := [(0, .ref (a 0)), (1, .ref x), (2, .ref x2), (3, .int v3), (4, .int v4), (6, .int v6), (8, .int (bI v8)), (9, .int s0)]) rfl ?_
      exact v_X4_standInSequence_122 (v3 := v3) (v4 := v4) (v6 := v6) (v8 := v8) (v9 := s0) C hQ Hko19 h
    · replace h := (if_pos c3).symm.trans h
      refine g_iconst C (v := 0) (by decide) dX4_standInSequence_120 ?_
      obtain rfl := Option.some.inj h
      exact g_zret C hQ rfl rfl ⟨by decide, by decide⟩ dX4_standInSequence_121
set_option maxHeartbeats 4000000 in
set_option maxRecDepth 100000 in
theorem v_X4_standInSequence_77 {E : gE} {X : gX} {a : Nat → Nat} {lt : RS} {ls : RS} {lw : RS} {lh : RS} {lx : RS} {x : Nat} {y : Nat} {N : Nat} {r : RS} {x2 : Nat} {y2 : Nat} {N2 : Nat} {r2 : RS} {v3 : Int32} {v4 : Int32} {v5 : Int32} {v6 : Int32} {v7 : Int32} {s0 : Bool} {ko19 : Int32 → Int32 → Int32 → Option (Bool)} {o : (Bool)} (C : Cx E X cX4_standInSequence 10 RX4 wsX4_standInSequence r_X4_standInSequence ((some .boolean)) []) (hQ : gQ E X (wB E a ++ (wX2 E a 2 lt ls lw lh lx ++ (wX3 E x y N r ++ wX3 E x2 y2 N2 r2))) r_X4_standInSequence (gO (fun u9 => some (.int (bI u9))) (fun u9 => (wB E a ++ (wX2 E a 2 lt ls lw lh lx ++ (wX3 E x y N r ++ wX3 E x2 y2 N2 r2)))) (.inr o))) (Hko19 : ∀ (qv4 : Int32) (qv5 : Int32) (qv6 : Int32), ko19 qv4 qv5 qv6 = some o → Gx E X (wB E a ++ (wX2 E a 2 lt ls lw lh lx ++ (wX3 E x y N r ++ wX3 E x2 y2 N2 r2))) 10 [(0, .ref (a 0)), (1, .ref x), (2, .ref x2), (3, .int v3), (4, .int qv4), (5, .int qv5), (6, .int qv6)] [] 19 0 0) (h : b_X4_standInSequence_77 lt N r N2 r2 ko19 v3 v4 v5 v6 v7 s0 = some o) : Gx E X (wB E a ++ (wX2 E a 2 lt ls lw lh lx ++ (wX3 E x y N r ++ wX3 E x2 y2 N2 r2))) 10 [(0, .ref (a 0)), (1, .ref x), (2, .ref x2), (3, .int v3), (4, .int v4), (5, .int v5), (6, .int v6), (7, .int v7)] [.int (bI s0)] 77 0 0 := by
  rw [b_X4_standInSequence_77] at h
  refine g_istore C (lv2 := [(8, .int (bI s0)), (0, .ref (a 0)), (1, .ref x), (2, .ref x2), (3, .int v3), (4, .int v4), (5, .int v5), (6, .int v6), (7, .int v7)]) rfl (by decide) dX4_standInSequence_77 ?_
  refine g_iload C 0 rfl dX4_standInSequence_79 ?_
  refine g_if_eq C (tgt := 93) dX4_standInSequence_81 (by decide) (fun c1 => ?_) (fun c1 => ?_)
  · replace h := (if_pos c1).symm.trans h
    refine g_aload_n C 3 rfl rfl dX4_standInSequence_93 ?_
    refine g_iload C 8 rfl dX4_standInSequence_94 ?_
    obtain ⟨a2, ea2, h⟩ := Option.bind_eq_some_iff.mp h
    refine g_cVr (As := [.int v7]) (st := []) (w2 := (wB E a ++ (wX2 E a 2 lt ls lw lh lx ++ (wX3 E x y N r ++ wX3 E x2 y2 N2 r2)))) C (c_X3_get E x2 y2 N2 r2 v7 a2 ea2) gX4_standInSequence_X3_get rfl (by decide +kernel) ⟨by decide, by decide, by decide, by decide, Nat.le_of_ble_eq_true rfl⟩ rfl 0 rfl [14, 15] rfl rfl rfl dX4_standInSequence_96 ?_
    refine g_lv [1, 2, 3, 4, 5, 6, 7, 0] (lv2 := [(0, .ref (a 0)), (1, .ref x), (2, .ref x2), (3, .int v3), (4, .int v4), (5, .int v5), (6, .int v6), (8, .int (bI s0))]) rfl ?_
    exact v_X4_standInSequence_99 (v3 := v3) (v4 := v4) (v5 := v5) (v6 := v6) (v8 := s0) (s0 := a2) C hQ Hko19 h
  · replace h := (if_neg c1).symm.trans h
    refine g_aload_n C 2 rfl rfl dX4_standInSequence_84 ?_
    refine g_iload C 5 rfl dX4_standInSequence_85 ?_
    obtain ⟨a3, ea3, h⟩ := Option.bind_eq_some_iff.mp h
    refine g_cVr (As := [.int v4]) (st := []) (w2 := (wB E a ++ (wX2 E a 2 lt ls lw lh lx ++ (wX3 E x y N r ++ wX3 E x2 y2 N2 r2)))) C (c_X3_get E x y N r v4 a3 ea3) gX4_standInSequence_X3_get rfl (by decide +kernel) ⟨by decide, by decide, by decide, by decide, Nat.le_of_ble_eq_true rfl⟩ rfl 0 rfl [12, 13] rfl rfl rfl dX4_standInSequence_87 ?_
    refine g_goto C (tgt := 99) dX4_standInSequence_90 (by decide) ?_
    refine g_lv [1, 2, 3, 4, 5, 6, 7, 0] (lv2 := [(0, .ref (a 0)), (1, .ref x), (2, .ref x2), (3, .int v3), (4, .int v4), (5, .int v5), (6, .int v6), (8, .int (bI s0))]) rfl ?_
    exact v_X4_standInSequence_99 (v3 := v3) (v4 := v4) (v5 := v5) (v6 := v6) (v8 := s0) (s0 := a3) C hQ Hko19 h
set_option maxHeartbeats 4000000 in
set_option maxRecDepth 100000 in
theorem w_X4_standInSequence_19 {E : gE} {X : gX} {a : Nat → Nat} {lt : RS} {ls : RS} {lw : RS} {lh : RS} {lx : RS} {x : Nat} {y : Nat} {N : Nat} {r : RS} {x2 : Nat} {y2 : Nat} {N2 : Nat} {r2 : RS} {v3 : Int32} {o : (Bool)} (C : Cx E X cX4_standInSequence 10 RX4 wsX4_standInSequence r_X4_standInSequence ((some .boolean)) []) (hQ : gQ E X (wB E a ++ (wX2 E a 2 lt ls lw lh lx ++ (wX3 E x y N r ++ wX3 E x2 y2 N2 r2))) r_X4_standInSequence (gO (fun u9 => some (.int (bI u9))) (fun u9 => (wB E a ++ (wX2 E a 2 lt ls lw lh lx ++ (wX3 E x y N r ++ wX3 E x2 y2 N2 r2)))) (.inr o))) : ∀ (F : Nat) (v4 : Int32) (v5 : Int32) (v6 : Int32), l_X4_standInSequence_19 lt N r N2 r2 v3 F v4 v5 v6 = some o → Gx E X (wB E a ++ (wX2 E a 2 lt ls lw lh lx ++ (wX3 E x y N r ++ wX3 E x2 y2 N2 r2))) 10 [(0, .ref (a 0)), (1, .ref x), (2, .ref x2), (3, .int v3), (4, .int v4), (5, .int v5), (6, .int v6)] [] 19 0 0 := by
  intro F
  induction F with
  | zero => intro v4 v5 v6 h; exact absurd h (by simp [l_X4_standInSequence_19])
  | succ F ih =>
    intro v4 v5 v6 h
    rw [l_X4_standInSequence_19] at h
    refine g_iload C 6 rfl dX4_standInSequence_19 ?_
    refine g_iload_n C 3 rfl rfl dX4_standInSequence_21 ?_
    refine g_icmp_ge C (tgt := 147) dX4_standInSequence_22 (by decide) (fun c1 => ?_) (fun c1 => ?_)
    · replace h := (if_pos c1).symm.trans h
      refine g_iconst C (v := 1) (by decide) dX4_standInSequence_147 ?_
      obtain rfl := Option.some.inj h
      exact g_zret C hQ rfl rfl ⟨by decide, by decide⟩ dX4_standInSequence_148
    · replace h := (if_neg c1).symm.trans h
      refine g_iload C 6 rfl dX4_standInSequence_25 ?_
      refine g_iload C 4 rfl dX4_standInSequence_27 ?_
      refine g_isub C dX4_standInSequence_29 ?_
      refine g_istore C (lv2 := [(7, .int (v6 - v4)), (0, .ref (a 0)), (1, .ref x), (2, .ref x2), (3, .int v3), (4, .int v4), (5, .int v5), (6, .int v6)]) rfl (by decide) dX4_standInSequence_30 ?_
      refine g_iload C 0 rfl dX4_standInSequence_32 ?_
      refine g_aload_n C 3 rfl rfl dX4_standInSequence_34 ?_
      obtain ⟨a2, ea2, h⟩ := Option.bind_eq_some_iff.mp h
      refine g_cVr (As := []) (st := [.int (v6 - v4)]) (w2 := (wB E a ++ (wX2 E a 2 lt ls lw lh lx ++ (wX3 E x y N r ++ wX3 E x2 y2 N2 r2)))) C (c_X3_size E x2 y2 N2 r2 a2 ea2) gX4_standInSequence_X3_size rfl (by decide +kernel) ⟨by decide, by decide, by decide, by decide, Nat.le_of_ble_eq_true rfl⟩ rfl 0 rfl [14, 15] rfl rfl rfl dX4_standInSequence_35 ?_
      refine g_icmp_ge C (tgt := 72) dX4_standInSequence_38 (by decide) (fun c3 => ?_) (fun c3 => ?_)
      · replace h := (if_pos c3).symm.trans h
        refine g_iconst C (v := 1) (by decide) dX4_standInSequence_72 ?_
        refine g_goto C (tgt := 77) dX4_standInSequence_73 (by decide) ?_
        refine g_lv [1, 2, 3, 4, 5, 6, 7, 0] (lv2 := [(0, .ref (a 0)), (1, .ref x), (2, .ref x2), (3, .int v3), (4, .int v4), (5, .int v5), (6, .int v6), (7, .int (v6 - v4))]) rfl ?_
        exact v_X4_standInSequence_77 (v3 := v3) (v4 := v4) (v5 := v5) (v6 := v6) (v7 := (v6 - v4)) (s0 := true) C hQ (fun qv4 qv5 qv6 hh => ih qv4 qv5 qv6 hh) h
      · replace h := (if_neg c3).symm.trans h
        refine g_iload C 5 rfl dX4_standInSequence_41 ?_
        refine g_aload_n C 2 rfl rfl dX4_standInSequence_43 ?_
        obtain ⟨a4, ea4, h⟩ := Option.bind_eq_some_iff.mp h
        refine g_cVr (As := []) (st := [.int v4]) (w2 := (wB E a ++ (wX2 E a 2 lt ls lw lh lx ++ (wX3 E x y N r ++ wX3 E x2 y2 N2 r2)))) C (c_X3_size E x y N r a4 ea4) gX4_standInSequence_X3_size rfl (by decide +kernel) ⟨by decide, by decide, by decide, by decide, Nat.le_of_ble_eq_true rfl⟩ rfl 0 rfl [12, 13] rfl rfl rfl dX4_standInSequence_44 ?_
        refine g_icmp_ge C (tgt := 76) dX4_standInSequence_47 (by decide) (fun c5 => ?_) (fun c5 => ?_)
        · replace h := (if_pos c5).symm.trans h
          refine g_iconst C (v := 0) (by decide) dX4_standInSequence_76 ?_
          refine g_lv [1, 2, 3, 4, 5, 6, 7, 0] (lv2 := [(0, .ref (a 0)), (1, .ref x), (2, .ref x2), (3, .int v3), (4, .int v4), (5, .int v5), (6, .int v6), (7, .int (v6 - v4))]) rfl ?_
          exact v_X4_standInSequence_77 (v3 := v3) (v4 := v4) (v5 := v5) (v6 := v6) (v7 := (v6 - v4)) (s0 := false) C hQ (fun qv4 qv5 qv6 hh => ih qv4 qv5 qv6 hh) h
        · replace h := (if_neg c5).symm.trans h
          refine g_aload_n C 1 rfl rfl dX4_standInSequence_50 ?_
          refine g_X4_ledger C i_X4_standInSequence_X4 m_X4_standInSequence_0 0 rfl dX4_standInSequence_51 ?_
          refine g_aload_n C 2 rfl rfl dX4_standInSequence_54 ?_
          refine g_iload C 5 rfl dX4_standInSequence_55 ?_
          obtain ⟨a6, ea6, h⟩ := Option.bind_eq_some_iff.mp h
          refine g_cVr (As := [.int v4]) (st := [.ref (a 2)]) (w2 := (wB E a ++ (wX2 E a 2 lt ls lw lh lx ++ (wX3 E x y N r ++ wX3 E x2 y2 N2 r2)))) C (c_X3_get E x y N r v4 a6 ea6) gX4_standInSequence_X3_get rfl (by decide +kernel) ⟨by decide, by decide, by decide, by decide, Nat.le_of_ble_eq_true rfl⟩ rfl 0 rfl [12, 13] rfl rfl rfl dX4_standInSequence_57 ?_
          refine g_aload_n C 3 rfl rfl dX4_standInSequence_60 ?_
          refine g_iload C 0 rfl dX4_standInSequence_61 ?_
          obtain ⟨a7, ea7, h⟩ := Option.bind_eq_some_iff.mp h
          refine g_cVr (As := [.int (v6 - v4)]) (st := [.int a6, .ref (a 2)]) (w2 := (wB E a ++ (wX2 E a 2 lt ls lw lh lx ++ (wX3 E x y N r ++ wX3 E x2 y2 N2 r2)))) C (c_X3_get E x2 y2 N2 r2 (v6 - v4) a7 ea7) gX4_standInSequence_X3_get rfl (by decide +kernel) ⟨by decide, by decide, by decide, by decide, Nat.le_of_ble_eq_true rfl⟩ rfl 0 rfl [14, 15] rfl rfl rfl dX4_standInSequence_63 ?_
          obtain ⟨a8, ea8, h⟩ := Option.bind_eq_some_iff.mp h
          refine g_cVr (As := [.int a6, .int a7]) (st := []) (w2 := (wB E a ++ (wX2 E a 2 lt ls lw lh lx ++ (wX3 E x y N r ++ wX3 E x2 y2 N2 r2)))) C (c_X2_isAhead E a 2 lt ls lw lh lx a6 a7 a8 ea8) gX4_standInSequence_X2_isAhead rfl (by decide +kernel) ⟨by decide, by decide, by decide, by decide, Nat.le_of_ble_eq_true rfl⟩ rfl 0 rfl [1, 2, 3, 4, 5, 6, 7, 8, 9, 10, 11] rfl rfl rfl dX4_standInSequence_66 ?_
          refine g_if_eq C (tgt := 76) dX4_standInSequence_69 (by decide) (fun c9 => ?_) (fun c9 => ?_)
          · replace h := (if_pos c9).symm.trans h
            refine g_iconst C (v := 0) (by decide) dX4_standInSequence_76 ?_
            refine g_lv [1, 2, 3, 4, 5, 6, 7, 0] (lv2 := [(0, .ref (a 0)), (1, .ref x), (2, .ref x2), (3, .int v3), (4, .int v4), (5, .int v5), (6, .int v6), (7, .int (v6 - v4))]) rfl ?_
            exact v_X4_standInSequence_77 (v3 := v3) (v4 := v4) (v5 := v5) (v6 := v6) (v7 := (v6 - v4)) (s0 := false) C hQ (fun qv4 qv5 qv6 hh => ih qv4 qv5 qv6 hh) h
          · replace h := (if_neg c9).symm.trans h
            refine g_iconst C (v := 1) (by decide) dX4_standInSequence_72 ?_
            refine g_goto C (tgt := 77) dX4_standInSequence_73 (by decide) ?_
            refine g_lv [1, 2, 3, 4, 5, 6, 7, 0] (lv2 := [(0, .ref (a 0)), (1, .ref x), (2, .ref x2), (3, .int v3), (4, .int v4), (5, .int v5), (6, .int v6), (7, .int (v6 - v4))]) rfl ?_
            exact v_X4_standInSequence_77 (v3 := v3) (v4 := v4) (v5 := v5) (v6 := v6) (v7 := (v6 - v4)) (s0 := true) C hQ (fun qv4 qv5 qv6 hh => ih qv4 qv5 qv6 hh) h
set_option maxHeartbeats 4000000 in
set_option maxRecDepth 100000 in
theorem c_X4_standInSequence (E : gE) (a : Nat → Nat) (lt : RS) (ls : RS) (lw : RS) (lh : RS) (lx : RS) (x : Nat) (y : Nat) (N : Nat) (r : RS) (x2 : Nat) (y2 : Nat) (N2 : Nat) (r2 : RS) (o : (Bool)) (h : f_X4_standInSequence lt N r N2 r2 = some o) : Ct E yX4_standInSequence wsX4_standInSequence r_X4_standInSequence [.ref (a 0), .ref x, .ref x2] (wB E a ++ (wX2 E a 2 lt ls lw lh lx ++ (wX3 E x y N r ++ wX3 E x2 y2 N2 r2))) (gO (fun u9 => some (.int (bI u9))) (fun u9 => (wB E a ++ (wX2 E a 2 lt ls lw lh lx ++ (wX3 E x y N r ++ wX3 E x2 y2 N2 r2)))) (.inr o)) := by
  refine Ct.of (cc := cX4_standInSequence) (nL := 10) (ret := ((some .boolean))) (own := RX4) (by decide) rfl rfl (Nat.le_of_ble_eq_true rfl) rfl ?_ ?_
  · intro v w1 hh
    cases hh; rfl
  · intro X C hQ
    rw [f_X4_standInSequence] at h
    refine g_aload_n C 1 rfl rfl dX4_standInSequence_0 ?_
    obtain ⟨a1, ea1, h⟩ := Option.bind_eq_some_iff.mp h
    refine g_cVr (As := []) (st := []) (w2 := (wB E a ++ (wX2 E a 2 lt ls lw lh lx ++ (wX3 E x y N r ++ wX3 E x2 y2 N2 r2)))) C (c_X3_size E x y N r a1 ea1) gX4_standInSequence_X3_size rfl (by decide +kernel) ⟨by decide, by decide, by decide, by decide, Nat.le_of_ble_eq_true rfl⟩ rfl 0 rfl [12, 13] rfl rfl rfl dX4_standInSequence_1 ?_
    refine g_aload_n C 2 rfl rfl dX4_standInSequence_4 ?_
    obtain ⟨a2, ea2, h⟩ := Option.bind_eq_some_iff.mp h
    refine g_cVr (As := []) (st := [.int a1]) (w2 := (wB E a ++ (wX2 E a 2 lt ls lw lh lx ++ (wX3 E x y N r ++ wX3 E x2 y2 N2 r2)))) C (c_X3_size E x2 y2 N2 r2 a2 ea2) gX4_standInSequence_X3_size rfl (by decide +kernel) ⟨by decide, by decide, by decide, by decide, Nat.le_of_ble_eq_true rfl⟩ rfl 0 rfl [14, 15] rfl rfl rfl dX4_standInSequence_5 ?_
    refine g_iadd C dX4_standInSequence_8 ?_
    refine g_istore_n C (lv2 := [(3, .int (a1 + a2)), (0, .ref (a 0)), (1, .ref x), (2, .ref x2)]) rfl (by decide) rfl dX4_standInSequence_9 ?_
    refine g_iconst C (v := 0) (by decide) dX4_standInSequence_10 ?_
    refine g_istore C (lv2 := [(4, .int 0), (3, .int (a1 + a2)), (0, .ref (a 0)), (1, .ref x), (2, .ref x2)]) rfl (by decide) dX4_standInSequence_11 ?_
    refine g_iconst C (v := (-1)) (by decide) dX4_standInSequence_13 ?_
    refine g_istore C (lv2 := [(5, .int (-1)), (4, .int 0), (3, .int (a1 + a2)), (0, .ref (a 0)), (1, .ref x), (2, .ref x2)]) rfl (by decide) dX4_standInSequence_14 ?_
    refine g_iconst C (v := 0) (by decide) dX4_standInSequence_16 ?_
    refine g_istore C (lv2 := [(6, .int 0), (5, .int (-1)), (4, .int 0), (3, .int (a1 + a2)), (0, .ref (a 0)), (1, .ref x), (2, .ref x2)]) rfl (by decide) dX4_standInSequence_17 ?_
    refine g_lv [4, 5, 6, 3, 2, 1, 0] (lv2 := [(0, .ref (a 0)), (1, .ref x), (2, .ref x2), (3, .int (a1 + a2)), (4, .int 0), (5, .int (-1)), (6, .int 0)]) rfl ?_
    exact w_X4_standInSequence_19 (v3 := (a1 + a2)) C hQ FU 0 (-1) 0 h
abbrev r_X4_crowdIsOfThoseThatCame : Room := { frames := 5, cells := 0, slots := 0, locals := 128 }
theorem m_X4_crowdIsOfThoseThatCame_0 : Cond.fieldLink RX4 25 "Bookinghouse" "rebuilt" "LBookinghouse$Crowd;" ∈ wsX4_crowdIsOfThoseThatCame := by decide +kernel
theorem i_X4_crowdIsOfThoseThatCame_X4 : ∀ w ∈ wsX40, w ∈ wsX4_crowdIsOfThoseThatCame := by decide +kernel
theorem m_X4_crowdIsOfThoseThatCame_2 : Cond.fieldLink RX4 150 "Bookinghouse$House" "past" "LBookinghouse$Row;" ∈ wsX4_crowdIsOfThoseThatCame := by decide +kernel
theorem i_X4_crowdIsOfThoseThatCame_X1 : ∀ w ∈ wsX10, w ∈ wsX4_crowdIsOfThoseThatCame := by decide +kernel
theorem m_X4_crowdIsOfThoseThatCame_4 : Cond.fieldLink RX4 178 "Bookinghouse$House" "crowd" "LBookinghouse$Crowd;" ∈ wsX4_crowdIsOfThoseThatCame := by decide +kernel
theorem m_X4_crowdIsOfThoseThatCame_5 : Cond.fieldLink RX4 10 "Bookinghouse" "ledger" "LBookinghouse$Ledger;" ∈ wsX4_crowdIsOfThoseThatCame := by decide +kernel
theorem m_X4_crowdIsOfThoseThatCame_6 : Cond.fieldLink RX4 167 "Bookinghouse$Ledger" "weights" "LBookinghouse$Row;" ∈ wsX4_crowdIsOfThoseThatCame := by decide +kernel
theorem i_X4_crowdIsOfThoseThatCame_X2 : ∀ w ∈ wsX20, w ∈ wsX4_crowdIsOfThoseThatCame := by decide +kernel
theorem m_X4_crowdIsOfThoseThatCame_8 : Cond.fieldLink RX4 110 "Bookinghouse$Ledger" "times" "LBookinghouse$Row;" ∈ wsX4_crowdIsOfThoseThatCame := by decide +kernel
theorem m_X4_crowdIsOfThoseThatCame_9 : Cond.fieldLink RX4 164 "Bookinghouse$Ledger" "spans" "LBookinghouse$Row;" ∈ wsX4_crowdIsOfThoseThatCame := by decide +kernel
set_option maxHeartbeats 4000000 in
set_option maxRecDepth 100000 in
theorem w_X4_crowdIsOfThoseThatCame_12 {E : gE} {X : gX} {a : Nat → Nat} {i : Nat} {lt : RS} {ls : RS} {lw : RS} {lh : RS} {lx : RS} {rt : RS} {rc : RS} {nu : Int32} {z : Int32} {q : RS} {u : RS} {t : RS} {c : RS} {o : (Bool × RS × RS)} (C : Cx E X cX4_crowdIsOfThoseThatCame 7 RX4 wsX4_crowdIsOfThoseThatCame r_X4_crowdIsOfThoseThatCame ((some .boolean)) []) (hQ : gQ E X (wB E a ++ (wX2 E a 2 lt ls lw lh lx ++ (wX0 E a 13 rt rc ++ wX1 E a i nu z q u t c))) r_X4_crowdIsOfThoseThatCame (gO (fun u9 => some (.int (bI u9.1))) (fun u9 => (wB E a ++ (wX2 E a 2 lt ls lw lh lx ++ (wX0 E a 13 u9.2.1 u9.2.2 ++ wX1 E a i nu z q u t c)))) (.inr o))) : ∀ (F : Nat) (v2 : Int64) (v4 : Int32) (rtc : RS) (rcc : RS), l_X4_crowdIsOfThoseThatCame_12 lt ls lw u t c F v2 v4 rtc rcc = some o → Gx E X (wB E a ++ (wX2 E a 2 lt ls lw lh lx ++ (wX0 E a 13 rtc rcc ++ wX1 E a i nu z q u t c))) 7 [(0, .ref (a 0)), (1, .ref (a i)), (2, .long v2), (4, .int v4)] [] 12 0 0 := by
  intro F
  induction F with
  | zero => intro v2 v4 rtc rcc h; exact absurd h (by simp [l_X4_crowdIsOfThoseThatCame_12])
  | succ F ih =>
    intro v2 v4 rtc rcc h
    rw [l_X4_crowdIsOfThoseThatCame_12] at h
    refine g_iload C 3 rfl dX4_crowdIsOfThoseThatCame_12 ?_
    refine g_aload_n C 1 rfl rfl dX4_crowdIsOfThoseThatCame_14 ?_
    refine g_X1_past C i_X4_crowdIsOfThoseThatCame_X1 m_X4_crowdIsOfThoseThatCame_2 17 rfl dX4_crowdIsOfThoseThatCame_15 ?_
    obtain ⟨a1, ea1, h⟩ := Option.bind_eq_some_iff.mp h
    refine g_cVr (As := []) (st := [.int v4]) (w2 := (wB E a ++ (wX2 E a 2 lt ls lw lh lx ++ (wX0 E a 13 rtc rcc ++ wX1 E a i nu z q u t c)))) C (c_X3_size E (a (i + 3)) (a (i + 4)) 120 u a1 ea1) gX4_crowdIsOfThoseThatCame_X3_size rfl (by decide +kernel) ⟨by decide, by decide, by decide, by decide, Nat.le_of_ble_eq_true rfl⟩ rfl 0 rfl [20, 21] rfl rfl rfl dX4_crowdIsOfThoseThatCame_18 ?_
    refine g_icmp_ge C (tgt := 104) dX4_crowdIsOfThoseThatCame_21 (by decide) (fun c2 => ?_) (fun c2 => ?_)
    · replace h := (if_pos c2).symm.trans h
      refine g_aload_n C 0 rfl rfl dX4_crowdIsOfThoseThatCame_104 ?_
      refine g_X4_rebuilt C i_X4_crowdIsOfThoseThatCame_X4 m_X4_crowdIsOfThoseThatCame_0 0 rfl dX4_crowdIsOfThoseThatCame_105 ?_
      refine g_aload_n C 1 rfl rfl dX4_crowdIsOfThoseThatCame_108 ?_
      refine g_X1_crowd C i_X4_crowdIsOfThoseThatCame_X1 m_X4_crowdIsOfThoseThatCame_4 17 rfl dX4_crowdIsOfThoseThatCame_109 ?_
      obtain ⟨a3, ea3, h⟩ := Option.bind_eq_some_iff.mp h
      refine g_cVr (As := [.ref (a (i + 5))]) (st := []) (w2 := (wB E a ++ (wX2 E a 2 lt ls lw lh lx ++ (wX0 E a 13 rtc rcc ++ wX1 E a i nu z q u t c)))) C (c_X0_isLike E a 13 rtc rcc a (i + 5) t c a3 ea3) gX4_crowdIsOfThoseThatCame_X0_isLike rfl (by decide +kernel) ⟨by decide, by decide, by decide, by decide, Nat.le_of_ble_eq_true rfl⟩ rfl 0 rfl [12, 13, 14, 15, 16, 22, 23, 24, 25, 26] rfl rfl rfl dX4_crowdIsOfThoseThatCame_112 ?_
      refine g_if_eq C (tgt := 144) dX4_crowdIsOfThoseThatCame_115 (by decide) (fun c4 => ?_) (fun c4 => ?_)
      · replace h := (if_pos c4).symm.trans h
        refine g_iconst C (v := 0) (by decide) dX4_crowdIsOfThoseThatCame_144 ?_
        obtain rfl := Option.some.inj h
        exact g_zret C hQ rfl rfl ⟨by decide, by decide⟩ dX4_crowdIsOfThoseThatCame_145
      · replace h := (if_neg c4).symm.trans h
        refine g_aload_n C 1 rfl rfl dX4_crowdIsOfThoseThatCame_118 ?_
        refine g_X1_crowd C i_X4_crowdIsOfThoseThatCame_X1 m_X4_crowdIsOfThoseThatCame_4 17 rfl dX4_crowdIsOfThoseThatCame_119 ?_
        obtain ⟨a5, ea5, h⟩ := Option.bind_eq_some_iff.mp h
        refine g_cVr (As := []) (st := []) (w2 := (wB E a ++ (wX2 E a 2 lt ls lw lh lx ++ (wX0 E a 13 rtc rcc ++ wX1 E a i nu z q u t c)))) C (c_X0_isLevelInTheEnd E a (i + 5) t c a5 ea5) gX4_crowdIsOfThoseThatCame_X0_isLevelInTheEnd rfl (by decide +kernel) ⟨by decide, by decide, by decide, by decide, Nat.le_of_ble_eq_true rfl⟩ rfl 0 rfl [22, 23, 24, 25, 26] rfl rfl rfl dX4_crowdIsOfThoseThatCame_122 ?_
        refine g_if_eq C (tgt := 144) dX4_crowdIsOfThoseThatCame_125 (by decide) (fun c6 => ?_) (fun c6 => ?_)
        · replace h := (if_pos c6).symm.trans h
          refine g_iconst C (v := 0) (by decide) dX4_crowdIsOfThoseThatCame_144 ?_
          obtain rfl := Option.some.inj h
          exact g_zret C hQ rfl rfl ⟨by decide, by decide⟩ dX4_crowdIsOfThoseThatCame_145
        · replace h := (if_neg c6).symm.trans h
          refine g_lload_n C 2 rfl rfl dX4_crowdIsOfThoseThatCame_128 ?_
          refine g_aload_n C 1 rfl rfl dX4_crowdIsOfThoseThatCame_129 ?_
          refine g_X1_crowd C i_X4_crowdIsOfThoseThatCame_X1 m_X4_crowdIsOfThoseThatCame_4 17 rfl dX4_crowdIsOfThoseThatCame_130 ?_
          obtain ⟨a7, ea7, h⟩ := Option.bind_eq_some_iff.mp h
          refine g_cVr (As := []) (st := [.long v2]) (w2 := (wB E a ++ (wX2 E a 2 lt ls lw lh lx ++ (wX0 E a 13 rtc rcc ++ wX1 E a i nu z q u t c)))) C (c_X0_total E a (i + 5) t c a7 ea7) gX4_crowdIsOfThoseThatCame_X0_total rfl (by decide +kernel) ⟨by decide, by decide, by decide, by decide, Nat.le_of_ble_eq_true rfl⟩ rfl 0 rfl [22, 23, 24, 25, 26] rfl rfl rfl dX4_crowdIsOfThoseThatCame_133 ?_
          refine g_lcmp C dX4_crowdIsOfThoseThatCame_136 ?_
          refine g_if_ne C (tgt := 144) dX4_crowdIsOfThoseThatCame_137 (by decide) (fun c8 => ?_) (fun c8 => ?_)
          · replace h := (if_neg c8).symm.trans h
            refine g_iconst C (v := 0) (by decide) dX4_crowdIsOfThoseThatCame_144 ?_
            obtain rfl := Option.some.inj h
            exact g_zret C hQ rfl rfl ⟨by decide, by decide⟩ dX4_crowdIsOfThoseThatCame_145
          · replace h := (if_pos c8).symm.trans h
            refine g_iconst C (v := 1) (by decide) dX4_crowdIsOfThoseThatCame_140 ?_
            refine g_goto C (tgt := 145) dX4_crowdIsOfThoseThatCame_141 (by decide) ?_
            obtain rfl := Option.some.inj h
            exact g_zret C hQ rfl rfl ⟨by decide, by decide⟩ dX4_crowdIsOfThoseThatCame_145
    · replace h := (if_neg c2).symm.trans h
      refine g_aload_n C 1 rfl rfl dX4_crowdIsOfThoseThatCame_24 ?_
      refine g_X1_past C i_X4_crowdIsOfThoseThatCame_X1 m_X4_crowdIsOfThoseThatCame_2 17 rfl dX4_crowdIsOfThoseThatCame_25 ?_
      refine g_iload C 3 rfl dX4_crowdIsOfThoseThatCame_28 ?_
      obtain ⟨a9, ea9, h⟩ := Option.bind_eq_some_iff.mp h
      refine g_cVr (As := [.int v4]) (st := []) (w2 := (wB E a ++ (wX2 E a 2 lt ls lw lh lx ++ (wX0 E a 13 rtc rcc ++ wX1 E a i nu z q u t c)))) C (c_X3_get E (a (i + 3)) (a (i + 4)) 120 u v4 a9 ea9) gX4_crowdIsOfThoseThatCame_X3_get rfl (by decide +kernel) ⟨by decide, by decide, by decide, by decide, Nat.le_of_ble_eq_true rfl⟩ rfl 0 rfl [20, 21] rfl rfl rfl dX4_crowdIsOfThoseThatCame_30 ?_
      refine g_istore C (lv2 := [(5, .int a9), (0, .ref (a 0)), (1, .ref (a i)), (2, .long v2), (4, .int v4)]) rfl (by decide) dX4_crowdIsOfThoseThatCame_33 ?_
      refine g_aload_n C 1 rfl rfl dX4_crowdIsOfThoseThatCame_35 ?_
      refine g_X4_ledger C i_X4_crowdIsOfThoseThatCame_X4 m_X4_crowdIsOfThoseThatCame_5 0 rfl dX4_crowdIsOfThoseThatCame_36 ?_
      refine g_X2_weights C i_X4_crowdIsOfThoseThatCame_X2 m_X4_crowdIsOfThoseThatCame_6 1 rfl dX4_crowdIsOfThoseThatCame_39 ?_
      refine g_iload C 0 rfl dX4_crowdIsOfThoseThatCame_42 ?_
      obtain ⟨a10, ea10, h⟩ := Option.bind_eq_some_iff.mp h
      refine g_cVr (As := [.int a9]) (st := []) (w2 := (wB E a ++ (wX2 E a 2 lt ls lw lh lx ++ (wX0 E a 13 rtc rcc ++ wX1 E a i nu z q u t c)))) C (c_X3_get E (a 7) (a 8) 120 lw a9 a10 ea10) gX4_crowdIsOfThoseThatCame_X3_get rfl (by decide +kernel) ⟨by decide, by decide, by decide, by decide, Nat.le_of_ble_eq_true rfl⟩ rfl 0 rfl [6, 7] rfl rfl rfl dX4_crowdIsOfThoseThatCame_44 ?_
      refine g_istore C (lv2 := [(6, .int a10), (5, .int a9), (0, .ref (a 0)), (1, .ref (a i)), (2, .long v2), (4, .int v4)]) rfl (by decide) dX4_crowdIsOfThoseThatCame_47 ?_
      refine g_aload_n C 2 rfl rfl dX4_crowdIsOfThoseThatCame_49 ?_
      refine g_X4_rebuilt C i_X4_crowdIsOfThoseThatCame_X4 m_X4_crowdIsOfThoseThatCame_0 0 rfl dX4_crowdIsOfThoseThatCame_50 ?_
      refine g_aload_n C 2 rfl rfl dX4_crowdIsOfThoseThatCame_53 ?_
      refine g_X4_ledger C i_X4_crowdIsOfThoseThatCame_X4 m_X4_crowdIsOfThoseThatCame_5 0 rfl dX4_crowdIsOfThoseThatCame_54 ?_
      refine g_X2_times C i_X4_crowdIsOfThoseThatCame_X2 m_X4_crowdIsOfThoseThatCame_8 1 rfl dX4_crowdIsOfThoseThatCame_57 ?_
      refine g_iload C 1 rfl dX4_crowdIsOfThoseThatCame_60 ?_
      obtain ⟨a11, ea11, h⟩ := Option.bind_eq_some_iff.mp h
      refine g_cVr (As := [.int a9]) (st := [.ref (a 13)]) (w2 := (wB E a ++ (wX2 E a 2 lt ls lw lh lx ++ (wX0 E a 13 rtc rcc ++ wX1 E a i nu z q u t c)))) C (c_X3_get E (a 3) (a 4) 120 lt a9 a11 ea11) gX4_crowdIsOfThoseThatCame_X3_get rfl (by decide +kernel) ⟨by decide, by decide, by decide, by decide, Nat.le_of_ble_eq_true rfl⟩ rfl 0 rfl [2, 3] rfl rfl rfl dX4_crowdIsOfThoseThatCame_62 ?_
      refine g_aload_n C 2 rfl rfl dX4_crowdIsOfThoseThatCame_65 ?_
      refine g_X4_ledger C i_X4_crowdIsOfThoseThatCame_X4 m_X4_crowdIsOfThoseThatCame_5 0 rfl dX4_crowdIsOfThoseThatCame_66 ?_
      refine g_iload C 1 rfl dX4_crowdIsOfThoseThatCame_69 ?_
      obtain ⟨a12, ea12, h⟩ := Option.bind_eq_some_iff.mp h
      refine g_cVr (As := [.int a9]) (st := [.int a11, .ref (a 13)]) (w2 := (wB E a ++ (wX2 E a 2 lt ls lw lh lx ++ (wX0 E a 13 rtc rcc ++ wX1 E a i nu z q u t c)))) C (c_X2_end E a 2 lt ls lw lh lx a9 a12 ea12) gX4_crowdIsOfThoseThatCame_X2_end rfl (by decide +kernel) ⟨by decide, by decide, by decide, by decide, Nat.le_of_ble_eq_true rfl⟩ rfl 0 rfl [1, 2, 3, 4, 5, 6, 7, 8, 9, 10, 11] rfl rfl rfl dX4_crowdIsOfThoseThatCame_71 ?_
      refine g_iload C 0 rfl dX4_crowdIsOfThoseThatCame_74 ?_
      obtain ⟨a13, ea13, h⟩ := Option.bind_eq_some_iff.mp h
      refine g_cVv (As := [.int a11, .int a12, .int a10]) (st := []) (w2 := (wB E a ++ (wX2 E a 2 lt ls lw lh lx ++ (wX0 E a 13 a13.1 a13.2 ++ wX1 E a i nu z q u t c)))) C (c_X0_enter E a 13 rtc rcc a11 a12 a10 a13 ea13) gX4_crowdIsOfThoseThatCame_X0_enter rfl (by decide +kernel) ⟨by decide, by decide, by decide, by decide, Nat.le_of_ble_eq_true rfl⟩ rfl 0 rfl [12, 13, 14, 15, 16] rfl rfl rfl dX4_crowdIsOfThoseThatCame_76 ?_
      refine g_lload_n C 4 rfl rfl dX4_crowdIsOfThoseThatCame_79 ?_
      refine g_iload C 0 rfl dX4_crowdIsOfThoseThatCame_80 ?_
      refine g_aload_n C 2 rfl rfl dX4_crowdIsOfThoseThatCame_82 ?_
      refine g_X4_ledger C i_X4_crowdIsOfThoseThatCame_X4 m_X4_crowdIsOfThoseThatCame_5 0 rfl dX4_crowdIsOfThoseThatCame_83 ?_
      refine g_X2_spans C i_X4_crowdIsOfThoseThatCame_X2 m_X4_crowdIsOfThoseThatCame_9 1 rfl dX4_crowdIsOfThoseThatCame_86 ?_
      refine g_iload C 1 rfl dX4_crowdIsOfThoseThatCame_89 ?_
      obtain ⟨a14, ea14, h⟩ := Option.bind_eq_some_iff.mp h
      refine g_cVr (As := [.int a9]) (st := [.int a10, .long v2]) (w2 := (wB E a ++ (wX2 E a 2 lt ls lw lh lx ++ (wX0 E a 13 a13.1 a13.2 ++ wX1 E a i nu z q u t c)))) C (c_X3_get E (a 5) (a 6) 120 ls a9 a14 ea14) gX4_crowdIsOfThoseThatCame_X3_get rfl (by decide +kernel) ⟨by decide, by decide, by decide, by decide, Nat.le_of_ble_eq_true rfl⟩ rfl 0 rfl [4, 5] rfl rfl rfl dX4_crowdIsOfThoseThatCame_91 ?_
      refine g_imul C dX4_crowdIsOfThoseThatCame_94 ?_
      refine g_i2l C dX4_crowdIsOfThoseThatCame_95 ?_
      refine g_ladd C dX4_crowdIsOfThoseThatCame_96 ?_
      refine g_lstore_n C (lv2 := [(2, .long (v2 + ((a10 * a14).toInt64))), (6, .int a10), (5, .int a9), (0, .ref (a 0)), (1, .ref (a i)), (4, .int v4)]) rfl (by decide) rfl dX4_crowdIsOfThoseThatCame_97 ?_
      refine g_iinc C (v := v4 + 1) 5 rfl rfl (lv2 := [(4, .int (v4 + 1)), (2, .long (v2 + ((a10 * a14).toInt64))), (6, .int a10), (5, .int a9), (0, .ref (a 0)), (1, .ref (a i))]) rfl (by decide) dX4_crowdIsOfThoseThatCame_98 ?_
      refine g_goto C (tgt := 12) dX4_crowdIsOfThoseThatCame_101 (by decide) ?_
      refine g_lv [4, 5, 1, 0] (lv2 := [(0, .ref (a 0)), (1, .ref (a i)), (2, .long (v2 + ((a10 * a14).toInt64))), (4, .int (v4 + 1))]) rfl ?_
      exact ih (v2 + ((a10 * a14).toInt64)) (v4 + 1) a13.1 a13.2 h
set_option maxHeartbeats 4000000 in
set_option maxRecDepth 100000 in
theorem c_X4_crowdIsOfThoseThatCame (E : gE) (a : Nat → Nat) (i : Nat) (lt : RS) (ls : RS) (lw : RS) (lh : RS) (lx : RS) (rt : RS) (rc : RS) (nu : Int32) (z : Int32) (q : RS) (u : RS) (t : RS) (c : RS) (o : (Bool × RS × RS)) (h : f_X4_crowdIsOfThoseThatCame lt ls lw rt rc u t c = some o) : Ct E yX4_crowdIsOfThoseThatCame wsX4_crowdIsOfThoseThatCame r_X4_crowdIsOfThoseThatCame [.ref (a 0), .ref (a i)] (wB E a ++ (wX2 E a 2 lt ls lw lh lx ++ (wX0 E a 13 rt rc ++ wX1 E a i nu z q u t c))) (gO (fun u9 => some (.int (bI u9.1))) (fun u9 => (wB E a ++ (wX2 E a 2 lt ls lw lh lx ++ (wX0 E a 13 u9.2.1 u9.2.2 ++ wX1 E a i nu z q u t c)))) (.inr o)) := by
  refine Ct.of (cc := cX4_crowdIsOfThoseThatCame) (nL := 7) (ret := ((some .boolean))) (own := RX4) (by decide) rfl rfl (Nat.le_of_ble_eq_true rfl) rfl ?_ ?_
  · intro v w1 hh
    cases hh; rfl
  · intro X C hQ
    rw [f_X4_crowdIsOfThoseThatCame] at h
    refine g_aload_n C 0 rfl rfl dX4_crowdIsOfThoseThatCame_0 ?_
    refine g_X4_rebuilt C i_X4_crowdIsOfThoseThatCame_X4 m_X4_crowdIsOfThoseThatCame_0 0 rfl dX4_crowdIsOfThoseThatCame_1 ?_
    obtain ⟨a1, ea1, h⟩ := Option.bind_eq_some_iff.mp h
    refine g_cVv (As := []) (st := []) (w2 := (wB E a ++ (wX2 E a 2 lt ls lw lh lx ++ (wX0 E a 13 a1.1 a1.2 ++ wX1 E a i nu z q u t c)))) C (c_X0_clear E a 13 rt rc a1 ea1) gX4_crowdIsOfThoseThatCame_X0_clear rfl (by decide +kernel) ⟨by decide, by decide, by decide, by decide, Nat.le_of_ble_eq_true rfl⟩ rfl 0 rfl [12, 13, 14, 15, 16] rfl rfl rfl dX4_crowdIsOfThoseThatCame_4 ?_
    refine g_lconst C (v := 0) (by decide) dX4_crowdIsOfThoseThatCame_7 ?_
    refine g_lstore_n C (lv2 := [(2, .long 0), (0, .ref (a 0)), (1, .ref (a i))]) rfl (by decide) rfl dX4_crowdIsOfThoseThatCame_8 ?_
    refine g_iconst C (v := 0) (by decide) dX4_crowdIsOfThoseThatCame_9 ?_
    refine g_istore C (lv2 := [(4, .int 0), (2, .long 0), (0, .ref (a 0)), (1, .ref (a i))]) rfl (by decide) dX4_crowdIsOfThoseThatCame_10 ?_
    refine g_lv [2, 3, 1, 0] (lv2 := [(0, .ref (a 0)), (1, .ref (a i)), (2, .long 0), (4, .int 0)]) rfl ?_
    exact w_X4_crowdIsOfThoseThatCame_12 C hQ FU 0 0 a1.1 a1.2 h
abbrev r_X4_isOneThingOnce : Room := { frames := 4, cells := 0, slots := 0, locals := 85 }
theorem m_X4_isOneThingOnce_0 : Cond.fieldLink RX4 18 "Bookinghouse" "houses" "[LBookinghouse$House;" ∈ wsX4_isOneThingOnce := by decide +kernel
theorem i_X4_isOneThingOnce_X4 : ∀ w ∈ wsX40, w ∈ wsX4_isOneThingOnce := by decide +kernel
theorem m_X4_isOneThingOnce_2 : Cond.fieldLink RX4 71 "Bookinghouse$House" "queue" "LBookinghouse$Row;" ∈ wsX4_isOneThingOnce := by decide +kernel
theorem i_X4_isOneThingOnce_X1 : ∀ w ∈ wsX10, w ∈ wsX4_isOneThingOnce := by decide +kernel
theorem m_X4_isOneThingOnce_4 : Cond.fieldLink RX4 150 "Bookinghouse$House" "past" "LBookinghouse$Row;" ∈ wsX4_isOneThingOnce := by decide +kernel
theorem m_X4_isOneThingOnce_5 : Cond.fieldLink RX4 10 "Bookinghouse" "ledger" "LBookinghouse$Ledger;" ∈ wsX4_isOneThingOnce := by decide +kernel
theorem m_X4_isOneThingOnce_6 : Cond.fieldLink RX4 173 "Bookinghouse$Ledger" "states" "LBookinghouse$Row;" ∈ wsX4_isOneThingOnce := by decide +kernel
theorem i_X4_isOneThingOnce_X2 : ∀ w ∈ wsX20, w ∈ wsX4_isOneThingOnce := by decide +kernel
set_option maxHeartbeats 4000000 in
set_option maxRecDepth 100000 in
theorem v_X4_isOneThingOnce_101 {E : gE} {X : gX} {a : Nat → Nat} {lt : RS} {ls : RS} {lw : RS} {lh : RS} {lx : RS} {z0 : Int32} {q0 : RS} {u0 : RS} {t0 : RS} {c0 : RS} {z1 : Int32} {q1 : RS} {u1 : RS} {t1 : RS} {c1 : RS} {z2 : Int32} {q2 : RS} {u2 : RS} {t2 : RS} {c2 : RS} {z3 : Int32} {q3 : RS} {u3 : RS} {t3 : RS} {c3 : RS} {p1 : Int32} {v3 : Int32} {v4 : Int32} {s0 : Int32} {s1 : Bool} {o : (Bool)} (C : Cx E X cX4_isOneThingOnce 8 RX4 wsX4_isOneThingOnce r_X4_isOneThingOnce ((some .boolean)) []) (hQ : gQ E X (wB E a ++ (wA E a ++ (wX2 E a 2 lt ls lw lh lx ++ (wX1 E a 18 0 z0 q0 u0 t0 c0 ++ (wX1 E a 28 1 z1 q1 u1 t1 c1 ++ (wX1 E a 38 2 z2 q2 u2 t2 c2 ++ wX1 E a 48 3 z3 q3 u3 t3 c3)))))) r_X4_isOneThingOnce (gO (fun u9 => some (.int (bI u9))) (fun u9 => (wB E a ++ (wA E a ++ (wX2 E a 2 lt ls lw lh lx ++ (wX1 E a 18 0 z0 q0 u0 t0 c0 ++ (wX1 E a 28 1 z1 q1 u1 t1 c1 ++ (wX1 E a 38 2 z2 q2 u2 t2 c2 ++ wX1 E a 48 3 z3 q3 u3 t3 c3))))))) (.inr o))) (h : b_X4_isOneThingOnce_101 v3 v4 s0 s1 = some o) : Gx E X (wB E a ++ (wA E a ++ (wX2 E a 2 lt ls lw lh lx ++ (wX1 E a 18 0 z0 q0 u0 t0 c0 ++ (wX1 E a 28 1 z1 q1 u1 t1 c1 ++ (wX1 E a 38 2 z2 q2 u2 t2 c2 ++ wX1 E a 48 3 z3 q3 u3 t3 c3)))))) 8 [(3, .int v3), (4, .int v4)] [.int (bI s1), .int s0] 101 0 0 := by
  rw [b_X4_isOneThingOnce_101] at h
  refine g_icmp_ne C (tgt := 123) dX4_isOneThingOnce_101 (by decide) (fun c1 => ?_) (fun c1 => ?_)
  · replace h := (if_neg c1).symm.trans h
    refine g_iconst C (v := 0) (by decide) dX4_isOneThingOnce_123 ?_
    obtain rfl := Option.some.inj h
    exact g_zret C hQ rfl rfl ⟨by decide, by decide⟩ dX4_isOneThingOnce_124
  · replace h := (if_pos c1).symm.trans h
    refine g_iload_n C 0 rfl rfl dX4_isOneThingOnce_104 ?_
    refine g_iload C 1 rfl dX4_isOneThingOnce_105 ?_
    refine g_iconst C (v := 1) (by decide) dX4_isOneThingOnce_107 ?_
    refine g_icmp_ne C (tgt := 115) dX4_isOneThingOnce_108 (by decide) (fun c2 => ?_) (fun c2 => ?_)
    · replace h := (if_neg c2).symm.trans h
      refine g_iconst C (v := 0) (by decide) dX4_isOneThingOnce_115 ?_
      refine g_icmp_ne C (tgt := 123) dX4_isOneThingOnce_116 (by decide) (fun c3 => ?_) (fun c3 => ?_)
      · replace h := (if_neg c3).symm.trans h
        refine g_iconst C (v := 0) (by decide) dX4_isOneThingOnce_123 ?_
        obtain rfl := Option.some.inj h
        exact g_zret C hQ rfl rfl ⟨by decide, by decide⟩ dX4_isOneThingOnce_124
      · replace h := (if_pos c3).symm.trans h
        refine g_iconst C (v := 1) (by decide) dX4_isOneThingOnce_119 ?_
        refine g_goto C (tgt := 124) dX4_isOneThingOnce_120 (by decide) ?_
        obtain rfl := Option.some.inj h
        exact g_zret C hQ rfl rfl ⟨by decide, by decide⟩ dX4_isOneThingOnce_124
    · replace h := (if_pos c2).symm.trans h
      refine g_iconst C (v := 1) (by decide) dX4_isOneThingOnce_111 ?_
      refine g_goto C (tgt := 116) dX4_isOneThingOnce_112 (by decide) ?_
      refine g_icmp_ne C (tgt := 123) dX4_isOneThingOnce_116 (by decide) (fun c4 => ?_) (fun c4 => ?_)
      · replace h := (if_neg c4).symm.trans h
        refine g_iconst C (v := 0) (by decide) dX4_isOneThingOnce_123 ?_
        obtain rfl := Option.some.inj h
        exact g_zret C hQ rfl rfl ⟨by decide, by decide⟩ dX4_isOneThingOnce_124
      · replace h := (if_pos c4).symm.trans h
        refine g_iconst C (v := 1) (by decide) dX4_isOneThingOnce_119 ?_
        refine g_goto C (tgt := 124) dX4_isOneThingOnce_120 (by decide) ?_
        obtain rfl := Option.some.inj h
        exact g_zret C hQ rfl rfl ⟨by decide, by decide⟩ dX4_isOneThingOnce_124
set_option maxHeartbeats 4000000 in
set_option maxRecDepth 100000 in
theorem c_X4_isOneThingOnce (E : gE) (a : Nat → Nat) (lt : RS) (ls : RS) (lw : RS) (lh : RS) (lx : RS) (z0 : Int32) (q0 : RS) (u0 : RS) (t0 : RS) (c0 : RS) (z1 : Int32) (q1 : RS) (u1 : RS) (t1 : RS) (c1 : RS) (z2 : Int32) (q2 : RS) (u2 : RS) (t2 : RS) (c2 : RS) (z3 : Int32) (q3 : RS) (u3 : RS) (t3 : RS) (c3 : RS) (p1 : Int32) (o : (Bool)) (h : f_X4_isOneThingOnce lx q0 u0 q1 u1 q2 u2 q3 u3 p1 = some o) : Ct E yX4_isOneThingOnce wsX4_isOneThingOnce r_X4_isOneThingOnce [.ref (a 0), .int p1] (wB E a ++ (wA E a ++ (wX2 E a 2 lt ls lw lh lx ++ (wX1 E a 18 0 z0 q0 u0 t0 c0 ++ (wX1 E a 28 1 z1 q1 u1 t1 c1 ++ (wX1 E a 38 2 z2 q2 u2 t2 c2 ++ wX1 E a 48 3 z3 q3 u3 t3 c3)))))) (gO (fun u9 => some (.int (bI u9))) (fun u9 => (wB E a ++ (wA E a ++ (wX2 E a 2 lt ls lw lh lx ++ (wX1 E a 18 0 z0 q0 u0 t0 c0 ++ (wX1 E a 28 1 z1 q1 u1 t1 c1 ++ (wX1 E a 38 2 z2 q2 u2 t2 c2 ++ wX1 E a 48 3 z3 q3 u3 t3 c3))))))) (.inr o)) := by
  refine Ct.of (cc := cX4_isOneThingOnce) (nL := 8) (ret := ((some .boolean))) (own := RX4) (by decide) rfl rfl (Nat.le_of_ble_eq_true rfl) rfl ?_ ?_
  · intro v w1 hh
    cases hh; rfl
  · intro X C hQ
    rw [f_X4_isOneThingOnce] at h
    refine g_iconst C (v := 0) (by decide) dX4_isOneThingOnce_0 ?_
    refine g_istore_n C (lv2 := [(2, .int 0), (0, .ref (a 0)), (1, .int p1)]) rfl (by decide) rfl dX4_isOneThingOnce_1 ?_
    refine g_iconst C (v := 0) (by decide) dX4_isOneThingOnce_2 ?_
    refine g_istore_n C (lv2 := [(3, .int 0), (2, .int 0), (0, .ref (a 0)), (1, .int p1)]) rfl (by decide) rfl dX4_isOneThingOnce_3 ?_
    refine g_aload_n C 2 rfl rfl dX4_isOneThingOnce_4 ?_
    refine g_X4_houses C i_X4_isOneThingOnce_X4 m_X4_isOneThingOnce_0 0 rfl dX4_isOneThingOnce_5 ?_
    refine g_astore C (lv2 := [(4, .ref (a 1)), (3, .int 0), (2, .int 0), (0, .ref (a 0)), (1, .int p1)]) rfl (by decide) dX4_isOneThingOnce_8 ?_
    refine g_aload C 0 rfl dX4_isOneThingOnce_10 ?_
    refine g_alen4 C 1 rfl dX4_isOneThingOnce_12 ?_
    refine g_istore C (lv2 := [(5, .int 4), (4, .ref (a 1)), (3, .int 0), (2, .int 0), (0, .ref (a 0)), (1, .int p1)]) rfl (by decide) dX4_isOneThingOnce_13 ?_
    refine g_iconst C (v := 0) (by decide) dX4_isOneThingOnce_15 ?_
    refine g_istore C (lv2 := [(6, .int 0), (5, .int 4), (4, .ref (a 1)), (3, .int 0), (2, .int 0), (0, .ref (a 0)), (1, .int p1)]) rfl (by decide) dX4_isOneThingOnce_16 ?_
    refine g_iload C 0 rfl dX4_isOneThingOnce_18 ?_
    refine g_iload C 1 rfl dX4_isOneThingOnce_20 ?_
    refine g_icmp_ge C (tgt := 67) dX4_isOneThingOnce_22 (by decide) (fun c1 => absurd c1 (by decide)) (fun c1 => ?_)
    refine g_aload C 2 rfl dX4_isOneThingOnce_25 ?_
    refine g_iload C 0 rfl dX4_isOneThingOnce_27 ?_
    refine g_aald4 C (a9 := (a 18)) 1 rfl (inB_in (by decide +kernel)) rfl dX4_isOneThingOnce_29 ?_
    refine g_astore C (lv2 := [(7, .ref (a 18)), (6, .int 0), (5, .int 4), (4, .ref (a 1)), (3, .int 0), (2, .int 0), (0, .ref (a 0)), (1, .int p1)]) rfl (by decide) dX4_isOneThingOnce_30 ?_
    refine g_aload C 0 rfl dX4_isOneThingOnce_32 ?_
    refine g_ifnull C dX4_isOneThingOnce_34 ?_
    refine g_iload_n C 5 rfl rfl dX4_isOneThingOnce_37 ?_
    refine g_aload C 0 rfl dX4_isOneThingOnce_38 ?_
    refine g_X1_queue C i_X4_isOneThingOnce_X1 m_X4_isOneThingOnce_2 13 rfl dX4_isOneThingOnce_40 ?_
    refine g_iload_n C 7 rfl rfl dX4_isOneThingOnce_43 ?_
    obtain ⟨a2, ea2, h⟩ := Option.bind_eq_some_iff.mp h
    refine g_cVr (As := [.int p1]) (st := [.int 0]) (w2 := (wB E a ++ (wA E a ++ (wX2 E a 2 lt ls lw lh lx ++ (wX1 E a 18 0 z0 q0 u0 t0 c0 ++ (wX1 E a 28 1 z1 q1 u1 t1 c1 ++ (wX1 E a 38 2 z2 q2 u2 t2 c2 ++ wX1 E a 48 3 z3 q3 u3 t3 c3))))))) C (c_X3_count E (a 19) (a 20) 48 q0 p1 a2 ea2) gX4_isOneThingOnce_X3_count rfl (by decide +kernel) ⟨by decide, by decide, by decide, by decide, Nat.le_of_ble_eq_true rfl⟩ rfl 0 rfl [14, 15] rfl rfl rfl dX4_isOneThingOnce_44 ?_
    refine g_iadd C dX4_isOneThingOnce_47 ?_
    refine g_istore_n C (lv2 := [(2, .int (0 + a2)), (7, .ref (a 18)), (6, .int 0), (5, .int 4), (4, .ref (a 1)), (3, .int 0), (0, .ref (a 0)), (1, .int p1)]) rfl (by decide) rfl dX4_isOneThingOnce_48 ?_
    refine g_iload_n C 5 rfl rfl dX4_isOneThingOnce_49 ?_
    refine g_aload C 1 rfl dX4_isOneThingOnce_50 ?_
    refine g_X1_past C i_X4_isOneThingOnce_X1 m_X4_isOneThingOnce_4 13 rfl dX4_isOneThingOnce_52 ?_
    refine g_iload_n C 7 rfl rfl dX4_isOneThingOnce_55 ?_
    obtain ⟨a3, ea3, h⟩ := Option.bind_eq_some_iff.mp h
    refine g_cVr (As := [.int p1]) (st := [.int 0]) (w2 := (wB E a ++ (wA E a ++ (wX2 E a 2 lt ls lw lh lx ++ (wX1 E a 18 0 z0 q0 u0 t0 c0 ++ (wX1 E a 28 1 z1 q1 u1 t1 c1 ++ (wX1 E a 38 2 z2 q2 u2 t2 c2 ++ wX1 E a 48 3 z3 q3 u3 t3 c3))))))) C (c_X3_count E (a 21) (a 22) 120 u0 p1 a3 ea3) gX4_isOneThingOnce_X3_count rfl (by decide +kernel) ⟨by decide, by decide, by decide, by decide, Nat.le_of_ble_eq_true rfl⟩ rfl 0 rfl [16, 17] rfl rfl rfl dX4_isOneThingOnce_56 ?_
    refine g_iadd C dX4_isOneThingOnce_59 ?_
    refine g_istore_n C (lv2 := [(3, .int (0 + a3)), (2, .int (0 + a2)), (7, .ref (a 18)), (6, .int 0), (5, .int 4), (4, .ref (a 1)), (0, .ref (a 0)), (1, .int p1)]) rfl (by decide) rfl dX4_isOneThingOnce_60 ?_
    refine g_iinc C (v := 1) 3 rfl rfl (lv2 := [(6, .int 1), (3, .int (0 + a3)), (2, .int (0 + a2)), (7, .ref (a 18)), (5, .int 4), (4, .ref (a 1)), (0, .ref (a 0)), (1, .int p1)]) rfl (by decide) dX4_isOneThingOnce_61 ?_
    refine g_goto C (tgt := 18) dX4_isOneThingOnce_64 (by decide) ?_
    refine g_iload C 0 rfl dX4_isOneThingOnce_18 ?_
    refine g_iload C 4 rfl dX4_isOneThingOnce_20 ?_
    refine g_icmp_ge C (tgt := 67) dX4_isOneThingOnce_22 (by decide) (fun c4 => absurd c4 (by decide)) (fun c4 => ?_)
    refine g_aload C 5 rfl dX4_isOneThingOnce_25 ?_
    refine g_iload C 0 rfl dX4_isOneThingOnce_27 ?_
    refine g_aald4 C (a9 := (a 28)) 1 rfl (inB_in (by decide +kernel)) rfl dX4_isOneThingOnce_29 ?_
    refine g_astore C (lv2 := [(7, .ref (a 28)), (6, .int 1), (3, .int (0 + a3)), (2, .int (0 + a2)), (5, .int 4), (4, .ref (a 1)), (0, .ref (a 0)), (1, .int p1)]) rfl (by decide) dX4_isOneThingOnce_30 ?_
    refine g_aload C 0 rfl dX4_isOneThingOnce_32 ?_
    refine g_ifnull C dX4_isOneThingOnce_34 ?_
    refine g_iload_n C 3 rfl rfl dX4_isOneThingOnce_37 ?_
    refine g_aload C 0 rfl dX4_isOneThingOnce_38 ?_
    refine g_X1_queue C i_X4_isOneThingOnce_X1 m_X4_isOneThingOnce_2 23 rfl dX4_isOneThingOnce_40 ?_
    refine g_iload_n C 7 rfl rfl dX4_isOneThingOnce_43 ?_
    obtain ⟨a5, ea5, h⟩ := Option.bind_eq_some_iff.mp h
    refine g_cVr (As := [.int p1]) (st := [.int (0 + a2)]) (w2 := (wB E a ++ (wA E a ++ (wX2 E a 2 lt ls lw lh lx ++ (wX1 E a 18 0 z0 q0 u0 t0 c0 ++ (wX1 E a 28 1 z1 q1 u1 t1 c1 ++ (wX1 E a 38 2 z2 q2 u2 t2 c2 ++ wX1 E a 48 3 z3 q3 u3 t3 c3))))))) C (c_X3_count E (a 29) (a 30) 48 q1 p1 a5 ea5) gX4_isOneThingOnce_X3_count rfl (by decide +kernel) ⟨by decide, by decide, by decide, by decide, Nat.le_of_ble_eq_true rfl⟩ rfl 0 rfl [24, 25] rfl rfl rfl dX4_isOneThingOnce_44 ?_
    refine g_iadd C dX4_isOneThingOnce_47 ?_
    refine g_istore_n C (lv2 := [(2, .int ((0 + a2) + a5)), (7, .ref (a 28)), (6, .int 1), (3, .int (0 + a3)), (5, .int 4), (4, .ref (a 1)), (0, .ref (a 0)), (1, .int p1)]) rfl (by decide) rfl dX4_isOneThingOnce_48 ?_
    refine g_iload_n C 3 rfl rfl dX4_isOneThingOnce_49 ?_
    refine g_aload C 1 rfl dX4_isOneThingOnce_50 ?_
    refine g_X1_past C i_X4_isOneThingOnce_X1 m_X4_isOneThingOnce_4 23 rfl dX4_isOneThingOnce_52 ?_
    refine g_iload_n C 7 rfl rfl dX4_isOneThingOnce_55 ?_
    obtain ⟨a6, ea6, h⟩ := Option.bind_eq_some_iff.mp h
    refine g_cVr (As := [.int p1]) (st := [.int (0 + a3)]) (w2 := (wB E a ++ (wA E a ++ (wX2 E a 2 lt ls lw lh lx ++ (wX1 E a 18 0 z0 q0 u0 t0 c0 ++ (wX1 E a 28 1 z1 q1 u1 t1 c1 ++ (wX1 E a 38 2 z2 q2 u2 t2 c2 ++ wX1 E a 48 3 z3 q3 u3 t3 c3))))))) C (c_X3_count E (a 31) (a 32) 120 u1 p1 a6 ea6) gX4_isOneThingOnce_X3_count rfl (by decide +kernel) ⟨by decide, by decide, by decide, by decide, Nat.le_of_ble_eq_true rfl⟩ rfl 0 rfl [26, 27] rfl rfl rfl dX4_isOneThingOnce_56 ?_
    refine g_iadd C dX4_isOneThingOnce_59 ?_
    refine g_istore_n C (lv2 := [(3, .int ((0 + a3) + a6)), (2, .int ((0 + a2) + a5)), (7, .ref (a 28)), (6, .int 1), (5, .int 4), (4, .ref (a 1)), (0, .ref (a 0)), (1, .int p1)]) rfl (by decide) rfl dX4_isOneThingOnce_60 ?_
    refine g_iinc C (v := 2) 3 rfl rfl (lv2 := [(6, .int 2), (3, .int ((0 + a3) + a6)), (2, .int ((0 + a2) + a5)), (7, .ref (a 28)), (5, .int 4), (4, .ref (a 1)), (0, .ref (a 0)), (1, .int p1)]) rfl (by decide) dX4_isOneThingOnce_61 ?_
    refine g_goto C (tgt := 18) dX4_isOneThingOnce_64 (by decide) ?_
    refine g_iload C 0 rfl dX4_isOneThingOnce_18 ?_
    refine g_iload C 4 rfl dX4_isOneThingOnce_20 ?_
    refine g_icmp_ge C (tgt := 67) dX4_isOneThingOnce_22 (by decide) (fun c7 => absurd c7 (by decide)) (fun c7 => ?_)
    refine g_aload C 5 rfl dX4_isOneThingOnce_25 ?_
    refine g_iload C 0 rfl dX4_isOneThingOnce_27 ?_
    refine g_aald4 C (a9 := (a 38)) 1 rfl (inB_in (by decide +kernel)) rfl dX4_isOneThingOnce_29 ?_
    refine g_astore C (lv2 := [(7, .ref (a 38)), (6, .int 2), (3, .int ((0 + a3) + a6)), (2, .int ((0 + a2) + a5)), (5, .int 4), (4, .ref (a 1)), (0, .ref (a 0)), (1, .int p1)]) rfl (by decide) dX4_isOneThingOnce_30 ?_
    refine g_aload C 0 rfl dX4_isOneThingOnce_32 ?_
    refine g_ifnull C dX4_isOneThingOnce_34 ?_
    refine g_iload_n C 3 rfl rfl dX4_isOneThingOnce_37 ?_
    refine g_aload C 0 rfl dX4_isOneThingOnce_38 ?_
    refine g_X1_queue C i_X4_isOneThingOnce_X1 m_X4_isOneThingOnce_2 33 rfl dX4_isOneThingOnce_40 ?_
    refine g_iload_n C 7 rfl rfl dX4_isOneThingOnce_43 ?_
    obtain ⟨a8, ea8, h⟩ := Option.bind_eq_some_iff.mp h
    refine g_cVr (As := [.int p1]) (st := [.int ((0 + a2) + a5)]) (w2 := (wB E a ++ (wA E a ++ (wX2 E a 2 lt ls lw lh lx ++ (wX1 E a 18 0 z0 q0 u0 t0 c0 ++ (wX1 E a 28 1 z1 q1 u1 t1 c1 ++ (wX1 E a 38 2 z2 q2 u2 t2 c2 ++ wX1 E a 48 3 z3 q3 u3 t3 c3))))))) C (c_X3_count E (a 39) (a 40) 48 q2 p1 a8 ea8) gX4_isOneThingOnce_X3_count rfl (by decide +kernel) ⟨by decide, by decide, by decide, by decide, Nat.le_of_ble_eq_true rfl⟩ rfl 0 rfl [34, 35] rfl rfl rfl dX4_isOneThingOnce_44 ?_
    refine g_iadd C dX4_isOneThingOnce_47 ?_
    refine g_istore_n C (lv2 := [(2, .int (((0 + a2) + a5) + a8)), (7, .ref (a 38)), (6, .int 2), (3, .int ((0 + a3) + a6)), (5, .int 4), (4, .ref (a 1)), (0, .ref (a 0)), (1, .int p1)]) rfl (by decide) rfl dX4_isOneThingOnce_48 ?_
    refine g_iload_n C 3 rfl rfl dX4_isOneThingOnce_49 ?_
    refine g_aload C 1 rfl dX4_isOneThingOnce_50 ?_
    refine g_X1_past C i_X4_isOneThingOnce_X1 m_X4_isOneThingOnce_4 33 rfl dX4_isOneThingOnce_52 ?_
    refine g_iload_n C 7 rfl rfl dX4_isOneThingOnce_55 ?_
    obtain ⟨a9, ea9, h⟩ := Option.bind_eq_some_iff.mp h
    refine g_cVr (As := [.int p1]) (st := [.int ((0 + a3) + a6)]) (w2 := (wB E a ++ (wA E a ++ (wX2 E a 2 lt ls lw lh lx ++ (wX1 E a 18 0 z0 q0 u0 t0 c0 ++ (wX1 E a 28 1 z1 q1 u1 t1 c1 ++ (wX1 E a 38 2 z2 q2 u2 t2 c2 ++ wX1 E a 48 3 z3 q3 u3 t3 c3))))))) C (c_X3_count E (a 41) (a 42) 120 u2 p1 a9 ea9) gX4_isOneThingOnce_X3_count rfl (by decide +kernel) ⟨by decide, by decide, by decide, by decide, Nat.le_of_ble_eq_true rfl⟩ rfl 0 rfl [36, 37] rfl rfl rfl dX4_isOneThingOnce_56 ?_
    refine g_iadd C dX4_isOneThingOnce_59 ?_
    refine g_istore_n C (lv2 := [(3, .int (((0 + a3) + a6) + a9)), (2, .int (((0 + a2) + a5) + a8)), (7, .ref (a 38)), (6, .int 2), (5, .int 4), (4, .ref (a 1)), (0, .ref (a 0)), (1, .int p1)]) rfl (by decide) rfl dX4_isOneThingOnce_60 ?_
    refine g_iinc C (v := 3) 3 rfl rfl (lv2 := [(6, .int 3), (3, .int (((0 + a3) + a6) + a9)), (2, .int (((0 + a2) + a5) + a8)), (7, .ref (a 38)), (5, .int 4), (4, .ref (a 1)), (0, .ref (a 0)), (1, .int p1)]) rfl (by decide) dX4_isOneThingOnce_61 ?_
    refine g_goto C (tgt := 18) dX4_isOneThingOnce_64 (by decide) ?_
    refine g_iload C 0 rfl dX4_isOneThingOnce_18 ?_
    refine g_iload C 4 rfl dX4_isOneThingOnce_20 ?_
    refine g_icmp_ge C (tgt := 67) dX4_isOneThingOnce_22 (by decide) (fun c10 => absurd c10 (by decide)) (fun c10 => ?_)
    refine g_aload C 5 rfl dX4_isOneThingOnce_25 ?_
    refine g_iload C 0 rfl dX4_isOneThingOnce_27 ?_
    refine g_aald4 C (a9 := (a 48)) 1 rfl (inB_in (by decide +kernel)) rfl dX4_isOneThingOnce_29 ?_
    refine g_astore C (lv2 := [(7, .ref (a 48)), (6, .int 3), (3, .int (((0 + a3) + a6) + a9)), (2, .int (((0 + a2) + a5) + a8)), (5, .int 4), (4, .ref (a 1)), (0, .ref (a 0)), (1, .int p1)]) rfl (by decide) dX4_isOneThingOnce_30 ?_
    refine g_aload C 0 rfl dX4_isOneThingOnce_32 ?_
    refine g_ifnull C dX4_isOneThingOnce_34 ?_
    refine g_iload_n C 3 rfl rfl dX4_isOneThingOnce_37 ?_
    refine g_aload C 0 rfl dX4_isOneThingOnce_38 ?_
    refine g_X1_queue C i_X4_isOneThingOnce_X1 m_X4_isOneThingOnce_2 43 rfl dX4_isOneThingOnce_40 ?_
    refine g_iload_n C 7 rfl rfl dX4_isOneThingOnce_43 ?_
    obtain ⟨a11, ea11, h⟩ := Option.bind_eq_some_iff.mp h
    refine g_cVr (As := [.int p1]) (st := [.int (((0 + a2) + a5) + a8)]) (w2 := (wB E a ++ (wA E a ++ (wX2 E a 2 lt ls lw lh lx ++ (wX1 E a 18 0 z0 q0 u0 t0 c0 ++ (wX1 E a 28 1 z1 q1 u1 t1 c1 ++ (wX1 E a 38 2 z2 q2 u2 t2 c2 ++ wX1 E a 48 3 z3 q3 u3 t3 c3))))))) C (c_X3_count E (a 49) (a 50) 48 q3 p1 a11 ea11) gX4_isOneThingOnce_X3_count rfl (by decide +kernel) ⟨by decide, by decide, by decide, by decide, Nat.le_of_ble_eq_true rfl⟩ rfl 0 rfl [44, 45] rfl rfl rfl dX4_isOneThingOnce_44 ?_
    refine g_iadd C dX4_isOneThingOnce_47 ?_
    refine g_istore_n C (lv2 := [(2, .int ((((0 + a2) + a5) + a8) + a11)), (7, .ref (a 48)), (6, .int 3), (3, .int (((0 + a3) + a6) + a9)), (5, .int 4), (4, .ref (a 1)), (0, .ref (a 0)), (1, .int p1)]) rfl (by decide) rfl dX4_isOneThingOnce_48 ?_
    refine g_iload_n C 3 rfl rfl dX4_isOneThingOnce_49 ?_
    refine g_aload C 1 rfl dX4_isOneThingOnce_50 ?_
    refine g_X1_past C i_X4_isOneThingOnce_X1 m_X4_isOneThingOnce_4 43 rfl dX4_isOneThingOnce_52 ?_
    refine g_iload_n C 7 rfl rfl dX4_isOneThingOnce_55 ?_
    obtain ⟨a12, ea12, h⟩ := Option.bind_eq_some_iff.mp h
    refine g_cVr (As := [.int p1]) (st := [.int (((0 + a3) + a6) + a9)]) (w2 := (wB E a ++ (wA E a ++ (wX2 E a 2 lt ls lw lh lx ++ (wX1 E a 18 0 z0 q0 u0 t0 c0 ++ (wX1 E a 28 1 z1 q1 u1 t1 c1 ++ (wX1 E a 38 2 z2 q2 u2 t2 c2 ++ wX1 E a 48 3 z3 q3 u3 t3 c3))))))) C (c_X3_count E (a 51) (a 52) 120 u3 p1 a12 ea12) gX4_isOneThingOnce_X3_count rfl (by decide +kernel) ⟨by decide, by decide, by decide, by decide, Nat.le_of_ble_eq_true rfl⟩ rfl 0 rfl [46, 47] rfl rfl rfl dX4_isOneThingOnce_56 ?_
    refine g_iadd C dX4_isOneThingOnce_59 ?_
    refine g_istore_n C (lv2 := [(3, .int ((((0 + a3) + a6) + a9) + a12)), (2, .int ((((0 + a2) + a5) + a8) + a11)), (7, .ref (a 48)), (6, .int 3), (5, .int 4), (4, .ref (a 1)), (0, .ref (a 0)), (1, .int p1)]) rfl (by decide) rfl dX4_isOneThingOnce_60 ?_
    refine g_iinc C (v := 4) 3 rfl rfl (lv2 := [(6, .int 4), (3, .int ((((0 + a3) + a6) + a9) + a12)), (2, .int ((((0 + a2) + a5) + a8) + a11)), (7, .ref (a 48)), (5, .int 4), (4, .ref (a 1)), (0, .ref (a 0)), (1, .int p1)]) rfl (by decide) dX4_isOneThingOnce_61 ?_
    refine g_goto C (tgt := 18) dX4_isOneThingOnce_64 (by decide) ?_
    refine g_iload C 0 rfl dX4_isOneThingOnce_18 ?_
    refine g_iload C 4 rfl dX4_isOneThingOnce_20 ?_
    refine g_icmp_ge C (tgt := 67) dX4_isOneThingOnce_22 (by decide) (fun c13 => ?_) (fun c13 => absurd c13 (by decide))
    refine g_aload_n C 6 rfl rfl dX4_isOneThingOnce_67 ?_
    refine g_X4_ledger C i_X4_isOneThingOnce_X4 m_X4_isOneThingOnce_5 0 rfl dX4_isOneThingOnce_68 ?_
    refine g_X2_states C i_X4_isOneThingOnce_X2 m_X4_isOneThingOnce_6 2 rfl dX4_isOneThingOnce_71 ?_
    refine g_iload_n C 7 rfl rfl dX4_isOneThingOnce_74 ?_
    obtain ⟨a14, ea14, h⟩ := Option.bind_eq_some_iff.mp h
    refine g_cVr (As := [.int p1]) (st := []) (w2 := (wB E a ++ (wA E a ++ (wX2 E a 2 lt ls lw lh lx ++ (wX1 E a 18 0 z0 q0 u0 t0 c0 ++ (wX1 E a 28 1 z1 q1 u1 t1 c1 ++ (wX1 E a 38 2 z2 q2 u2 t2 c2 ++ wX1 E a 48 3 z3 q3 u3 t3 c3))))))) C (c_X3_get E (a 11) (a 12) 120 lx p1 a14 ea14) gX4_isOneThingOnce_X3_get rfl (by decide +kernel) ⟨by decide, by decide, by decide, by decide, Nat.le_of_ble_eq_true rfl⟩ rfl 0 rfl [11, 12] rfl rfl rfl dX4_isOneThingOnce_75 ?_
    refine g_istore C (lv2 := [(4, .int a14), (6, .int 4), (3, .int ((((0 + a3) + a6) + a9) + a12)), (2, .int ((((0 + a2) + a5) + a8) + a11)), (7, .ref (a 48)), (5, .int 4), (0, .ref (a 0)), (1, .int p1)]) rfl (by decide) dX4_isOneThingOnce_78 ?_
    refine g_iload C 0 rfl dX4_isOneThingOnce_80 ?_
    refine g_iconst C (v := 0) (by decide) dX4_isOneThingOnce_82 ?_
    refine g_iconst C (v := 2) (by decide) dX4_isOneThingOnce_83 ?_
    obtain ⟨a15, ea15, h⟩ := Option.bind_eq_some_iff.mp h
    refine g_cSr (As := [.int a14, .int 0, .int 2]) (st := []) (w2 := (wB E a ++ (wA E a ++ (wX2 E a 2 lt ls lw lh lx ++ (wX1 E a 18 0 z0 q0 u0 t0 c0 ++ (wX1 E a 28 1 z1 q1 u1 t1 c1 ++ (wX1 E a 38 2 z2 q2 u2 t2 c2 ++ wX1 E a 48 3 z3 q3 u3 t3 c3))))))) C (c_X4_isIn E a14 0 2 a15 ea15) gX4_isOneThingOnce_X4_isIn rfl (by decide +kernel) ⟨by decide, by decide, by decide, by decide, Nat.le_of_ble_eq_true rfl⟩ [] rfl rfl rfl dX4_isOneThingOnce_84 ?_
    refine g_if_eq C (tgt := 123) dX4_isOneThingOnce_87 (by decide) (fun c16 => ?_) (fun c16 => ?_)
    · replace h := (if_pos c16).symm.trans h
      refine g_iconst C (v := 0) (by decide) dX4_isOneThingOnce_123 ?_
      obtain rfl := Option.some.inj h
      exact g_zret C hQ rfl rfl ⟨by decide, by decide⟩ dX4_isOneThingOnce_124
    · replace h := (if_neg c16).symm.trans h
      refine g_iload_n C 3 rfl rfl dX4_isOneThingOnce_90 ?_
      refine g_iload C 0 rfl dX4_isOneThingOnce_91 ?_
      refine g_if_ne C (tgt := 100) dX4_isOneThingOnce_93 (by decide) (fun c17 => ?_) (fun c17 => ?_)
      · replace h := (if_neg c17).symm.trans h
        refine g_iconst C (v := 0) (by decide) dX4_isOneThingOnce_100 ?_
        refine g_lv [2, 0] (lv2 := [(3, .int ((((0 + a3) + a6) + a9) + a12)), (4, .int a14)]) rfl ?_
        exact v_X4_isOneThingOnce_101 (v3 := ((((0 + a3) + a6) + a9) + a12)) (v4 := a14) (s0 := ((((0 + a2) + a5) + a8) + a11)) (s1 := false) C hQ h
      · replace h := (if_pos c17).symm.trans h
        refine g_iconst C (v := 1) (by decide) dX4_isOneThingOnce_96 ?_
        refine g_goto C (tgt := 101) dX4_isOneThingOnce_97 (by decide) ?_
        refine g_lv [2, 0] (lv2 := [(3, .int ((((0 + a3) + a6) + a9) + a12)), (4, .int a14)]) rfl ?_
        exact v_X4_isOneThingOnce_101 (v3 := ((((0 + a3) + a6) + a9) + a12)) (v4 := a14) (s0 := ((((0 + a2) + a5) + a8) + a11)) (s1 := true) C hQ h
abbrev r_X4_standsWithAllOthers_0 : Room := { frames := 5, cells := 0, slots := 0, locals := 115 }
theorem m_X4_standsWithAllOthers_0 : Cond.fieldLink RX4 18 "Bookinghouse" "houses" "[LBookinghouse$House;" ∈ wsX4_standsWithAllOthers := by decide +kernel
theorem i_X4_standsWithAllOthers_X4 : ∀ w ∈ wsX40, w ∈ wsX4_standsWithAllOthers := by decide +kernel
theorem m_X4_standsWithAllOthers_2 : Cond.fieldLink RX4 283 "Bookinghouse$House" "number" "I" ∈ wsX4_standsWithAllOthers := by decide +kernel
theorem i_X4_standsWithAllOthers_X1 : ∀ w ∈ wsX10, w ∈ wsX4_standsWithAllOthers := by decide +kernel
theorem m_X4_standsWithAllOthers_4 : Cond.fieldLink RX4 71 "Bookinghouse$House" "queue" "LBookinghouse$Row;" ∈ wsX4_standsWithAllOthers := by decide +kernel
set_option maxHeartbeats 4000000 in
set_option maxRecDepth 100000 in
theorem c_X4_standsWithAllOthers_0 (E : gE) (a : Nat → Nat) (lt : RS) (ls : RS) (lw : RS) (lh : RS) (lx : RS) (z0 : Int32) (q0 : RS) (u0 : RS) (t0 : RS) (c0 : RS) (z1 : Int32) (q1 : RS) (u1 : RS) (t1 : RS) (c1 : RS) (z2 : Int32) (q2 : RS) (u2 : RS) (t2 : RS) (c2 : RS) (z3 : Int32) (q3 : RS) (u3 : RS) (t3 : RS) (c3 : RS) (o : (Bool)) (h : f_X4_standsWithAllOthers_0 lt q0 q1 q2 q3 = some o) : Ct E yX4_standsWithAllOthers wsX4_standsWithAllOthers r_X4_standsWithAllOthers_0 [.ref (a 0), .ref (a 18)] (wB E a ++ (wA E a ++ (wX2 E a 2 lt ls lw lh lx ++ (wX1 E a 18 0 z0 q0 u0 t0 c0 ++ (wX1 E a 28 1 z1 q1 u1 t1 c1 ++ (wX1 E a 38 2 z2 q2 u2 t2 c2 ++ wX1 E a 48 3 z3 q3 u3 t3 c3)))))) (gO (fun u9 => some (.int (bI u9))) (fun u9 => (wB E a ++ (wA E a ++ (wX2 E a 2 lt ls lw lh lx ++ (wX1 E a 18 0 z0 q0 u0 t0 c0 ++ (wX1 E a 28 1 z1 q1 u1 t1 c1 ++ (wX1 E a 38 2 z2 q2 u2 t2 c2 ++ wX1 E a 48 3 z3 q3 u3 t3 c3))))))) (.inr o)) := by
  refine Ct.of (cc := cX4_standsWithAllOthers) (nL := 6) (ret := ((some .boolean))) (own := RX4) (by decide) rfl rfl (Nat.le_of_ble_eq_true rfl) rfl ?_ ?_
  · intro v w1 hh
    cases hh; rfl
  · intro X C hQ
    rw [f_X4_standsWithAllOthers_0] at h
    refine g_aload_n C 0 rfl rfl dX4_standsWithAllOthers_0 ?_
    refine g_X4_houses C i_X4_standsWithAllOthers_X4 m_X4_standsWithAllOthers_0 0 rfl dX4_standsWithAllOthers_1 ?_
    refine g_astore_n C (lv2 := [(2, .ref (a 1)), (0, .ref (a 0)), (1, .ref (a 18))]) rfl (by decide) rfl dX4_standsWithAllOthers_4 ?_
    refine g_aload_n C 0 rfl rfl dX4_standsWithAllOthers_5 ?_
    refine g_alen4 C 1 rfl dX4_standsWithAllOthers_6 ?_
    refine g_istore_n C (lv2 := [(3, .int 4), (2, .ref (a 1)), (0, .ref (a 0)), (1, .ref (a 18))]) rfl (by decide) rfl dX4_standsWithAllOthers_7 ?_
    refine g_iconst C (v := 0) (by decide) dX4_standsWithAllOthers_8 ?_
    refine g_istore C (lv2 := [(4, .int 0), (3, .int 4), (2, .ref (a 1)), (0, .ref (a 0)), (1, .ref (a 18))]) rfl (by decide) dX4_standsWithAllOthers_9 ?_
    refine g_iload C 0 rfl dX4_standsWithAllOthers_11 ?_
    refine g_iload_n C 1 rfl rfl dX4_standsWithAllOthers_13 ?_
    refine g_icmp_ge C (tgt := 64) dX4_standsWithAllOthers_14 (by decide) (fun c1 => absurd c1 (by decide)) (fun c1 => ?_)
    refine g_aload_n C 2 rfl rfl dX4_standsWithAllOthers_17 ?_
    refine g_iload C 0 rfl dX4_standsWithAllOthers_18 ?_
    refine g_aald4 C (a9 := (a 18)) 1 rfl (inB_in (by decide +kernel)) rfl dX4_standsWithAllOthers_20 ?_
    refine g_astore C (lv2 := [(5, .ref (a 18)), (4, .int 0), (3, .int 4), (2, .ref (a 1)), (0, .ref (a 0)), (1, .ref (a 18))]) rfl (by decide) dX4_standsWithAllOthers_21 ?_
    refine g_aload C 0 rfl dX4_standsWithAllOthers_23 ?_
    refine g_ifnull C dX4_standsWithAllOthers_25 ?_
    refine g_aload C 0 rfl dX4_standsWithAllOthers_28 ?_
    refine g_X1_number C i_X4_standsWithAllOthers_X1 m_X4_standsWithAllOthers_2 13 rfl dX4_standsWithAllOthers_30 ?_
    refine g_aload_n C 5 rfl rfl dX4_standsWithAllOthers_33 ?_
    refine g_X1_number C i_X4_standsWithAllOthers_X1 m_X4_standsWithAllOthers_2 13 rfl dX4_standsWithAllOthers_34 ?_
    refine g_icmp_le C (tgt := 58) dX4_standsWithAllOthers_37 (by decide) (fun c2 => ?_) (fun c2 => absurd c2 (by decide))
    refine g_iinc C (v := 1) 1 rfl rfl (lv2 := [(4, .int 1), (5, .ref (a 18)), (3, .int 4), (2, .ref (a 1)), (0, .ref (a 0)), (1, .ref (a 18))]) rfl (by decide) dX4_standsWithAllOthers_58 ?_
    refine g_goto C (tgt := 11) dX4_standsWithAllOthers_61 (by decide) ?_
    refine g_iload C 0 rfl dX4_standsWithAllOthers_11 ?_
    refine g_iload_n C 2 rfl rfl dX4_standsWithAllOthers_13 ?_
    refine g_icmp_ge C (tgt := 64) dX4_standsWithAllOthers_14 (by decide) (fun c3 => absurd c3 (by decide)) (fun c3 => ?_)
    refine g_aload_n C 3 rfl rfl dX4_standsWithAllOthers_17 ?_
    refine g_iload C 0 rfl dX4_standsWithAllOthers_18 ?_
    refine g_aald4 C (a9 := (a 28)) 1 rfl (inB_in (by decide +kernel)) rfl dX4_standsWithAllOthers_20 ?_
    refine g_astore C (lv2 := [(5, .ref (a 28)), (4, .int 1), (3, .int 4), (2, .ref (a 1)), (0, .ref (a 0)), (1, .ref (a 18))]) rfl (by decide) dX4_standsWithAllOthers_21 ?_
    refine g_aload C 0 rfl dX4_standsWithAllOthers_23 ?_
    refine g_ifnull C dX4_standsWithAllOthers_25 ?_
    refine g_aload C 0 rfl dX4_standsWithAllOthers_28 ?_
    refine g_X1_number C i_X4_standsWithAllOthers_X1 m_X4_standsWithAllOthers_2 23 rfl dX4_standsWithAllOthers_30 ?_
    refine g_aload_n C 5 rfl rfl dX4_standsWithAllOthers_33 ?_
    refine g_X1_number C i_X4_standsWithAllOthers_X1 m_X4_standsWithAllOthers_2 13 rfl dX4_standsWithAllOthers_34 ?_
    refine g_icmp_le C (tgt := 58) dX4_standsWithAllOthers_37 (by decide) (fun c4 => absurd c4 (by decide)) (fun c4 => ?_)
    refine g_aload_n C 4 rfl rfl dX4_standsWithAllOthers_40 ?_
    refine g_aload_n C 5 rfl rfl dX4_standsWithAllOthers_41 ?_
    refine g_X1_queue C i_X4_standsWithAllOthers_X1 m_X4_standsWithAllOthers_4 13 rfl dX4_standsWithAllOthers_42 ?_
    refine g_aload C 0 rfl dX4_standsWithAllOthers_45 ?_
    refine g_X1_queue C i_X4_standsWithAllOthers_X1 m_X4_standsWithAllOthers_4 23 rfl dX4_standsWithAllOthers_47 ?_
    obtain ⟨a5, ea5, h⟩ := Option.bind_eq_some_iff.mp h
    refine g_cVr (As := [.ref (a 19), .ref (a 29)]) (st := []) (w2 := (wB E a ++ (wA E a ++ (wX2 E a 2 lt ls lw lh lx ++ (wX1 E a 18 0 z0 q0 u0 t0 c0 ++ (wX1 E a 28 1 z1 q1 u1 t1 c1 ++ (wX1 E a 38 2 z2 q2 u2 t2 c2 ++ wX1 E a 48 3 z3 q3 u3 t3 c3))))))) C (c_X4_standInSequence E a lt ls lw lh lx (a 19) (a 20) 48 q0 (a 29) (a 30) 48 q1 a5 ea5) gX4_standsWithAllOthers_X4_standInSequence rfl (by decide +kernel) ⟨by decide, by decide, by decide, by decide, Nat.le_of_ble_eq_true rfl⟩ rfl 0 rfl [0, 2, 3, 4, 5, 6, 7, 8, 9, 10, 11, 12, 14, 15, 24, 25] rfl rfl rfl dX4_standsWithAllOthers_50 ?_
    refine g_if_ne C (tgt := 58) dX4_standsWithAllOthers_53 (by decide) (fun c6 => ?_) (fun c6 => ?_)
    · replace h := (if_neg c6).symm.trans h
      refine g_iinc C (v := 2) 1 rfl rfl (lv2 := [(4, .int 2), (5, .ref (a 28)), (3, .int 4), (2, .ref (a 1)), (0, .ref (a 0)), (1, .ref (a 18))]) rfl (by decide) dX4_standsWithAllOthers_58 ?_
      refine g_goto C (tgt := 11) dX4_standsWithAllOthers_61 (by decide) ?_
      refine g_iload C 0 rfl dX4_standsWithAllOthers_11 ?_
      refine g_iload_n C 2 rfl rfl dX4_standsWithAllOthers_13 ?_
      refine g_icmp_ge C (tgt := 64) dX4_standsWithAllOthers_14 (by decide) (fun c7 => absurd c7 (by decide)) (fun c7 => ?_)
      refine g_aload_n C 3 rfl rfl dX4_standsWithAllOthers_17 ?_
      refine g_iload C 0 rfl dX4_standsWithAllOthers_18 ?_
      refine g_aald4 C (a9 := (a 38)) 1 rfl (inB_in (by decide +kernel)) rfl dX4_standsWithAllOthers_20 ?_
      refine g_astore C (lv2 := [(5, .ref (a 38)), (4, .int 2), (3, .int 4), (2, .ref (a 1)), (0, .ref (a 0)), (1, .ref (a 18))]) rfl (by decide) dX4_standsWithAllOthers_21 ?_
      refine g_aload C 0 rfl dX4_standsWithAllOthers_23 ?_
      refine g_ifnull C dX4_standsWithAllOthers_25 ?_
      refine g_aload C 0 rfl dX4_standsWithAllOthers_28 ?_
      refine g_X1_number C i_X4_standsWithAllOthers_X1 m_X4_standsWithAllOthers_2 33 rfl dX4_standsWithAllOthers_30 ?_
      refine g_aload_n C 5 rfl rfl dX4_standsWithAllOthers_33 ?_
      refine g_X1_number C i_X4_standsWithAllOthers_X1 m_X4_standsWithAllOthers_2 13 rfl dX4_standsWithAllOthers_34 ?_
      refine g_icmp_le C (tgt := 58) dX4_standsWithAllOthers_37 (by decide) (fun c8 => absurd c8 (by decide)) (fun c8 => ?_)
      refine g_aload_n C 4 rfl rfl dX4_standsWithAllOthers_40 ?_
      refine g_aload_n C 5 rfl rfl dX4_standsWithAllOthers_41 ?_
      refine g_X1_queue C i_X4_standsWithAllOthers_X1 m_X4_standsWithAllOthers_4 13 rfl dX4_standsWithAllOthers_42 ?_
      refine g_aload C 0 rfl dX4_standsWithAllOthers_45 ?_
      refine g_X1_queue C i_X4_standsWithAllOthers_X1 m_X4_standsWithAllOthers_4 33 rfl dX4_standsWithAllOthers_47 ?_
      obtain ⟨a9, ea9, h⟩ := Option.bind_eq_some_iff.mp h
      refine g_cVr (As := [.ref (a 19), .ref (a 39)]) (st := []) (w2 := (wB E a ++ (wA E a ++ (wX2 E a 2 lt ls lw lh lx ++ (wX1 E a 18 0 z0 q0 u0 t0 c0 ++ (wX1 E a 28 1 z1 q1 u1 t1 c1 ++ (wX1 E a 38 2 z2 q2 u2 t2 c2 ++ wX1 E a 48 3 z3 q3 u3 t3 c3))))))) C (c_X4_standInSequence E a lt ls lw lh lx (a 19) (a 20) 48 q0 (a 39) (a 40) 48 q2 a9 ea9) gX4_standsWithAllOthers_X4_standInSequence rfl (by decide +kernel) ⟨by decide, by decide, by decide, by decide, Nat.le_of_ble_eq_true rfl⟩ rfl 0 rfl [0, 2, 3, 4, 5, 6, 7, 8, 9, 10, 11, 12, 14, 15, 34, 35] rfl rfl rfl dX4_standsWithAllOthers_50 ?_
      refine g_if_ne C (tgt := 58) dX4_standsWithAllOthers_53 (by decide) (fun c10 => ?_) (fun c10 => ?_)
      · replace h := (if_neg c10).symm.trans h
        refine g_iinc C (v := 3) 1 rfl rfl (lv2 := [(4, .int 3), (5, .ref (a 38)), (3, .int 4), (2, .ref (a 1)), (0, .ref (a 0)), (1, .ref (a 18))]) rfl (by decide) dX4_standsWithAllOthers_58 ?_
        refine g_goto C (tgt := 11) dX4_standsWithAllOthers_61 (by decide) ?_
        refine g_iload C 0 rfl dX4_standsWithAllOthers_11 ?_
        refine g_iload_n C 2 rfl rfl dX4_standsWithAllOthers_13 ?_
        refine g_icmp_ge C (tgt := 64) dX4_standsWithAllOthers_14 (by decide) (fun c11 => absurd c11 (by decide)) (fun c11 => ?_)
        refine g_aload_n C 3 rfl rfl dX4_standsWithAllOthers_17 ?_
        refine g_iload C 0 rfl dX4_standsWithAllOthers_18 ?_
        refine g_aald4 C (a9 := (a 48)) 1 rfl (inB_in (by decide +kernel)) rfl dX4_standsWithAllOthers_20 ?_
        refine g_astore C (lv2 := [(5, .ref (a 48)), (4, .int 3), (3, .int 4), (2, .ref (a 1)), (0, .ref (a 0)), (1, .ref (a 18))]) rfl (by decide) dX4_standsWithAllOthers_21 ?_
        refine g_aload C 0 rfl dX4_standsWithAllOthers_23 ?_
        refine g_ifnull C dX4_standsWithAllOthers_25 ?_
        refine g_aload C 0 rfl dX4_standsWithAllOthers_28 ?_
        refine g_X1_number C i_X4_standsWithAllOthers_X1 m_X4_standsWithAllOthers_2 43 rfl dX4_standsWithAllOthers_30 ?_
        refine g_aload_n C 5 rfl rfl dX4_standsWithAllOthers_33 ?_
        refine g_X1_number C i_X4_standsWithAllOthers_X1 m_X4_standsWithAllOthers_2 13 rfl dX4_standsWithAllOthers_34 ?_
        refine g_icmp_le C (tgt := 58) dX4_standsWithAllOthers_37 (by decide) (fun c12 => absurd c12 (by decide)) (fun c12 => ?_)
        refine g_aload_n C 4 rfl rfl dX4_standsWithAllOthers_40 ?_
        refine g_aload_n C 5 rfl rfl dX4_standsWithAllOthers_41 ?_
        refine g_X1_queue C i_X4_standsWithAllOthers_X1 m_X4_standsWithAllOthers_4 13 rfl dX4_standsWithAllOthers_42 ?_
        refine g_aload C 0 rfl dX4_standsWithAllOthers_45 ?_
        refine g_X1_queue C i_X4_standsWithAllOthers_X1 m_X4_standsWithAllOthers_4 43 rfl dX4_standsWithAllOthers_47 ?_
        obtain ⟨a13, ea13, h⟩ := Option.bind_eq_some_iff.mp h
        refine g_cVr (As := [.ref (a 19), .ref (a 49)]) (st := []) (w2 := (wB E a ++ (wA E a ++ (wX2 E a 2 lt ls lw lh lx ++ (wX1 E a 18 0 z0 q0 u0 t0 c0 ++ (wX1 E a 28 1 z1 q1 u1 t1 c1 ++ (wX1 E a 38 2 z2 q2 u2 t2 c2 ++ wX1 E a 48 3 z3 q3 u3 t3 c3))))))) C (c_X4_standInSequence E a lt ls lw lh lx (a 19) (a 20) 48 q0 (a 49) (a 50) 48 q3 a13 ea13) gX4_standsWithAllOthers_X4_standInSequence rfl (by decide +kernel) ⟨by decide, by decide, by decide, by decide, Nat.le_of_ble_eq_true rfl⟩ rfl 0 rfl [0, 2, 3, 4, 5, 6, 7, 8, 9, 10, 11, 12, 14, 15, 44, 45] rfl rfl rfl dX4_standsWithAllOthers_50 ?_
        refine g_if_ne C (tgt := 58) dX4_standsWithAllOthers_53 (by decide) (fun c14 => ?_) (fun c14 => ?_)
        · replace h := (if_neg c14).symm.trans h
          refine g_iinc C (v := 4) 1 rfl rfl (lv2 := [(4, .int 4), (5, .ref (a 48)), (3, .int 4), (2, .ref (a 1)), (0, .ref (a 0)), (1, .ref (a 18))]) rfl (by decide) dX4_standsWithAllOthers_58 ?_
          refine g_goto C (tgt := 11) dX4_standsWithAllOthers_61 (by decide) ?_
          refine g_iload C 0 rfl dX4_standsWithAllOthers_11 ?_
          refine g_iload_n C 2 rfl rfl dX4_standsWithAllOthers_13 ?_
          refine g_icmp_ge C (tgt := 64) dX4_standsWithAllOthers_14 (by decide) (fun c15 => ?_) (fun c15 => absurd c15 (by decide))
          refine g_iconst C (v := 1) (by decide) dX4_standsWithAllOthers_64 ?_
          obtain rfl := Option.some.inj h
          exact g_zret C hQ rfl rfl ⟨by decide, by decide⟩ dX4_standsWithAllOthers_65
        · replace h := (if_pos c14).symm.trans h
          refine g_iconst C (v := 0) (by decide) dX4_standsWithAllOthers_56 ?_
          obtain rfl := Option.some.inj h
          exact g_zret C hQ rfl rfl ⟨by decide, by decide⟩ dX4_standsWithAllOthers_57
      · replace h := (if_pos c10).symm.trans h
        refine g_iconst C (v := 0) (by decide) dX4_standsWithAllOthers_56 ?_
        obtain rfl := Option.some.inj h
        exact g_zret C hQ rfl rfl ⟨by decide, by decide⟩ dX4_standsWithAllOthers_57
    · replace h := (if_pos c6).symm.trans h
      refine g_iconst C (v := 0) (by decide) dX4_standsWithAllOthers_56 ?_
      obtain rfl := Option.some.inj h
      exact g_zret C hQ rfl rfl ⟨by decide, by decide⟩ dX4_standsWithAllOthers_57
abbrev r_X4_standsWithAllOthers_1 : Room := { frames := 5, cells := 0, slots := 0, locals := 115 }
theorem m_X4_standsWithAllOthers_0 : Cond.fieldLink RX4 18 "Bookinghouse" "houses" "[LBookinghouse$House;" ∈ wsX4_standsWithAllOthers := by decide +kernel
theorem i_X4_standsWithAllOthers_X4 : ∀ w ∈ wsX40, w ∈ wsX4_standsWithAllOthers := by decide +kernel
theorem m_X4_standsWithAllOthers_2 : Cond.fieldLink RX4 283 "Bookinghouse$House" "number" "I" ∈ wsX4_standsWithAllOthers := by decide +kernel
theorem i_X4_standsWithAllOthers_X1 : ∀ w ∈ wsX10, w ∈ wsX4_standsWithAllOthers := by decide +kernel
theorem m_X4_standsWithAllOthers_4 : Cond.fieldLink RX4 71 "Bookinghouse$House" "queue" "LBookinghouse$Row;" ∈ wsX4_standsWithAllOthers := by decide +kernel
set_option maxHeartbeats 4000000 in
set_option maxRecDepth 100000 in
theorem c_X4_standsWithAllOthers_1 (E : gE) (a : Nat → Nat) (lt : RS) (ls : RS) (lw : RS) (lh : RS) (lx : RS) (z0 : Int32) (q0 : RS) (u0 : RS) (t0 : RS) (c0 : RS) (z1 : Int32) (q1 : RS) (u1 : RS) (t1 : RS) (c1 : RS) (z2 : Int32) (q2 : RS) (u2 : RS) (t2 : RS) (c2 : RS) (z3 : Int32) (q3 : RS) (u3 : RS) (t3 : RS) (c3 : RS) (o : (Bool)) (h : f_X4_standsWithAllOthers_1 lt q1 q2 q3 = some o) : Ct E yX4_standsWithAllOthers wsX4_standsWithAllOthers r_X4_standsWithAllOthers_1 [.ref (a 0), .ref (a 28)] (wB E a ++ (wA E a ++ (wX2 E a 2 lt ls lw lh lx ++ (wX1 E a 18 0 z0 q0 u0 t0 c0 ++ (wX1 E a 28 1 z1 q1 u1 t1 c1 ++ (wX1 E a 38 2 z2 q2 u2 t2 c2 ++ wX1 E a 48 3 z3 q3 u3 t3 c3)))))) (gO (fun u9 => some (.int (bI u9))) (fun u9 => (wB E a ++ (wA E a ++ (wX2 E a 2 lt ls lw lh lx ++ (wX1 E a 18 0 z0 q0 u0 t0 c0 ++ (wX1 E a 28 1 z1 q1 u1 t1 c1 ++ (wX1 E a 38 2 z2 q2 u2 t2 c2 ++ wX1 E a 48 3 z3 q3 u3 t3 c3))))))) (.inr o)) := by
  refine Ct.of (cc := cX4_standsWithAllOthers) (nL := 6) (ret := ((some .boolean))) (own := RX4) (by decide) rfl rfl (Nat.le_of_ble_eq_true rfl) rfl ?_ ?_
  · intro v w1 hh
    cases hh; rfl
  · intro X C hQ
    rw [f_X4_standsWithAllOthers_1] at h
    refine g_aload_n C 0 rfl rfl dX4_standsWithAllOthers_0 ?_
    refine g_X4_houses C i_X4_standsWithAllOthers_X4 m_X4_standsWithAllOthers_0 0 rfl dX4_standsWithAllOthers_1 ?_
    refine g_astore_n C (lv2 := [(2, .ref (a 1)), (0, .ref (a 0)), (1, .ref (a 28))]) rfl (by decide) rfl dX4_standsWithAllOthers_4 ?_
    refine g_aload_n C 0 rfl rfl dX4_standsWithAllOthers_5 ?_
    refine g_alen4 C 1 rfl dX4_standsWithAllOthers_6 ?_
    refine g_istore_n C (lv2 := [(3, .int 4), (2, .ref (a 1)), (0, .ref (a 0)), (1, .ref (a 28))]) rfl (by decide) rfl dX4_standsWithAllOthers_7 ?_
    refine g_iconst C (v := 0) (by decide) dX4_standsWithAllOthers_8 ?_
    refine g_istore C (lv2 := [(4, .int 0), (3, .int 4), (2, .ref (a 1)), (0, .ref (a 0)), (1, .ref (a 28))]) rfl (by decide) dX4_standsWithAllOthers_9 ?_
    refine g_iload C 0 rfl dX4_standsWithAllOthers_11 ?_
    refine g_iload_n C 1 rfl rfl dX4_standsWithAllOthers_13 ?_
    refine g_icmp_ge C (tgt := 64) dX4_standsWithAllOthers_14 (by decide) (fun c1 => absurd c1 (by decide)) (fun c1 => ?_)
    refine g_aload_n C 2 rfl rfl dX4_standsWithAllOthers_17 ?_
    refine g_iload C 0 rfl dX4_standsWithAllOthers_18 ?_
    refine g_aald4 C (a9 := (a 18)) 1 rfl (inB_in (by decide +kernel)) rfl dX4_standsWithAllOthers_20 ?_
    refine g_astore C (lv2 := [(5, .ref (a 18)), (4, .int 0), (3, .int 4), (2, .ref (a 1)), (0, .ref (a 0)), (1, .ref (a 28))]) rfl (by decide) dX4_standsWithAllOthers_21 ?_
    refine g_aload C 0 rfl dX4_standsWithAllOthers_23 ?_
    refine g_ifnull C dX4_standsWithAllOthers_25 ?_
    refine g_aload C 0 rfl dX4_standsWithAllOthers_28 ?_
    refine g_X1_number C i_X4_standsWithAllOthers_X1 m_X4_standsWithAllOthers_2 13 rfl dX4_standsWithAllOthers_30 ?_
    refine g_aload_n C 5 rfl rfl dX4_standsWithAllOthers_33 ?_
    refine g_X1_number C i_X4_standsWithAllOthers_X1 m_X4_standsWithAllOthers_2 23 rfl dX4_standsWithAllOthers_34 ?_
    refine g_icmp_le C (tgt := 58) dX4_standsWithAllOthers_37 (by decide) (fun c2 => ?_) (fun c2 => absurd c2 (by decide))
    refine g_iinc C (v := 1) 1 rfl rfl (lv2 := [(4, .int 1), (5, .ref (a 18)), (3, .int 4), (2, .ref (a 1)), (0, .ref (a 0)), (1, .ref (a 28))]) rfl (by decide) dX4_standsWithAllOthers_58 ?_
    refine g_goto C (tgt := 11) dX4_standsWithAllOthers_61 (by decide) ?_
    refine g_iload C 0 rfl dX4_standsWithAllOthers_11 ?_
    refine g_iload_n C 2 rfl rfl dX4_standsWithAllOthers_13 ?_
    refine g_icmp_ge C (tgt := 64) dX4_standsWithAllOthers_14 (by decide) (fun c3 => absurd c3 (by decide)) (fun c3 => ?_)
    refine g_aload_n C 3 rfl rfl dX4_standsWithAllOthers_17 ?_
    refine g_iload C 0 rfl dX4_standsWithAllOthers_18 ?_
    refine g_aald4 C (a9 := (a 28)) 1 rfl (inB_in (by decide +kernel)) rfl dX4_standsWithAllOthers_20 ?_
    refine g_astore C (lv2 := [(5, .ref (a 28)), (4, .int 1), (3, .int 4), (2, .ref (a 1)), (0, .ref (a 0)), (1, .ref (a 28))]) rfl (by decide) dX4_standsWithAllOthers_21 ?_
    refine g_aload C 0 rfl dX4_standsWithAllOthers_23 ?_
    refine g_ifnull C dX4_standsWithAllOthers_25 ?_
    refine g_aload C 0 rfl dX4_standsWithAllOthers_28 ?_
    refine g_X1_number C i_X4_standsWithAllOthers_X1 m_X4_standsWithAllOthers_2 23 rfl dX4_standsWithAllOthers_30 ?_
    refine g_aload_n C 5 rfl rfl dX4_standsWithAllOthers_33 ?_
    refine g_X1_number C i_X4_standsWithAllOthers_X1 m_X4_standsWithAllOthers_2 23 rfl dX4_standsWithAllOthers_34 ?_
    refine g_icmp_le C (tgt := 58) dX4_standsWithAllOthers_37 (by decide) (fun c4 => ?_) (fun c4 => absurd c4 (by decide))
    refine g_iinc C (v := 2) 1 rfl rfl (lv2 := [(4, .int 2), (5, .ref (a 28)), (3, .int 4), (2, .ref (a 1)), (0, .ref (a 0)), (1, .ref (a 28))]) rfl (by decide) dX4_standsWithAllOthers_58 ?_
    refine g_goto C (tgt := 11) dX4_standsWithAllOthers_61 (by decide) ?_
    refine g_iload C 0 rfl dX4_standsWithAllOthers_11 ?_
    refine g_iload_n C 2 rfl rfl dX4_standsWithAllOthers_13 ?_
    refine g_icmp_ge C (tgt := 64) dX4_standsWithAllOthers_14 (by decide) (fun c5 => absurd c5 (by decide)) (fun c5 => ?_)
    refine g_aload_n C 3 rfl rfl dX4_standsWithAllOthers_17 ?_
    refine g_iload C 0 rfl dX4_standsWithAllOthers_18 ?_
    refine g_aald4 C (a9 := (a 38)) 1 rfl (inB_in (by decide +kernel)) rfl dX4_standsWithAllOthers_20 ?_
    refine g_astore C (lv2 := [(5, .ref (a 38)), (4, .int 2), (3, .int 4), (2, .ref (a 1)), (0, .ref (a 0)), (1, .ref (a 28))]) rfl (by decide) dX4_standsWithAllOthers_21 ?_
    refine g_aload C 0 rfl dX4_standsWithAllOthers_23 ?_
    refine g_ifnull C dX4_standsWithAllOthers_25 ?_
    refine g_aload C 0 rfl dX4_standsWithAllOthers_28 ?_
    refine g_X1_number C i_X4_standsWithAllOthers_X1 m_X4_standsWithAllOthers_2 33 rfl dX4_standsWithAllOthers_30 ?_
    refine g_aload_n C 5 rfl rfl dX4_standsWithAllOthers_33 ?_
    refine g_X1_number C i_X4_standsWithAllOthers_X1 m_X4_standsWithAllOthers_2 23 rfl dX4_standsWithAllOthers_34 ?_
    refine g_icmp_le C (tgt := 58) dX4_standsWithAllOthers_37 (by decide) (fun c6 => absurd c6 (by decide)) (fun c6 => ?_)
    refine g_aload_n C 4 rfl rfl dX4_standsWithAllOthers_40 ?_
    refine g_aload_n C 5 rfl rfl dX4_standsWithAllOthers_41 ?_
    refine g_X1_queue C i_X4_standsWithAllOthers_X1 m_X4_standsWithAllOthers_4 23 rfl dX4_standsWithAllOthers_42 ?_
    refine g_aload C 0 rfl dX4_standsWithAllOthers_45 ?_
    refine g_X1_queue C i_X4_standsWithAllOthers_X1 m_X4_standsWithAllOthers_4 33 rfl dX4_standsWithAllOthers_47 ?_
    obtain ⟨a7, ea7, h⟩ := Option.bind_eq_some_iff.mp h
    refine g_cVr (As := [.ref (a 29), .ref (a 39)]) (st := []) (w2 := (wB E a ++ (wA E a ++ (wX2 E a 2 lt ls lw lh lx ++ (wX1 E a 18 0 z0 q0 u0 t0 c0 ++ (wX1 E a 28 1 z1 q1 u1 t1 c1 ++ (wX1 E a 38 2 z2 q2 u2 t2 c2 ++ wX1 E a 48 3 z3 q3 u3 t3 c3))))))) C (c_X4_standInSequence E a lt ls lw lh lx (a 29) (a 30) 48 q1 (a 39) (a 40) 48 q2 a7 ea7) gX4_standsWithAllOthers_X4_standInSequence rfl (by decide +kernel) ⟨by decide, by decide, by decide, by decide, Nat.le_of_ble_eq_true rfl⟩ rfl 0 rfl [0, 2, 3, 4, 5, 6, 7, 8, 9, 10, 11, 12, 24, 25, 34, 35] rfl rfl rfl dX4_standsWithAllOthers_50 ?_
    refine g_if_ne C (tgt := 58) dX4_standsWithAllOthers_53 (by decide) (fun c8 => ?_) (fun c8 => ?_)
    · replace h := (if_neg c8).symm.trans h
      refine g_iinc C (v := 3) 1 rfl rfl (lv2 := [(4, .int 3), (5, .ref (a 38)), (3, .int 4), (2, .ref (a 1)), (0, .ref (a 0)), (1, .ref (a 28))]) rfl (by decide) dX4_standsWithAllOthers_58 ?_
      refine g_goto C (tgt := 11) dX4_standsWithAllOthers_61 (by decide) ?_
      refine g_iload C 0 rfl dX4_standsWithAllOthers_11 ?_
      refine g_iload_n C 2 rfl rfl dX4_standsWithAllOthers_13 ?_
      refine g_icmp_ge C (tgt := 64) dX4_standsWithAllOthers_14 (by decide) (fun c9 => absurd c9 (by decide)) (fun c9 => ?_)
      refine g_aload_n C 3 rfl rfl dX4_standsWithAllOthers_17 ?_
      refine g_iload C 0 rfl dX4_standsWithAllOthers_18 ?_
      refine g_aald4 C (a9 := (a 48)) 1 rfl (inB_in (by decide +kernel)) rfl dX4_standsWithAllOthers_20 ?_
      refine g_astore C (lv2 := [(5, .ref (a 48)), (4, .int 3), (3, .int 4), (2, .ref (a 1)), (0, .ref (a 0)), (1, .ref (a 28))]) rfl (by decide) dX4_standsWithAllOthers_21 ?_
      refine g_aload C 0 rfl dX4_standsWithAllOthers_23 ?_
      refine g_ifnull C dX4_standsWithAllOthers_25 ?_
      refine g_aload C 0 rfl dX4_standsWithAllOthers_28 ?_
      refine g_X1_number C i_X4_standsWithAllOthers_X1 m_X4_standsWithAllOthers_2 43 rfl dX4_standsWithAllOthers_30 ?_
      refine g_aload_n C 5 rfl rfl dX4_standsWithAllOthers_33 ?_
      refine g_X1_number C i_X4_standsWithAllOthers_X1 m_X4_standsWithAllOthers_2 23 rfl dX4_standsWithAllOthers_34 ?_
      refine g_icmp_le C (tgt := 58) dX4_standsWithAllOthers_37 (by decide) (fun c10 => absurd c10 (by decide)) (fun c10 => ?_)
      refine g_aload_n C 4 rfl rfl dX4_standsWithAllOthers_40 ?_
      refine g_aload_n C 5 rfl rfl dX4_standsWithAllOthers_41 ?_
      refine g_X1_queue C i_X4_standsWithAllOthers_X1 m_X4_standsWithAllOthers_4 23 rfl dX4_standsWithAllOthers_42 ?_
      refine g_aload C 0 rfl dX4_standsWithAllOthers_45 ?_
      refine g_X1_queue C i_X4_standsWithAllOthers_X1 m_X4_standsWithAllOthers_4 43 rfl dX4_standsWithAllOthers_47 ?_
      obtain ⟨a11, ea11, h⟩ := Option.bind_eq_some_iff.mp h
      refine g_cVr (As := [.ref (a 29), .ref (a 49)]) (st := []) (w2 := (wB E a ++ (wA E a ++ (wX2 E a 2 lt ls lw lh lx ++ (wX1 E a 18 0 z0 q0 u0 t0 c0 ++ (wX1 E a 28 1 z1 q1 u1 t1 c1 ++ (wX1 E a 38 2 z2 q2 u2 t2 c2 ++ wX1 E a 48 3 z3 q3 u3 t3 c3))))))) C (c_X4_standInSequence E a lt ls lw lh lx (a 29) (a 30) 48 q1 (a 49) (a 50) 48 q3 a11 ea11) gX4_standsWithAllOthers_X4_standInSequence rfl (by decide +kernel) ⟨by decide, by decide, by decide, by decide, Nat.le_of_ble_eq_true rfl⟩ rfl 0 rfl [0, 2, 3, 4, 5, 6, 7, 8, 9, 10, 11, 12, 24, 25, 44, 45] rfl rfl rfl dX4_standsWithAllOthers_50 ?_
      refine g_if_ne C (tgt := 58) dX4_standsWithAllOthers_53 (by decide) (fun c12 => ?_) (fun c12 => ?_)
      · replace h := (if_neg c12).symm.trans h
        refine g_iinc C (v := 4) 1 rfl rfl (lv2 := [(4, .int 4), (5, .ref (a 48)), (3, .int 4), (2, .ref (a 1)), (0, .ref (a 0)), (1, .ref (a 28))]) rfl (by decide) dX4_standsWithAllOthers_58 ?_
        refine g_goto C (tgt := 11) dX4_standsWithAllOthers_61 (by decide) ?_
        refine g_iload C 0 rfl dX4_standsWithAllOthers_11 ?_
        refine g_iload_n C 2 rfl rfl dX4_standsWithAllOthers_13 ?_
        refine g_icmp_ge C (tgt := 64) dX4_standsWithAllOthers_14 (by decide) (fun c13 => ?_) (fun c13 => absurd c13 (by decide))
        refine g_iconst C (v := 1) (by decide) dX4_standsWithAllOthers_64 ?_
        obtain rfl := Option.some.inj h
        exact g_zret C hQ rfl rfl ⟨by decide, by decide⟩ dX4_standsWithAllOthers_65
      · replace h := (if_pos c12).symm.trans h
        refine g_iconst C (v := 0) (by decide) dX4_standsWithAllOthers_56 ?_
        obtain rfl := Option.some.inj h
        exact g_zret C hQ rfl rfl ⟨by decide, by decide⟩ dX4_standsWithAllOthers_57
    · replace h := (if_pos c8).symm.trans h
      refine g_iconst C (v := 0) (by decide) dX4_standsWithAllOthers_56 ?_
      obtain rfl := Option.some.inj h
      exact g_zret C hQ rfl rfl ⟨by decide, by decide⟩ dX4_standsWithAllOthers_57
abbrev r_X4_standsWithAllOthers_2 : Room := { frames := 5, cells := 0, slots := 0, locals := 115 }
theorem m_X4_standsWithAllOthers_0 : Cond.fieldLink RX4 18 "Bookinghouse" "houses" "[LBookinghouse$House;" ∈ wsX4_standsWithAllOthers := by decide +kernel
theorem i_X4_standsWithAllOthers_X4 : ∀ w ∈ wsX40, w ∈ wsX4_standsWithAllOthers := by decide +kernel
theorem m_X4_standsWithAllOthers_2 : Cond.fieldLink RX4 283 "Bookinghouse$House" "number" "I" ∈ wsX4_standsWithAllOthers := by decide +kernel
theorem i_X4_standsWithAllOthers_X1 : ∀ w ∈ wsX10, w ∈ wsX4_standsWithAllOthers := by decide +kernel
theorem m_X4_standsWithAllOthers_4 : Cond.fieldLink RX4 71 "Bookinghouse$House" "queue" "LBookinghouse$Row;" ∈ wsX4_standsWithAllOthers := by decide +kernel
set_option maxHeartbeats 4000000 in
set_option maxRecDepth 100000 in
theorem c_X4_standsWithAllOthers_2 (E : gE) (a : Nat → Nat) (lt : RS) (ls : RS) (lw : RS) (lh : RS) (lx : RS) (z0 : Int32) (q0 : RS) (u0 : RS) (t0 : RS) (c0 : RS) (z1 : Int32) (q1 : RS) (u1 : RS) (t1 : RS) (c1 : RS) (z2 : Int32) (q2 : RS) (u2 : RS) (t2 : RS) (c2 : RS) (z3 : Int32) (q3 : RS) (u3 : RS) (t3 : RS) (c3 : RS) (o : (Bool)) (h : f_X4_standsWithAllOthers_2 lt q2 q3 = some o) : Ct E yX4_standsWithAllOthers wsX4_standsWithAllOthers r_X4_standsWithAllOthers_2 [.ref (a 0), .ref (a 38)] (wB E a ++ (wA E a ++ (wX2 E a 2 lt ls lw lh lx ++ (wX1 E a 18 0 z0 q0 u0 t0 c0 ++ (wX1 E a 28 1 z1 q1 u1 t1 c1 ++ (wX1 E a 38 2 z2 q2 u2 t2 c2 ++ wX1 E a 48 3 z3 q3 u3 t3 c3)))))) (gO (fun u9 => some (.int (bI u9))) (fun u9 => (wB E a ++ (wA E a ++ (wX2 E a 2 lt ls lw lh lx ++ (wX1 E a 18 0 z0 q0 u0 t0 c0 ++ (wX1 E a 28 1 z1 q1 u1 t1 c1 ++ (wX1 E a 38 2 z2 q2 u2 t2 c2 ++ wX1 E a 48 3 z3 q3 u3 t3 c3))))))) (.inr o)) := by
  refine Ct.of (cc := cX4_standsWithAllOthers) (nL := 6) (ret := ((some .boolean))) (own := RX4) (by decide) rfl rfl (Nat.le_of_ble_eq_true rfl) rfl ?_ ?_
  · intro v w1 hh
    cases hh; rfl
  · intro X C hQ
    rw [f_X4_standsWithAllOthers_2] at h
    refine g_aload_n C 0 rfl rfl dX4_standsWithAllOthers_0 ?_
    refine g_X4_houses C i_X4_standsWithAllOthers_X4 m_X4_standsWithAllOthers_0 0 rfl dX4_standsWithAllOthers_1 ?_
    refine g_astore_n C (lv2 := [(2, .ref (a 1)), (0, .ref (a 0)), (1, .ref (a 38))]) rfl (by decide) rfl dX4_standsWithAllOthers_4 ?_
    refine g_aload_n C 0 rfl rfl dX4_standsWithAllOthers_5 ?_
    refine g_alen4 C 1 rfl dX4_standsWithAllOthers_6 ?_
    refine g_istore_n C (lv2 := [(3, .int 4), (2, .ref (a 1)), (0, .ref (a 0)), (1, .ref (a 38))]) rfl (by decide) rfl dX4_standsWithAllOthers_7 ?_
    refine g_iconst C (v := 0) (by decide) dX4_standsWithAllOthers_8 ?_
    refine g_istore C (lv2 := [(4, .int 0), (3, .int 4), (2, .ref (a 1)), (0, .ref (a 0)), (1, .ref (a 38))]) rfl (by decide) dX4_standsWithAllOthers_9 ?_
    refine g_iload C 0 rfl dX4_standsWithAllOthers_11 ?_
    refine g_iload_n C 1 rfl rfl dX4_standsWithAllOthers_13 ?_
    refine g_icmp_ge C (tgt := 64) dX4_standsWithAllOthers_14 (by decide) (fun c1 => absurd c1 (by decide)) (fun c1 => ?_)
    refine g_aload_n C 2 rfl rfl dX4_standsWithAllOthers_17 ?_
    refine g_iload C 0 rfl dX4_standsWithAllOthers_18 ?_
    refine g_aald4 C (a9 := (a 18)) 1 rfl (inB_in (by decide +kernel)) rfl dX4_standsWithAllOthers_20 ?_
    refine g_astore C (lv2 := [(5, .ref (a 18)), (4, .int 0), (3, .int 4), (2, .ref (a 1)), (0, .ref (a 0)), (1, .ref (a 38))]) rfl (by decide) dX4_standsWithAllOthers_21 ?_
    refine g_aload C 0 rfl dX4_standsWithAllOthers_23 ?_
    refine g_ifnull C dX4_standsWithAllOthers_25 ?_
    refine g_aload C 0 rfl dX4_standsWithAllOthers_28 ?_
    refine g_X1_number C i_X4_standsWithAllOthers_X1 m_X4_standsWithAllOthers_2 13 rfl dX4_standsWithAllOthers_30 ?_
    refine g_aload_n C 5 rfl rfl dX4_standsWithAllOthers_33 ?_
    refine g_X1_number C i_X4_standsWithAllOthers_X1 m_X4_standsWithAllOthers_2 33 rfl dX4_standsWithAllOthers_34 ?_
    refine g_icmp_le C (tgt := 58) dX4_standsWithAllOthers_37 (by decide) (fun c2 => ?_) (fun c2 => absurd c2 (by decide))
    refine g_iinc C (v := 1) 1 rfl rfl (lv2 := [(4, .int 1), (5, .ref (a 18)), (3, .int 4), (2, .ref (a 1)), (0, .ref (a 0)), (1, .ref (a 38))]) rfl (by decide) dX4_standsWithAllOthers_58 ?_
    refine g_goto C (tgt := 11) dX4_standsWithAllOthers_61 (by decide) ?_
    refine g_iload C 0 rfl dX4_standsWithAllOthers_11 ?_
    refine g_iload_n C 2 rfl rfl dX4_standsWithAllOthers_13 ?_
    refine g_icmp_ge C (tgt := 64) dX4_standsWithAllOthers_14 (by decide) (fun c3 => absurd c3 (by decide)) (fun c3 => ?_)
    refine g_aload_n C 3 rfl rfl dX4_standsWithAllOthers_17 ?_
    refine g_iload C 0 rfl dX4_standsWithAllOthers_18 ?_
    refine g_aald4 C (a9 := (a 28)) 1 rfl (inB_in (by decide +kernel)) rfl dX4_standsWithAllOthers_20 ?_
    refine g_astore C (lv2 := [(5, .ref (a 28)), (4, .int 1), (3, .int 4), (2, .ref (a 1)), (0, .ref (a 0)), (1, .ref (a 38))]) rfl (by decide) dX4_standsWithAllOthers_21 ?_
    refine g_aload C 0 rfl dX4_standsWithAllOthers_23 ?_
    refine g_ifnull C dX4_standsWithAllOthers_25 ?_
    refine g_aload C 0 rfl dX4_standsWithAllOthers_28 ?_
    refine g_X1_number C i_X4_standsWithAllOthers_X1 m_X4_standsWithAllOthers_2 23 rfl dX4_standsWithAllOthers_30 ?_
    refine g_aload_n C 5 rfl rfl dX4_standsWithAllOthers_33 ?_
    refine g_X1_number C i_X4_standsWithAllOthers_X1 m_X4_standsWithAllOthers_2 33 rfl dX4_standsWithAllOthers_34 ?_
    refine g_icmp_le C (tgt := 58) dX4_standsWithAllOthers_37 (by decide) (fun c4 => ?_) (fun c4 => absurd c4 (by decide))
    refine g_iinc C (v := 2) 1 rfl rfl (lv2 := [(4, .int 2), (5, .ref (a 28)), (3, .int 4), (2, .ref (a 1)), (0, .ref (a 0)), (1, .ref (a 38))]) rfl (by decide) dX4_standsWithAllOthers_58 ?_
    refine g_goto C (tgt := 11) dX4_standsWithAllOthers_61 (by decide) ?_
    refine g_iload C 0 rfl dX4_standsWithAllOthers_11 ?_
    refine g_iload_n C 2 rfl rfl dX4_standsWithAllOthers_13 ?_
    refine g_icmp_ge C (tgt := 64) dX4_standsWithAllOthers_14 (by decide) (fun c5 => absurd c5 (by decide)) (fun c5 => ?_)
    refine g_aload_n C 3 rfl rfl dX4_standsWithAllOthers_17 ?_
    refine g_iload C 0 rfl dX4_standsWithAllOthers_18 ?_
    refine g_aald4 C (a9 := (a 38)) 1 rfl (inB_in (by decide +kernel)) rfl dX4_standsWithAllOthers_20 ?_
    refine g_astore C (lv2 := [(5, .ref (a 38)), (4, .int 2), (3, .int 4), (2, .ref (a 1)), (0, .ref (a 0)), (1, .ref (a 38))]) rfl (by decide) dX4_standsWithAllOthers_21 ?_
    refine g_aload C 0 rfl dX4_standsWithAllOthers_23 ?_
    refine g_ifnull C dX4_standsWithAllOthers_25 ?_
    refine g_aload C 0 rfl dX4_standsWithAllOthers_28 ?_
    refine g_X1_number C i_X4_standsWithAllOthers_X1 m_X4_standsWithAllOthers_2 33 rfl dX4_standsWithAllOthers_30 ?_
    refine g_aload_n C 5 rfl rfl dX4_standsWithAllOthers_33 ?_
    refine g_X1_number C i_X4_standsWithAllOthers_X1 m_X4_standsWithAllOthers_2 33 rfl dX4_standsWithAllOthers_34 ?_
    refine g_icmp_le C (tgt := 58) dX4_standsWithAllOthers_37 (by decide) (fun c6 => ?_) (fun c6 => absurd c6 (by decide))
    refine g_iinc C (v := 3) 1 rfl rfl (lv2 := [(4, .int 3), (5, .ref (a 38)), (3, .int 4), (2, .ref (a 1)), (0, .ref (a 0)), (1, .ref (a 38))]) rfl (by decide) dX4_standsWithAllOthers_58 ?_
    refine g_goto C (tgt := 11) dX4_standsWithAllOthers_61 (by decide) ?_
    refine g_iload C 0 rfl dX4_standsWithAllOthers_11 ?_
    refine g_iload_n C 2 rfl rfl dX4_standsWithAllOthers_13 ?_
    refine g_icmp_ge C (tgt := 64) dX4_standsWithAllOthers_14 (by decide) (fun c7 => absurd c7 (by decide)) (fun c7 => ?_)
    refine g_aload_n C 3 rfl rfl dX4_standsWithAllOthers_17 ?_
    refine g_iload C 0 rfl dX4_standsWithAllOthers_18 ?_
    refine g_aald4 C (a9 := (a 48)) 1 rfl (inB_in (by decide +kernel)) rfl dX4_standsWithAllOthers_20 ?_
    refine g_astore C (lv2 := [(5, .ref (a 48)), (4, .int 3), (3, .int 4), (2, .ref (a 1)), (0, .ref (a 0)), (1, .ref (a 38))]) rfl (by decide) dX4_standsWithAllOthers_21 ?_
    refine g_aload C 0 rfl dX4_standsWithAllOthers_23 ?_
    refine g_ifnull C dX4_standsWithAllOthers_25 ?_
    refine g_aload C 0 rfl dX4_standsWithAllOthers_28 ?_
    refine g_X1_number C i_X4_standsWithAllOthers_X1 m_X4_standsWithAllOthers_2 43 rfl dX4_standsWithAllOthers_30 ?_
    refine g_aload_n C 5 rfl rfl dX4_standsWithAllOthers_33 ?_
    refine g_X1_number C i_X4_standsWithAllOthers_X1 m_X4_standsWithAllOthers_2 33 rfl dX4_standsWithAllOthers_34 ?_
    refine g_icmp_le C (tgt := 58) dX4_standsWithAllOthers_37 (by decide) (fun c8 => absurd c8 (by decide)) (fun c8 => ?_)
    refine g_aload_n C 4 rfl rfl dX4_standsWithAllOthers_40 ?_
    refine g_aload_n C 5 rfl rfl dX4_standsWithAllOthers_41 ?_
    refine g_X1_queue C i_X4_standsWithAllOthers_X1 m_X4_standsWithAllOthers_4 33 rfl dX4_standsWithAllOthers_42 ?_
    refine g_aload C 0 rfl dX4_standsWithAllOthers_45 ?_
    refine g_X1_queue C i_X4_standsWithAllOthers_X1 m_X4_standsWithAllOthers_4 43 rfl dX4_standsWithAllOthers_47 ?_
    obtain ⟨a9, ea9, h⟩ := Option.bind_eq_some_iff.mp h
    refine g_cVr (As := [.ref (a 39), .ref (a 49)]) (st := []) (w2 := (wB E a ++ (wA E a ++ (wX2 E a 2 lt ls lw lh lx ++ (wX1 E a 18 0 z0 q0 u0 t0 c0 ++ (wX1 E a 28 1 z1 q1 u1 t1 c1 ++ (wX1 E a 38 2 z2 q2 u2 t2 c2 ++ wX1 E a 48 3 z3 q3 u3 t3 c3))))))) C (c_X4_standInSequence E a lt ls lw lh lx (a 39) (a 40) 48 q2 (a 49) (a 50) 48 q3 a9 ea9) gX4_standsWithAllOthers_X4_standInSequence rfl (by decide +kernel) ⟨by decide, by decide, by decide, by decide, Nat.le_of_ble_eq_true rfl⟩ rfl 0 rfl [0, 2, 3, 4, 5, 6, 7, 8, 9, 10, 11, 12, 34, 35, 44, 45] rfl rfl rfl dX4_standsWithAllOthers_50 ?_
    refine g_if_ne C (tgt := 58) dX4_standsWithAllOthers_53 (by decide) (fun c10 => ?_) (fun c10 => ?_)
    · replace h := (if_neg c10).symm.trans h
      refine g_iinc C (v := 4) 1 rfl rfl (lv2 := [(4, .int 4), (5, .ref (a 48)), (3, .int 4), (2, .ref (a 1)), (0, .ref (a 0)), (1, .ref (a 38))]) rfl (by decide) dX4_standsWithAllOthers_58 ?_
      refine g_goto C (tgt := 11) dX4_standsWithAllOthers_61 (by decide) ?_
      refine g_iload C 0 rfl dX4_standsWithAllOthers_11 ?_
      refine g_iload_n C 2 rfl rfl dX4_standsWithAllOthers_13 ?_
      refine g_icmp_ge C (tgt := 64) dX4_standsWithAllOthers_14 (by decide) (fun c11 => ?_) (fun c11 => absurd c11 (by decide))
      refine g_iconst C (v := 1) (by decide) dX4_standsWithAllOthers_64 ?_
      obtain rfl := Option.some.inj h
      exact g_zret C hQ rfl rfl ⟨by decide, by decide⟩ dX4_standsWithAllOthers_65
    · replace h := (if_pos c10).symm.trans h
      refine g_iconst C (v := 0) (by decide) dX4_standsWithAllOthers_56 ?_
      obtain rfl := Option.some.inj h
      exact g_zret C hQ rfl rfl ⟨by decide, by decide⟩ dX4_standsWithAllOthers_57
abbrev r_X4_standsWithAllOthers_3 : Room := { frames := 1, cells := 0, slots := 0, locals := 20 }
theorem m_X4_standsWithAllOthers_0 : Cond.fieldLink RX4 18 "Bookinghouse" "houses" "[LBookinghouse$House;" ∈ wsX4_standsWithAllOthers := by decide +kernel
theorem i_X4_standsWithAllOthers_X4 : ∀ w ∈ wsX40, w ∈ wsX4_standsWithAllOthers := by decide +kernel
theorem m_X4_standsWithAllOthers_2 : Cond.fieldLink RX4 283 "Bookinghouse$House" "number" "I" ∈ wsX4_standsWithAllOthers := by decide +kernel
theorem i_X4_standsWithAllOthers_X1 : ∀ w ∈ wsX10, w ∈ wsX4_standsWithAllOthers := by decide +kernel
set_option maxHeartbeats 4000000 in
set_option maxRecDepth 100000 in
theorem c_X4_standsWithAllOthers_3 (E : gE) (a : Nat → Nat) (lt : RS) (ls : RS) (lw : RS) (lh : RS) (lx : RS) (z0 : Int32) (q0 : RS) (u0 : RS) (t0 : RS) (c0 : RS) (z1 : Int32) (q1 : RS) (u1 : RS) (t1 : RS) (c1 : RS) (z2 : Int32) (q2 : RS) (u2 : RS) (t2 : RS) (c2 : RS) (z3 : Int32) (q3 : RS) (u3 : RS) (t3 : RS) (c3 : RS) (o : (Bool)) (h : f_X4_standsWithAllOthers_3 = some o) : Ct E yX4_standsWithAllOthers wsX4_standsWithAllOthers r_X4_standsWithAllOthers_3 [.ref (a 0), .ref (a 48)] (wB E a ++ (wA E a ++ (wX2 E a 2 lt ls lw lh lx ++ (wX1 E a 18 0 z0 q0 u0 t0 c0 ++ (wX1 E a 28 1 z1 q1 u1 t1 c1 ++ (wX1 E a 38 2 z2 q2 u2 t2 c2 ++ wX1 E a 48 3 z3 q3 u3 t3 c3)))))) (gO (fun u9 => some (.int (bI u9))) (fun u9 => (wB E a ++ (wA E a ++ (wX2 E a 2 lt ls lw lh lx ++ (wX1 E a 18 0 z0 q0 u0 t0 c0 ++ (wX1 E a 28 1 z1 q1 u1 t1 c1 ++ (wX1 E a 38 2 z2 q2 u2 t2 c2 ++ wX1 E a 48 3 z3 q3 u3 t3 c3))))))) (.inr o)) := by
  refine Ct.of (cc := cX4_standsWithAllOthers) (nL := 6) (ret := ((some .boolean))) (own := RX4) (by decide) rfl rfl (Nat.le_of_ble_eq_true rfl) rfl ?_ ?_
  · intro v w1 hh
    cases hh; rfl
  · intro X C hQ
    rw [f_X4_standsWithAllOthers_3] at h
    refine g_aload_n C 0 rfl rfl dX4_standsWithAllOthers_0 ?_
    refine g_X4_houses C i_X4_standsWithAllOthers_X4 m_X4_standsWithAllOthers_0 0 rfl dX4_standsWithAllOthers_1 ?_
    refine g_astore_n C (lv2 := [(2, .ref (a 1)), (0, .ref (a 0)), (1, .ref (a 48))]) rfl (by decide) rfl dX4_standsWithAllOthers_4 ?_
    refine g_aload_n C 0 rfl rfl dX4_standsWithAllOthers_5 ?_
    refine g_alen4 C 1 rfl dX4_standsWithAllOthers_6 ?_
    refine g_istore_n C (lv2 := [(3, .int 4), (2, .ref (a 1)), (0, .ref (a 0)), (1, .ref (a 48))]) rfl (by decide) rfl dX4_standsWithAllOthers_7 ?_
    refine g_iconst C (v := 0) (by decide) dX4_standsWithAllOthers_8 ?_
    refine g_istore C (lv2 := [(4, .int 0), (3, .int 4), (2, .ref (a 1)), (0, .ref (a 0)), (1, .ref (a 48))]) rfl (by decide) dX4_standsWithAllOthers_9 ?_
    refine g_iload C 0 rfl dX4_standsWithAllOthers_11 ?_
    refine g_iload_n C 1 rfl rfl dX4_standsWithAllOthers_13 ?_
    refine g_icmp_ge C (tgt := 64) dX4_standsWithAllOthers_14 (by decide) (fun c1 => absurd c1 (by decide)) (fun c1 => ?_)
    refine g_aload_n C 2 rfl rfl dX4_standsWithAllOthers_17 ?_
    refine g_iload C 0 rfl dX4_standsWithAllOthers_18 ?_
    refine g_aald4 C (a9 := (a 18)) 1 rfl (inB_in (by decide +kernel)) rfl dX4_standsWithAllOthers_20 ?_
    refine g_astore C (lv2 := [(5, .ref (a 18)), (4, .int 0), (3, .int 4), (2, .ref (a 1)), (0, .ref (a 0)), (1, .ref (a 48))]) rfl (by decide) dX4_standsWithAllOthers_21 ?_
    refine g_aload C 0 rfl dX4_standsWithAllOthers_23 ?_
    refine g_ifnull C dX4_standsWithAllOthers_25 ?_
    refine g_aload C 0 rfl dX4_standsWithAllOthers_28 ?_
    refine g_X1_number C i_X4_standsWithAllOthers_X1 m_X4_standsWithAllOthers_2 13 rfl dX4_standsWithAllOthers_30 ?_
    refine g_aload_n C 5 rfl rfl dX4_standsWithAllOthers_33 ?_
    refine g_X1_number C i_X4_standsWithAllOthers_X1 m_X4_standsWithAllOthers_2 43 rfl dX4_standsWithAllOthers_34 ?_
    refine g_icmp_le C (tgt := 58) dX4_standsWithAllOthers_37 (by decide) (fun c2 => ?_) (fun c2 => absurd c2 (by decide))
    refine g_iinc C (v := 1) 1 rfl rfl (lv2 := [(4, .int 1), (5, .ref (a 18)), (3, .int 4), (2, .ref (a 1)), (0, .ref (a 0)), (1, .ref (a 48))]) rfl (by decide) dX4_standsWithAllOthers_58 ?_
    refine g_goto C (tgt := 11) dX4_standsWithAllOthers_61 (by decide) ?_
    refine g_iload C 0 rfl dX4_standsWithAllOthers_11 ?_
    refine g_iload_n C 2 rfl rfl dX4_standsWithAllOthers_13 ?_
    refine g_icmp_ge C (tgt := 64) dX4_standsWithAllOthers_14 (by decide) (fun c3 => absurd c3 (by decide)) (fun c3 => ?_)
    refine g_aload_n C 3 rfl rfl dX4_standsWithAllOthers_17 ?_
    refine g_iload C 0 rfl dX4_standsWithAllOthers_18 ?_
    refine g_aald4 C (a9 := (a 28)) 1 rfl (inB_in (by decide +kernel)) rfl dX4_standsWithAllOthers_20 ?_
    refine g_astore C (lv2 := [(5, .ref (a 28)), (4, .int 1), (3, .int 4), (2, .ref (a 1)), (0, .ref (a 0)), (1, .ref (a 48))]) rfl (by decide) dX4_standsWithAllOthers_21 ?_
    refine g_aload C 0 rfl dX4_standsWithAllOthers_23 ?_
    refine g_ifnull C dX4_standsWithAllOthers_25 ?_
    refine g_aload C 0 rfl dX4_standsWithAllOthers_28 ?_
    refine g_X1_number C i_X4_standsWithAllOthers_X1 m_X4_standsWithAllOthers_2 23 rfl dX4_standsWithAllOthers_30 ?_
    refine g_aload_n C 5 rfl rfl dX4_standsWithAllOthers_33 ?_
    refine g_X1_number C i_X4_standsWithAllOthers_X1 m_X4_standsWithAllOthers_2 43 rfl dX4_standsWithAllOthers_34 ?_
    refine g_icmp_le C (tgt := 58) dX4_standsWithAllOthers_37 (by decide) (fun c4 => ?_) (fun c4 => absurd c4 (by decide))
    refine g_iinc C (v := 2) 1 rfl rfl (lv2 := [(4, .int 2), (5, .ref (a 28)), (3, .int 4), (2, .ref (a 1)), (0, .ref (a 0)), (1, .ref (a 48))]) rfl (by decide) dX4_standsWithAllOthers_58 ?_
    refine g_goto C (tgt := 11) dX4_standsWithAllOthers_61 (by decide) ?_
    refine g_iload C 0 rfl dX4_standsWithAllOthers_11 ?_
    refine g_iload_n C 2 rfl rfl dX4_standsWithAllOthers_13 ?_
    refine g_icmp_ge C (tgt := 64) dX4_standsWithAllOthers_14 (by decide) (fun c5 => absurd c5 (by decide)) (fun c5 => ?_)
    refine g_aload_n C 3 rfl rfl dX4_standsWithAllOthers_17 ?_
    refine g_iload C 0 rfl dX4_standsWithAllOthers_18 ?_
    refine g_aald4 C (a9 := (a 38)) 1 rfl (inB_in (by decide +kernel)) rfl dX4_standsWithAllOthers_20 ?_
    refine g_astore C (lv2 := [(5, .ref (a 38)), (4, .int 2), (3, .int 4), (2, .ref (a 1)), (0, .ref (a 0)), (1, .ref (a 48))]) rfl (by decide) dX4_standsWithAllOthers_21 ?_
    refine g_aload C 0 rfl dX4_standsWithAllOthers_23 ?_
    refine g_ifnull C dX4_standsWithAllOthers_25 ?_
    refine g_aload C 0 rfl dX4_standsWithAllOthers_28 ?_
    refine g_X1_number C i_X4_standsWithAllOthers_X1 m_X4_standsWithAllOthers_2 33 rfl dX4_standsWithAllOthers_30 ?_
    refine g_aload_n C 5 rfl rfl dX4_standsWithAllOthers_33 ?_
    refine g_X1_number C i_X4_standsWithAllOthers_X1 m_X4_standsWithAllOthers_2 43 rfl dX4_standsWithAllOthers_34 ?_
    refine g_icmp_le C (tgt := 58) dX4_standsWithAllOthers_37 (by decide) (fun c6 => ?_) (fun c6 => absurd c6 (by decide))
    refine g_iinc C (v := 3) 1 rfl rfl (lv2 := [(4, .int 3), (5, .ref (a 38)), (3, .int 4), (2, .ref (a 1)), (0, .ref (a 0)), (1, .ref (a 48))]) rfl (by decide) dX4_standsWithAllOthers_58 ?_
    refine g_goto C (tgt := 11) dX4_standsWithAllOthers_61 (by decide) ?_
    refine g_iload C 0 rfl dX4_standsWithAllOthers_11 ?_
    refine g_iload_n C 2 rfl rfl dX4_standsWithAllOthers_13 ?_
    refine g_icmp_ge C (tgt := 64) dX4_standsWithAllOthers_14 (by decide) (fun c7 => absurd c7 (by decide)) (fun c7 => ?_)
    refine g_aload_n C 3 rfl rfl dX4_standsWithAllOthers_17 ?_
    refine g_iload C 0 rfl dX4_standsWithAllOthers_18 ?_
    refine g_aald4 C (a9 := (a 48)) 1 rfl (inB_in (by decide +kernel)) rfl dX4_standsWithAllOthers_20 ?_
    refine g_astore C (lv2 := [(5, .ref (a 48)), (4, .int 3), (3, .int 4), (2, .ref (a 1)), (0, .ref (a 0)), (1, .ref (a 48))]) rfl (by decide) dX4_standsWithAllOthers_21 ?_
    refine g_aload C 0 rfl dX4_standsWithAllOthers_23 ?_
    refine g_ifnull C dX4_standsWithAllOthers_25 ?_
    refine g_aload C 0 rfl dX4_standsWithAllOthers_28 ?_
    refine g_X1_number C i_X4_standsWithAllOthers_X1 m_X4_standsWithAllOthers_2 43 rfl dX4_standsWithAllOthers_30 ?_
    refine g_aload_n C 5 rfl rfl dX4_standsWithAllOthers_33 ?_
    refine g_X1_number C i_X4_standsWithAllOthers_X1 m_X4_standsWithAllOthers_2 43 rfl dX4_standsWithAllOthers_34 ?_
    refine g_icmp_le C (tgt := 58) dX4_standsWithAllOthers_37 (by decide) (fun c8 => ?_) (fun c8 => absurd c8 (by decide))
    refine g_iinc C (v := 4) 1 rfl rfl (lv2 := [(4, .int 4), (5, .ref (a 48)), (3, .int 4), (2, .ref (a 1)), (0, .ref (a 0)), (1, .ref (a 48))]) rfl (by decide) dX4_standsWithAllOthers_58 ?_
    refine g_goto C (tgt := 11) dX4_standsWithAllOthers_61 (by decide) ?_
    refine g_iload C 0 rfl dX4_standsWithAllOthers_11 ?_
    refine g_iload_n C 2 rfl rfl dX4_standsWithAllOthers_13 ?_
    refine g_icmp_ge C (tgt := 64) dX4_standsWithAllOthers_14 (by decide) (fun c9 => ?_) (fun c9 => absurd c9 (by decide))
    refine g_iconst C (v := 1) (by decide) dX4_standsWithAllOthers_64 ?_
    obtain rfl := Option.some.inj h
    exact g_zret C hQ rfl rfl ⟨by decide, by decide⟩ dX4_standsWithAllOthers_65
