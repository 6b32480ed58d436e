/-! b-float: pure functions, printed by wip/whole/gen.py out of the bytecode, and their walks -/
def f_X4_mean (t : RS) (c : RS) (p1 : Int32) : Option (String ⊕ (UInt64)) := (tB (f_X4_houseAt p1) fun g1 => ((f_X0_allBusyTimes t c).bind fun g5 => (if g5 = 0 then some (.inl "java/lang/ArithmeticException") else ((f_X0_total t c).bind fun g7 => (if n64 (FP.ddiv (FP.l2d g7) (FP.i2d g5)) = true then some (.inr (FP.ddiv (FP.l2d g7) (FP.i2d g5))) else none)))))
def f_X4_mean_bad (p1 : Int32) : Option (String ⊕ (UInt64)) := (tB (f_X4_houseAt p1) fun g1 => none)
def f_X4_share (q : RS) (u : RS) (p1 : Int32) : Option (String ⊕ (UInt32)) := (tB (f_X4_houseAt p1) fun g1 => ((f_X3_size u).bind fun g5 => ((f_X3_size q).bind fun g6 => (if (g5 + g6) = 0 then some (.inl "java/lang/ArithmeticException") else ((f_X3_size u).bind fun g8 => (if n32 (FP.fdiv (FP.i2f g8) (FP.i2f (g5 + g6))) = true then some (.inr (FP.fdiv (FP.i2f g8) (FP.i2f (g5 + g6)))) else none))))))
def f_X4_share_bad (p1 : Int32) : Option (String ⊕ (UInt32)) := (tB (f_X4_houseAt p1) fun g1 => none)
def b_X5_mean_41 (ma : Int32) (sp : Nat → Int32) (we : Nat → Int32) (ho : Nat → Int32) (sa : Nat → Int32) (v1 : Int32) (v2 : Int32) (s1 : Bool) (thc : Int32) : Option (UInt64 × Int32) := ((f_X5_isThrown s1 2).bind fun g1 => (if (bI g1.1) = 0 then ((f_X5_loadOf ma sp we ho sa v1).bind fun g3 => (if n64 (FP.ddiv (FP.l2d g3) (FP.i2d v2)) = true then some ((FP.ddiv (FP.l2d g3) (FP.i2d v2)), g1.2) else none)) else some (FP.dconst0, g1.2)))
def b_X5_mean_13 (ma : Int32) (ti : Nat → Int32) (sp : Nat → Int32) (we : Nat → Int32) (ho : Nat → Int32) (sa : Nat → Int32) (v1 : Int32) (s1 : Bool) : Option (UInt64 × Int32) := ((f_X5_isThrown s1 1).bind fun g1 => (if (bI g1.1) = 0 then ((f_X5_busyIn ma ti sp we ho sa v1 0 100000).bind fun g3 => (if g3 = 0 then b_X5_mean_41 ma sp we ho sa v1 g3 true g1.2 else b_X5_mean_41 ma sp we ho sa v1 g3 false g1.2)) else some (FP.dconst0, g1.2)))
def f_X5_mean (ma : Int32) (ti : Nat → Int32) (sp : Nat → Int32) (we : Nat → Int32) (ho : Nat → Int32) (sa : Nat → Int32) (p1 : Int32) : Option (UInt64 × Int32) := ((f_X5_isHouse p1).bind fun g1 => (if (bI g1) = 0 then b_X5_mean_13 ma ti sp we ho sa p1 true else b_X5_mean_13 ma ti sp we ho sa p1 false))
def b_X5_share_46 (ma : Int32) (ho : Nat → Int32) (sa : Nat → Int32) (v1 : Int32) (v2 : Int32) (s1 : Bool) (thc : Int32) : Option (UInt32 × Int32) := ((f_X5_isThrown s1 2).bind fun g1 => (if (bI g1.1) = 0 then ((f_X5_many ma ho sa v1 1).bind fun g3 => (if n32 (FP.fdiv (FP.i2f g3) (FP.i2f v2)) = true then some ((FP.fdiv (FP.i2f g3) (FP.i2f v2)), g1.2) else none)) else some (FP.fconst0, g1.2)))
def b_X5_share_13 (ma : Int32) (ho : Nat → Int32) (sa : Nat → Int32) (v1 : Int32) (s1 : Bool) : Option (UInt32 × Int32) := ((f_X5_isThrown s1 1).bind fun g1 => (if (bI g1.1) = 0 then ((f_X5_many ma ho sa v1 1).bind fun g3 => ((f_X5_many ma ho sa v1 0).bind fun g4 => (if (g3 + g4) = 0 then b_X5_share_46 ma ho sa v1 (g3 + g4) true g1.2 else b_X5_share_46 ma ho sa v1 (g3 + g4) false g1.2))) else some (FP.fconst0, g1.2)))
def f_X5_share (ma : Int32) (ho : Nat → Int32) (sa : Nat → Int32) (p1 : Int32) : Option (UInt32 × Int32) := ((f_X5_isHouse p1).bind fun g1 => (if (bI g1) = 0 then b_X5_share_13 ma ho sa p1 true else b_X5_share_13 ma ho sa p1 false))
abbrev r_X4_mean : Room := { frames := 9, cells := 2, slots := 12, locals := 141 }
theorem i_X4_mean_X1 : ∀ w ∈ wsX10, w ∈ wsX4_mean := by decide +kernel
theorem tf_X4_mean_232 : gTh wsX4_mean RX4 "java/lang/ArithmeticException" 232 234 := ⟨by decide +kernel, by decide +kernel, by decide +kernel, by decide +kernel, by decide +kernel, by decide +kernel⟩
set_option maxHeartbeats 4000000 in
set_option maxRecDepth 100000 in
theorem c_X4_mean (E : gE) (a : Nat → Nat) (k : Nat) (lt : RS) (ls : RS) (lw : RS) (lh : RS) (lx : RS) (nu : Int32) (z : Int32) (q : RS) (u : RS) (t : RS) (c : RS) (p1 : Int32) (hk : f_X4_houseAt p1 = some (.inr k)) (o : (String ⊕ (UInt64))) (h : f_X4_mean t c p1 = some o) : Ct E yX4_mean wsX4_mean r_X4_mean [.ref (a 0), .int p1] (wB E a ++ (wX2 E a 2 lt ls lw lh lx ++ (wX1 E a (18 + 10 * k) nu z q u t c ++ wA E a))) (gO (fun u9 => some (.double u9)) (fun u9 => (wB E a ++ (wX2 E a 2 lt ls lw lh lx ++ (wX1 E a (18 + 10 * k) nu z q u t c ++ wA E a)))) o) := by
  refine Ct.of (cc := cX4_mean) (nL := 4) (ret := ((some .double))) (own := RX4) (by decide) rfl rfl (Nat.le_of_ble_eq_true rfl) rfl ?_ ?_
  · intro v w1 hh
    cases o <;> cases hh <;> rfl
  · intro X C hQ
    rw [f_X4_mean] at h
    refine g_aload_n C 0 rfl rfl dX4_mean_0 ?_
    refine g_iload_n C 1 rfl rfl dX4_mean_1 ?_
    obtain ⟨oc2, eoc2, fx3, fk4⟩ := tB_some h
    refine g_callVr (As := [.int p1]) (n9 := 1) (st := []) (w2 := fun g1 => (wB E a ++ (wX2 E a 2 lt ls lw lh lx ++ (wX1 E a (18 + 10 * k) nu z q u t c ++ wA E a)))) C (c_X4_houseAt E a p1 oc2 eoc2) gX4_mean_X4_houseAt rfl (by decide +kernel) rfl ⟨by decide, by decide, by decide, by decide, Nat.le_of_ble_eq_true rfl⟩ 0 rfl rfl (gSub.idx [0, 22] rfl rfl) (fun _ => rfl) dX4_mean_2 (fun x9 h9 => ⟨hQ, by rw [fx3 x9 h9]; rfl, rfl, (fun _ h => h), by decide, by decide⟩) (fun g1 h9oc2 => ?_)
    replace h := fk4 g1 h9oc2
    obtain rfl : k = g1 := khyp eoc2 h9oc2 hk
    refine g_X1_crowdN C i_X4_mean_X1 (by decide +kernel) 12 rfl dX4_mean_5 ?_
    refine g_astore_n C (lv2 := [(2, .ref (a (18 + 10 * k + 5))), (0, .ref (a 0)), (1, .int p1)]) rfl (by decide) rfl dX4_mean_8 ?_
    refine g_aload_n C 0 rfl rfl dX4_mean_9 ?_
    obtain ⟨g5, eg5, h⟩ := Option.bind_eq_some_iff.mp h
    refine g_cVr (As := []) (n9 := 0) (st := []) (w2 := (wB E a ++ (wX2 E a 2 lt ls lw lh lx ++ (wX1 E a (18 + 10 * k) nu z q u t c ++ wA E a)))) C (c_X0_allBusyTimes E a (18 + 10 * k + 5) t c g5 eg5) gX4_mean_X0_allBusyTimes rfl (by decide +kernel) rfl ⟨by decide, by decide, by decide, by decide, Nat.le_of_ble_eq_true rfl⟩ 0 rfl rfl (gSub.idx [17, 18, 19, 20, 21] rfl rfl) rfl dX4_mean_10 ?_
    refine g_istore_n C (lv2 := [(3, .int g5), (2, .ref (a (18 + 10 * k + 5))), (0, .ref (a 0)), (1, .int p1)]) rfl (by decide) rfl dX4_mean_13 ?_
    refine g_iload_n C 0 rfl rfl dX4_mean_14 ?_
    refine g_if_ne C (tgt := 28) dX4_mean_15 (by decide) (fun cd6 => ?_) (fun cd6 => ?_)
    · replace h := (if_neg cd6).symm.trans h
      refine g_aload_n C 1 rfl rfl dX4_mean_28 ?_
      obtain ⟨g7, eg7, h⟩ := Option.bind_eq_some_iff.mp h
      refine g_cVr (As := []) (n9 := 0) (st := []) (w2 := (wB E a ++ (wX2 E a 2 lt ls lw lh lx ++ (wX1 E a (18 + 10 * k) nu z q u t c ++ wA E a)))) C (c_X0_total E a (18 + 10 * k + 5) t c g7 eg7) gX4_mean_X0_total rfl (by decide +kernel) rfl ⟨by decide, by decide, by decide, by decide, Nat.le_of_ble_eq_true rfl⟩ 0 rfl rfl (gSub.idx [17, 18, 19, 20, 21] rfl rfl) rfl dX4_mean_29 ?_
      refine g_l2d C dX4_mean_32 ?_
      refine g_iload_n C 0 rfl rfl dX4_mean_33 ?_
      refine g_i2d C dX4_mean_34 ?_
      obtain ⟨cd8, h⟩ := ifN h
      refine g_ddiv C cd8 dX4_mean_35 ?_
      obtain rfl := Option.some.inj h
      exact g_dret C hQ rfl ⟨by decide, by decide⟩ dX4_mean_36
    · replace h := (if_pos cd6).symm.trans h
      obtain rfl := Option.some.inj h
      exact g_throwS C hQ rfl rfl tf_X4_mean_232 (text := "no time is busy") (is9 := 194) (by decide +kernel) ⟨by decide, Nat.le_of_ble_eq_true rfl, by decide, by decide, by decide, by decide⟩ dX4_mean_18 dX4_mean_21 dX4_mean_22 dX4_mean_24 dX4_mean_27
abbrev r_X4_mean_bad : Room := { frames := 9, cells := 2, slots := 12, locals := 141 }
set_option maxHeartbeats 4000000 in
set_option maxRecDepth 100000 in
theorem c_X4_mean_bad (E : gE) (a : Nat → Nat) (p1 : Int32) (hbad : ∀ {x : Nat}, f_X4_houseAt p1 = some (.inr x) → False) (o : (String ⊕ (UInt64))) (h : f_X4_mean_bad p1 = some o) : Ct E yX4_mean wsX4_mean r_X4_mean_bad [.ref (a 0), .int p1] (wB E a ++ wA E a) (gO (fun u9 => some (.double u9)) (fun u9 => (wB E a ++ wA E a)) o) := by
  refine Ct.of (cc := cX4_mean) (nL := 4) (ret := ((some .double))) (own := RX4) (by decide) rfl rfl (Nat.le_of_ble_eq_true rfl) rfl ?_ ?_
  · intro v w1 hh
    cases o <;> cases hh <;> rfl
  · intro X C hQ
    rw [f_X4_mean_bad] at h
    refine g_aload_n C 0 rfl rfl dX4_mean_0 ?_
    refine g_iload_n C 1 rfl rfl dX4_mean_1 ?_
    obtain ⟨oc2, eoc2, fx3, fk4⟩ := tB_some h
    refine g_callVr (As := [.int p1]) (n9 := 1) (st := []) (w2 := fun g1 => (wB E a ++ wA E a)) C (c_X4_houseAt E a p1 oc2 eoc2) gX4_mean_X4_houseAt rfl (by decide +kernel) rfl ⟨by decide, by decide, by decide, by decide, Nat.le_of_ble_eq_true rfl⟩ 0 rfl rfl (gSub.idx [0, 1] rfl rfl) (fun _ => rfl) dX4_mean_2 (fun x9 h9 => ⟨hQ, by rw [fx3 x9 h9]; rfl, rfl, (fun _ h => h), by decide, by decide⟩) (fun g1 h9oc2 => ?_)
    replace h := fk4 g1 h9oc2
    exact (hbad (eoc2.trans (congrArg some h9oc2))).elim
abbrev r_X4_share : Room := { frames := 9, cells := 2, slots := 12, locals := 141 }
theorem i_X4_share_X1 : ∀ w ∈ wsX10, w ∈ wsX4_share := by decide +kernel
theorem tf_X4_share_232 : gTh wsX4_share RX4 "java/lang/ArithmeticException" 232 234 := ⟨by decide +kernel, by decide +kernel, by decide +kernel, by decide +kernel, by decide +kernel, by decide +kernel⟩
set_option maxHeartbeats 4000000 in
set_option maxRecDepth 100000 in
theorem c_X4_share (E : gE) (a : Nat → Nat) (k : Nat) (lt : RS) (ls : RS) (lw : RS) (lh : RS) (lx : RS) (nu : Int32) (z : Int32) (q : RS) (u : RS) (t : RS) (c : RS) (p1 : Int32) (hk : f_X4_houseAt p1 = some (.inr k)) (o : (String ⊕ (UInt32))) (h : f_X4_share q u p1 = some o) : Ct E yX4_share wsX4_share r_X4_share [.ref (a 0), .int p1] (wB E a ++ (wX2 E a 2 lt ls lw lh lx ++ (wX1 E a (18 + 10 * k) nu z q u t c ++ wA E a))) (gO (fun u9 => some (.float u9)) (fun u9 => (wB E a ++ (wX2 E a 2 lt ls lw lh lx ++ (wX1 E a (18 + 10 * k) nu z q u t c ++ wA E a)))) o) := by
  refine Ct.of (cc := cX4_share) (nL := 4) (ret := ((some .float))) (own := RX4) (by decide) rfl rfl (Nat.le_of_ble_eq_true rfl) rfl ?_ ?_
  · intro v w1 hh
    cases o <;> cases hh <;> rfl
  · intro X C hQ
    rw [f_X4_share] at h
    refine g_aload_n C 0 rfl rfl dX4_share_0 ?_
    refine g_iload_n C 1 rfl rfl dX4_share_1 ?_
    obtain ⟨oc2, eoc2, fx3, fk4⟩ := tB_some h
    refine g_callVr (As := [.int p1]) (n9 := 1) (st := []) (w2 := fun g1 => (wB E a ++ (wX2 E a 2 lt ls lw lh lx ++ (wX1 E a (18 + 10 * k) nu z q u t c ++ wA E a)))) C (c_X4_houseAt E a p1 oc2 eoc2) gX4_share_X4_houseAt rfl (by decide +kernel) rfl ⟨by decide, by decide, by decide, by decide, Nat.le_of_ble_eq_true rfl⟩ 0 rfl rfl (gSub.idx [0, 22] rfl rfl) (fun _ => rfl) dX4_share_2 (fun x9 h9 => ⟨hQ, by rw [fx3 x9 h9]; rfl, rfl, (fun _ h => h), by decide, by decide⟩) (fun g1 h9oc2 => ?_)
    replace h := fk4 g1 h9oc2
    obtain rfl : k = g1 := khyp eoc2 h9oc2 hk
    refine g_astore_n C (lv2 := [(2, .ref (a (18 + 10 * k))), (0, .ref (a 0)), (1, .int p1)]) rfl (by decide) rfl dX4_share_5 ?_
    refine g_aload_n C 0 rfl rfl dX4_share_6 ?_
    refine g_X1_pastN C i_X4_share_X1 (by decide +kernel) 12 rfl dX4_share_7 ?_
    obtain ⟨g5, eg5, h⟩ := Option.bind_eq_some_iff.mp h
    refine g_cVr (As := []) (n9 := 0) (st := []) (w2 := (wB E a ++ (wX2 E a 2 lt ls lw lh lx ++ (wX1 E a (18 + 10 * k) nu z q u t c ++ wA E a)))) C (c_X3_size E (a (18 + 10 * k + 3)) (a (18 + 10 * k + 4)) 120 u g5 eg5) gX4_share_X3_size rfl (by decide +kernel) rfl ⟨by decide, by decide, by decide, by decide, Nat.le_of_ble_eq_true rfl⟩ 0 rfl rfl (gSub.idx [15, 16] rfl rfl) rfl dX4_share_10 ?_
    refine g_aload_n C 0 rfl rfl dX4_share_13 ?_
    refine g_X1_queueN C i_X4_share_X1 (by decide +kernel) 12 rfl dX4_share_14 ?_
    obtain ⟨g6, eg6, h⟩ := Option.bind_eq_some_iff.mp h
    refine g_cVr (As := []) (n9 := 0) (st := [.int g5]) (w2 := (wB E a ++ (wX2 E a 2 lt ls lw lh lx ++ (wX1 E a (18 + 10 * k) nu z q u t c ++ wA E a)))) C (c_X3_size E (a (18 + 10 * k + 1)) (a (18 + 10 * k + 2)) 48 q g6 eg6) gX4_share_X3_size rfl (by decide +kernel) rfl ⟨by decide, by decide, by decide, by decide, Nat.le_of_ble_eq_true rfl⟩ 0 rfl rfl (gSub.idx [13, 14] rfl rfl) rfl dX4_share_17 ?_
    refine g_iadd C dX4_share_20 ?_
    refine g_istore_n C (lv2 := [(3, .int (g5 + g6)), (2, .ref (a (18 + 10 * k))), (0, .ref (a 0)), (1, .int p1)]) rfl (by decide) rfl dX4_share_21 ?_
    refine g_iload_n C 0 rfl rfl dX4_share_22 ?_
    refine g_if_ne C (tgt := 36) dX4_share_23 (by decide) (fun cd7 => ?_) (fun cd7 => ?_)
    · replace h := (if_neg cd7).symm.trans h
      refine g_aload_n C 1 rfl rfl dX4_share_36 ?_
      refine g_X1_pastN C i_X4_share_X1 (by decide +kernel) 12 rfl dX4_share_37 ?_
      obtain ⟨g8, eg8, h⟩ := Option.bind_eq_some_iff.mp h
      refine g_cVr (As := []) (n9 := 0) (st := []) (w2 := (wB E a ++ (wX2 E a 2 lt ls lw lh lx ++ (wX1 E a (18 + 10 * k) nu z q u t c ++ wA E a)))) C (c_X3_size E (a (18 + 10 * k + 3)) (a (18 + 10 * k + 4)) 120 u g8 eg8) gX4_share_X3_size rfl (by decide +kernel) rfl ⟨by decide, by decide, by decide, by decide, Nat.le_of_ble_eq_true rfl⟩ 0 rfl rfl (gSub.idx [15, 16] rfl rfl) rfl dX4_share_40 ?_
      refine g_i2f C dX4_share_43 ?_
      refine g_iload_n C 0 rfl rfl dX4_share_44 ?_
      refine g_i2f C dX4_share_45 ?_
      obtain ⟨cd9, h⟩ := ifN h
      refine g_fdiv C cd9 dX4_share_46 ?_
      obtain rfl := Option.some.inj h
      exact g_fret C hQ rfl ⟨by decide, by decide⟩ dX4_share_47
    · replace h := (if_pos cd7).symm.trans h
      obtain rfl := Option.some.inj h
      exact g_throwS C hQ rfl rfl tf_X4_share_232 (text := "none came or waits") (is9 := 235) (by decide +kernel) ⟨by decide, Nat.le_of_ble_eq_true rfl, by decide, by decide, by decide, by decide⟩ dX4_share_26 dX4_share_29 dX4_share_30 dX4_share_32 dX4_share_35
abbrev r_X4_share_bad : Room := { frames := 9, cells := 2, slots := 12, locals := 141 }
set_option maxHeartbeats 4000000 in
set_option maxRecDepth 100000 in
theorem c_X4_share_bad (E : gE) (a : Nat → Nat) (p1 : Int32) (hbad : ∀ {x : Nat}, f_X4_houseAt p1 = some (.inr x) → False) (o : (String ⊕ (UInt32))) (h : f_X4_share_bad p1 = some o) : Ct E yX4_share wsX4_share r_X4_share_bad [.ref (a 0), .int p1] (wB E a ++ wA E a) (gO (fun u9 => some (.float u9)) (fun u9 => (wB E a ++ wA E a)) o) := by
  refine Ct.of (cc := cX4_share) (nL := 4) (ret := ((some .float))) (own := RX4) (by decide) rfl rfl (Nat.le_of_ble_eq_true rfl) rfl ?_ ?_
  · intro v w1 hh
    cases o <;> cases hh <;> rfl
  · intro X C hQ
    rw [f_X4_share_bad] at h
    refine g_aload_n C 0 rfl rfl dX4_share_0 ?_
    refine g_iload_n C 1 rfl rfl dX4_share_1 ?_
    obtain ⟨oc2, eoc2, fx3, fk4⟩ := tB_some h
    refine g_callVr (As := [.int p1]) (n9 := 1) (st := []) (w2 := fun g1 => (wB E a ++ wA E a)) C (c_X4_houseAt E a p1 oc2 eoc2) gX4_share_X4_houseAt rfl (by decide +kernel) rfl ⟨by decide, by decide, by decide, by decide, Nat.le_of_ble_eq_true rfl⟩ 0 rfl rfl (gSub.idx [0, 1] rfl rfl) (fun _ => rfl) dX4_share_2 (fun x9 h9 => ⟨hQ, by rw [fx3 x9 h9]; rfl, rfl, (fun _ h => h), by decide, by decide⟩) (fun g1 h9oc2 => ?_)
    replace h := fk4 g1 h9oc2
    exact (hbad (eoc2.trans (congrArg some h9oc2))).elim
abbrev r_X5_mean : Room := { frames := 5, cells := 0, slots := 0, locals := 119 }
theorem m_X5_mean_0 : Cond.constant RX5 72 100000 ∈ wsX5_mean := by decide +kernel
set_option maxHeartbeats 4000000 in
set_option maxRecDepth 100000 in
theorem v_X5_mean_41 {E : gE} {X : gX} {b : Nat → Nat} {th : Int32} {ma : Int32} {st : Int32} {ti : Nat → Int32} {sp : Nat → Int32} {we : Nat → Int32} {ho : Nat → Int32} {sa : Nat → Int32} {ca : Nat → Int32} {cl : Nat → Int32} {su : Int64} {v1 : Int32} {v2 : Int32} {s1 : Bool} {thc : Int32} {o : (UInt64 × Int32)} (C : Cx E X cX5_mean 3 RX5 wsX5_mean r_X5_mean ((some .double)) []) (hQ : gQ E X (wM E b th ma st ti sp we ho sa ca cl su) r_X5_mean (gO (fun u9 => some (.double u9.1)) (fun u9 => (wM E b u9.2 ma st ti sp we ho sa ca cl su)) (.inr o))) (h : b_X5_mean_41 ma sp we ho sa v1 v2 s1 thc = some o) : Gx E X (wM E b thc ma st ti sp we ho sa ca cl su) 3 [(0, .ref (b 0)), (1, .int v1), (2, .int v2)] [.int (bI s1), .ref (b 0)] 41 0 0 := by
  rw [b_X5_mean_41] at h
  refine g_iconst C (v := 2) (by decide) dX5_mean_41 ?_
  obtain ⟨g1, eg1, h⟩ := Option.bind_eq_some_iff.mp h
  refine g_cVr (As := [.int (bI s1), .int 2]) (n9 := 2) (st := []) (w2 := (wM E b g1.2 ma st ti sp we ho sa ca cl su)) C (c_X5_isThrown E b thc ma st ti sp we ho sa ca cl su s1 2 g1 eg1) gX5_mean_X5_isThrown rfl (by decide +kernel) rfl ⟨by decide, by decide, by decide, by decide, Nat.le_of_ble_eq_true rfl⟩ 0 rfl rfl (gSub.idx [0, 1, 2, 3, 4, 5, 6, 7] rfl rfl) rfl dX5_mean_42 ?_
  refine g_if_eq C (tgt := 52) dX5_mean_45 (by decide) (fun cd2 => ?_) (fun cd2 => ?_)
  · replace h := (if_pos cd2).symm.trans h
    refine g_aload_n C 0 rfl rfl dX5_mean_52 ?_
    refine g_iload_n C 1 rfl rfl dX5_mean_53 ?_
    obtain ⟨g3, eg3, h⟩ := Option.bind_eq_some_iff.mp h
    refine g_cVr (As := [.int v1]) (n9 := 1) (st := []) (w2 := (wM E b g1.2 ma st ti sp we ho sa ca cl su)) C (c_X5_loadOf E b g1.2 ma st ti sp we ho sa ca cl su v1 g3 eg3) gX5_mean_X5_loadOf rfl (by decide +kernel) rfl ⟨by decide, by decide, by decide, by decide, Nat.le_of_ble_eq_true rfl⟩ 0 rfl rfl (gSub.idx [0, 1, 2, 3, 4, 5, 6, 7] rfl rfl) rfl dX5_mean_54 ?_
    refine g_l2d C dX5_mean_57 ?_
    refine g_iload_n C 2 rfl rfl dX5_mean_58 ?_
    refine g_i2d C dX5_mean_59 ?_
    obtain ⟨cd4, h⟩ := ifN h
    refine g_ddiv C cd4 dX5_mean_60 ?_
    obtain rfl := Option.some.inj h
    exact g_dret C hQ rfl ⟨by decide, by decide⟩ dX5_mean_61
  · replace h := (if_neg cd2).symm.trans h
    refine g_dconst0 C dX5_mean_48 ?_
    refine g_goto C (tgt := 61) dX5_mean_49 (by decide) ?_
    obtain rfl := Option.some.inj h
    exact g_dret C hQ rfl ⟨by decide, by decide⟩ dX5_mean_61
set_option maxHeartbeats 4000000 in
set_option maxRecDepth 100000 in
theorem v_X5_mean_13 {E : gE} {X : gX} {b : Nat → Nat} {th : Int32} {ma : Int32} {st : Int32} {ti : Nat → Int32} {sp : Nat → Int32} {we : Nat → Int32} {ho : Nat → Int32} {sa : Nat → Int32} {ca : Nat → Int32} {cl : Nat → Int32} {su : Int64} {v1 : Int32} {s1 : Bool} {o : (UInt64 × Int32)} (C : Cx E X cX5_mean 3 RX5 wsX5_mean r_X5_mean ((some .double)) []) (hQ : gQ E X (wM E b th ma st ti sp we ho sa ca cl su) r_X5_mean (gO (fun u9 => some (.double u9.1)) (fun u9 => (wM E b u9.2 ma st ti sp we ho sa ca cl su)) (.inr o))) (h : b_X5_mean_13 ma ti sp we ho sa v1 s1 = some o) : Gx E X (wM E b th ma st ti sp we ho sa ca cl su) 3 [(0, .ref (b 0)), (1, .int v1)] [.int (bI s1), .ref (b 0)] 13 0 0 := by
  rw [b_X5_mean_13] at h
  refine g_iconst C (v := 1) (by decide) dX5_mean_13 ?_
  obtain ⟨g1, eg1, h⟩ := Option.bind_eq_some_iff.mp h
  refine g_cVr (As := [.int (bI s1), .int 1]) (n9 := 2) (st := []) (w2 := (wM E b g1.2 ma st ti sp we ho sa ca cl su)) C (c_X5_isThrown E b th ma st ti sp we ho sa ca cl su s1 1 g1 eg1) gX5_mean_X5_isThrown rfl (by decide +kernel) rfl ⟨by decide, by decide, by decide, by decide, Nat.le_of_ble_eq_true rfl⟩ 0 rfl rfl (gSub.idx [0, 1, 2, 3, 4, 5, 6, 7] rfl rfl) rfl dX5_mean_14 ?_
  refine g_if_eq C (tgt := 22) dX5_mean_17 (by decide) (fun cd2 => ?_) (fun cd2 => ?_)
  · replace h := (if_pos cd2).symm.trans h
    refine g_aload_n C 0 rfl rfl dX5_mean_22 ?_
    refine g_iload_n C 1 rfl rfl dX5_mean_23 ?_
    refine g_iconst C (v := 0) (by decide) dX5_mean_24 ?_
    refine g_ldc C (v := 100000) m_X5_mean_0 dX5_mean_25 ?_
    obtain ⟨g3, eg3, h⟩ := Option.bind_eq_some_iff.mp h
    refine g_cVr (As := [.int v1, .int 0, .int 100000]) (n9 := 3) (st := []) (w2 := (wM E b g1.2 ma st ti sp we ho sa ca cl su)) C (c_X5_busyIn E b g1.2 ma st ti sp we ho sa ca cl su v1 0 100000 g3 eg3) gX5_mean_X5_busyIn rfl (by decide +kernel) rfl ⟨by decide, by decide, by decide, by decide, Nat.le_of_ble_eq_true rfl⟩ 0 rfl rfl (gSub.idx [0, 1, 2, 3, 4, 5, 6, 7] rfl rfl) rfl dX5_mean_27 ?_
    refine g_istore_n C (lv2 := [(2, .int g3), (0, .ref (b 0)), (1, .int v1)]) rfl (by decide) rfl dX5_mean_30 ?_
    refine g_aload_n C 1 rfl rfl dX5_mean_31 ?_
    refine g_iload_n C 0 rfl rfl dX5_mean_32 ?_
    refine g_if_ne C (tgt := 40) dX5_mean_33 (by decide) (fun cd4 => ?_) (fun cd4 => ?_)
    · replace h := (if_neg cd4).symm.trans h
      refine g_iconst C (v := 0) (by decide) dX5_mean_40 ?_
      refine g_lv [1, 2, 0] (lv2 := [(0, .ref (b 0)), (1, .int v1), (2, .int g3)]) rfl ?_
      exact v_X5_mean_41 (v1 := v1) (v2 := g3) (s1 := false) (thc := g1.2) C hQ h
    · replace h := (if_pos cd4).symm.trans h
      refine g_iconst C (v := 1) (by decide) dX5_mean_36 ?_
      refine g_goto C (tgt := 41) dX5_mean_37 (by decide) ?_
      refine g_lv [1, 2, 0] (lv2 := [(0, .ref (b 0)), (1, .int v1), (2, .int g3)]) rfl ?_
      exact v_X5_mean_41 (v1 := v1) (v2 := g3) (s1 := true) (thc := g1.2) C hQ h
  · replace h := (if_neg cd2).symm.trans h
    refine g_dconst0 C dX5_mean_20 ?_
    obtain rfl := Option.some.inj h
    exact g_dret C hQ rfl ⟨by decide, by decide⟩ dX5_mean_21
set_option maxHeartbeats 4000000 in
set_option maxRecDepth 100000 in
theorem c_X5_mean (E : gE) (b : Nat → Nat) (th : Int32) (ma : Int32) (st : Int32) (ti : Nat → Int32) (sp : Nat → Int32) (we : Nat → Int32) (ho : Nat → Int32) (sa : Nat → Int32) (ca : Nat → Int32) (cl : Nat → Int32) (su : Int64) (p1 : Int32) (o : (UInt64 × Int32)) (h : f_X5_mean ma ti sp we ho sa p1 = some o) : Ct E yX5_mean wsX5_mean r_X5_mean [.ref (b 0), .int p1] (wM E b th ma st ti sp we ho sa ca cl su) (gO (fun u9 => some (.double u9.1)) (fun u9 => (wM E b u9.2 ma st ti sp we ho sa ca cl su)) (.inr o)) := by
  refine Ct.of (cc := cX5_mean) (nL := 3) (ret := ((some .double))) (own := RX5) (by decide) rfl rfl (Nat.le_of_ble_eq_true rfl) rfl ?_ ?_
  · intro v w1 hh
    cases hh; rfl
  · intro X C hQ
    rw [f_X5_mean] at h
    refine g_aload_n C 0 rfl rfl dX5_mean_0 ?_
    refine g_iload_n C 1 rfl rfl dX5_mean_1 ?_
    obtain ⟨g1, eg1, h⟩ := Option.bind_eq_some_iff.mp h
    refine g_cSr (As := [.int p1]) (n9 := 1) (st := [.ref (b 0)]) (w2 := (wM E b th ma st ti sp we ho sa ca cl su)) C (c_X5_isHouse E p1 g1 eg1) gX5_mean_X5_isHouse rfl (by decide +kernel) rfl ⟨by decide, by decide, by decide, by decide, Nat.le_of_ble_eq_true rfl⟩ (gSub.idx [] rfl rfl) rfl dX5_mean_2 ?_
    refine g_if_ne C (tgt := 12) dX5_mean_5 (by decide) (fun cd2 => ?_) (fun cd2 => ?_)
    · replace h := (if_neg cd2).symm.trans h
      refine g_iconst C (v := 0) (by decide) dX5_mean_12 ?_
      exact v_X5_mean_13 (v1 := p1) (s1 := false) C hQ h
    · replace h := (if_pos cd2).symm.trans h
      refine g_iconst C (v := 1) (by decide) dX5_mean_8 ?_
      refine g_goto C (tgt := 13) dX5_mean_9 (by decide) ?_
      exact v_X5_mean_13 (v1 := p1) (s1 := true) C hQ h
abbrev r_X5_share : Room := { frames := 2, cells := 0, slots := 0, locals := 44 }
set_option maxHeartbeats 4000000 in
set_option maxRecDepth 100000 in
theorem v_X5_share_46 {E : gE} {X : gX} {b : Nat → Nat} {th : Int32} {ma : Int32} {st : Int32} {ti : Nat → Int32} {sp : Nat → Int32} {we : Nat → Int32} {ho : Nat → Int32} {sa : Nat → Int32} {ca : Nat → Int32} {cl : Nat → Int32} {su : Int64} {v1 : Int32} {v2 : Int32} {s1 : Bool} {thc : Int32} {o : (UInt32 × Int32)} (C : Cx E X cX5_share 3 RX5 wsX5_share r_X5_share ((some .float)) []) (hQ : gQ E X (wM E b th ma st ti sp we ho sa ca cl su) r_X5_share (gO (fun u9 => some (.float u9.1)) (fun u9 => (wM E b u9.2 ma st ti sp we ho sa ca cl su)) (.inr o))) (h : b_X5_share_46 ma ho sa v1 v2 s1 thc = some o) : Gx E X (wM E b thc ma st ti sp we ho sa ca cl su) 3 [(0, .ref (b 0)), (1, .int v1), (2, .int v2)] [.int (bI s1), .ref (b 0)] 46 0 0 := by
  rw [b_X5_share_46] at h
  refine g_iconst C (v := 2) (by decide) dX5_share_46 ?_
  obtain ⟨g1, eg1, h⟩ := Option.bind_eq_some_iff.mp h
  refine g_cVr (As := [.int (bI s1), .int 2]) (n9 := 2) (st := []) (w2 := (wM E b g1.2 ma st ti sp we ho sa ca cl su)) C (c_X5_isThrown E b thc ma st ti sp we ho sa ca cl su s1 2 g1 eg1) gX5_share_X5_isThrown rfl (by decide +kernel) rfl ⟨by decide, by decide, by decide, by decide, Nat.le_of_ble_eq_true rfl⟩ 0 rfl rfl (gSub.idx [0, 1, 2, 3, 4, 5, 6, 7] rfl rfl) rfl dX5_share_47 ?_
  refine g_if_eq C (tgt := 57) dX5_share_50 (by decide) (fun cd2 => ?_) (fun cd2 => ?_)
  · replace h := (if_pos cd2).symm.trans h
    refine g_aload_n C 0 rfl rfl dX5_share_57 ?_
    refine g_iload_n C 1 rfl rfl dX5_share_58 ?_
    refine g_iconst C (v := 1) (by decide) dX5_share_59 ?_
    obtain ⟨g3, eg3, h⟩ := Option.bind_eq_some_iff.mp h
    refine g_cVr (As := [.int v1, .int 1]) (n9 := 2) (st := []) (w2 := (wM E b g1.2 ma st ti sp we ho sa ca cl su)) C (c_X5_many E b g1.2 ma st ti sp we ho sa ca cl su v1 1 g3 eg3) gX5_share_X5_many rfl (by decide +kernel) rfl ⟨by decide, by decide, by decide, by decide, Nat.le_of_ble_eq_true rfl⟩ 0 rfl rfl (gSub.idx [0, 1, 2, 3, 4, 5, 6, 7] rfl rfl) rfl dX5_share_60 ?_
    refine g_i2f C dX5_share_63 ?_
    refine g_iload_n C 2 rfl rfl dX5_share_64 ?_
    refine g_i2f C dX5_share_65 ?_
    obtain ⟨cd4, h⟩ := ifN h
    refine g_fdiv C cd4 dX5_share_66 ?_
    obtain rfl := Option.some.inj h
    exact g_fret C hQ rfl ⟨by decide, by decide⟩ dX5_share_67
  · replace h := (if_neg cd2).symm.trans h
    refine g_fconst0 C dX5_share_53 ?_
    refine g_goto C (tgt := 67) dX5_share_54 (by decide) ?_
    obtain rfl := Option.some.inj h
    exact g_fret C hQ rfl ⟨by decide, by decide⟩ dX5_share_67
set_option maxHeartbeats 4000000 in
set_option maxRecDepth 100000 in
theorem v_X5_share_13 {E : gE} {X : gX} {b : Nat → Nat} {th : Int32} {ma : Int32} {st : Int32} {ti : Nat → Int32} {sp : Nat → Int32} {we : Nat → Int32} {ho : Nat → Int32} {sa : Nat → Int32} {ca : Nat → Int32} {cl : Nat → Int32} {su : Int64} {v1 : Int32} {s1 : Bool} {o : (UInt32 × Int32)} (C : Cx E X cX5_share 3 RX5 wsX5_share r_X5_share ((some .float)) []) (hQ : gQ E X (wM E b th ma st ti sp we ho sa ca cl su) r_X5_share (gO (fun u9 => some (.float u9.1)) (fun u9 => (wM E b u9.2 ma st ti sp we ho sa ca cl su)) (.inr o))) (h : b_X5_share_13 ma ho sa v1 s1 = some o) : Gx E X (wM E b th ma st ti sp we ho sa ca cl su) 3 [(0, .ref (b 0)), (1, .int v1)] [.int (bI s1), .ref (b 0)] 13 0 0 := by
  rw [b_X5_share_13] at h
  refine g_iconst C (v := 1) (by decide) dX5_share_13 ?_
  obtain ⟨g1, eg1, h⟩ := Option.bind_eq_some_iff.mp h
  refine g_cVr (As := [.int (bI s1), .int 1]) (n9 := 2) (st := []) (w2 := (wM E b g1.2 ma st ti sp we ho sa ca cl su)) C (c_X5_isThrown E b th ma st ti sp we ho sa ca cl su s1 1 g1 eg1) gX5_share_X5_isThrown rfl (by decide +kernel) rfl ⟨by decide, by decide, by decide, by decide, Nat.le_of_ble_eq_true rfl⟩ 0 rfl rfl (gSub.idx [0, 1, 2, 3, 4, 5, 6, 7] rfl rfl) rfl dX5_share_14 ?_
  refine g_if_eq C (tgt := 22) dX5_share_17 (by decide) (fun cd2 => ?_) (fun cd2 => ?_)
  · replace h := (if_pos cd2).symm.trans h
    refine g_aload_n C 0 rfl rfl dX5_share_22 ?_
    refine g_iload_n C 1 rfl rfl dX5_share_23 ?_
    refine g_iconst C (v := 1) (by decide) dX5_share_24 ?_
    obtain ⟨g3, eg3, h⟩ := Option.bind_eq_some_iff.mp h
    refine g_cVr (As := [.int v1, .int 1]) (n9 := 2) (st := []) (w2 := (wM E b g1.2 ma st ti sp we ho sa ca cl su)) C (c_X5_many E b g1.2 ma st ti sp we ho sa ca cl su v1 1 g3 eg3) gX5_share_X5_many rfl (by decide +kernel) rfl ⟨by decide, by decide, by decide, by decide, Nat.le_of_ble_eq_true rfl⟩ 0 rfl rfl (gSub.idx [0, 1, 2, 3, 4, 5, 6, 7] rfl rfl) rfl dX5_share_25 ?_
    refine g_aload_n C 0 rfl rfl dX5_share_28 ?_
    refine g_iload_n C 1 rfl rfl dX5_share_29 ?_
    refine g_iconst C (v := 0) (by decide) dX5_share_30 ?_
    obtain ⟨g4, eg4, h⟩ := Option.bind_eq_some_iff.mp h
    refine g_cVr (As := [.int v1, .int 0]) (n9 := 2) (st := [.int g3]) (w2 := (wM E b g1.2 ma st ti sp we ho sa ca cl su)) C (c_X5_many E b g1.2 ma st ti sp we ho sa ca cl su v1 0 g4 eg4) gX5_share_X5_many rfl (by decide +kernel) rfl ⟨by decide, by decide, by decide, by decide, Nat.le_of_ble_eq_true rfl⟩ 0 rfl rfl (gSub.idx [0, 1, 2, 3, 4, 5, 6, 7] rfl rfl) rfl dX5_share_31 ?_
    refine g_iadd C dX5_share_34 ?_
    refine g_istore_n C (lv2 := [(2, .int (g3 + g4)), (0, .ref (b 0)), (1, .int v1)]) rfl (by decide) rfl dX5_share_35 ?_
    refine g_aload_n C 1 rfl rfl dX5_share_36 ?_
    refine g_iload_n C 0 rfl rfl dX5_share_37 ?_
    refine g_if_ne C (tgt := 45) dX5_share_38 (by decide) (fun cd5 => ?_) (fun cd5 => ?_)
    · replace h := (if_neg cd5).symm.trans h
      refine g_iconst C (v := 0) (by decide) dX5_share_45 ?_
      refine g_lv [1, 2, 0] (lv2 := [(0, .ref (b 0)), (1, .int v1), (2, .int (g3 + g4))]) rfl ?_
      exact v_X5_share_46 (v1 := v1) (v2 := (g3 + g4)) (s1 := false) (thc := g1.2) C hQ h
    · replace h := (if_pos cd5).symm.trans h
      refine g_iconst C (v := 1) (by decide) dX5_share_41 ?_
      refine g_goto C (tgt := 46) dX5_share_42 (by decide) ?_
      refine g_lv [1, 2, 0] (lv2 := [(0, .ref (b 0)), (1, .int v1), (2, .int (g3 + g4))]) rfl ?_
      exact v_X5_share_46 (v1 := v1) (v2 := (g3 + g4)) (s1 := true) (thc := g1.2) C hQ h
  · replace h := (if_neg cd2).symm.trans h
    refine g_fconst0 C dX5_share_20 ?_
    obtain rfl := Option.some.inj h
    exact g_fret C hQ rfl ⟨by decide, by decide⟩ dX5_share_21
set_option maxHeartbeats 4000000 in
set_option maxRecDepth 100000 in
theorem c_X5_share (E : gE) (b : Nat → Nat) (th : Int32) (ma : Int32) (st : Int32) (ti : Nat → Int32) (sp : Nat → Int32) (we : Nat → Int32) (ho : Nat → Int32) (sa : Nat → Int32) (ca : Nat → Int32) (cl : Nat → Int32) (su : Int64) (p1 : Int32) (o : (UInt32 × Int32)) (h : f_X5_share ma ho sa p1 = some o) : Ct E yX5_share wsX5_share r_X5_share [.ref (b 0), .int p1] (wM E b th ma st ti sp we ho sa ca cl su) (gO (fun u9 => some (.float u9.1)) (fun u9 => (wM E b u9.2 ma st ti sp we ho sa ca cl su)) (.inr o)) := by
  refine Ct.of (cc := cX5_share) (nL := 3) (ret := ((some .float))) (own := RX5) (by decide) rfl rfl (Nat.le_of_ble_eq_true rfl) rfl ?_ ?_
  · intro v w1 hh
    cases hh; rfl
  · intro X C hQ
    rw [f_X5_share] at h
    refine g_aload_n C 0 rfl rfl dX5_share_0 ?_
    refine g_iload_n C 1 rfl rfl dX5_share_1 ?_
    obtain ⟨g1, eg1, h⟩ := Option.bind_eq_some_iff.mp h
    refine g_cSr (As := [.int p1]) (n9 := 1) (st := [.ref (b 0)]) (w2 := (wM E b th ma st ti sp we ho sa ca cl su)) C (c_X5_isHouse E p1 g1 eg1) gX5_share_X5_isHouse rfl (by decide +kernel) rfl ⟨by decide, by decide, by decide, by decide, Nat.le_of_ble_eq_true rfl⟩ (gSub.idx [] rfl rfl) rfl dX5_share_2 ?_
    refine g_if_ne C (tgt := 12) dX5_share_5 (by decide) (fun cd2 => ?_) (fun cd2 => ?_)
    · replace h := (if_neg cd2).symm.trans h
      refine g_iconst C (v := 0) (by decide) dX5_share_12 ?_
      exact v_X5_share_13 (v1 := p1) (s1 := false) C hQ h
    · replace h := (if_pos cd2).symm.trans h
      refine g_iconst C (v := 1) (by decide) dX5_share_8 ?_
      refine g_goto C (tgt := 13) dX5_share_9 (by decide) ?_
      exact v_X5_share_13 (v1 := p1) (s1 := true) C hQ h
