/-! row: pure functions, printed by wip/whole/gen.py out of the bytecode, and their walks -/
def f_X3_size (r : RS) : Option (Int32) := some r.2
def f_X3_holds (N : Nat) (r : RS) (p1 : Int32) : Option (Bool) := (if p1 < 0 then some false else (if r.2 ≤ p1 then some false else (if (nI N) ≤ p1 then some false else some true)))
def f_X3_get (N : Nat) (r : RS) (p1 : Int32) : Option (Int32) := ((f_X3_holds N r p1).bind fun g1 => (if (bI g1) = 0 then some 0 else (if inB p1 N = true then some (r.1 p1.toNatClampNeg) else none)))
def f_X3_set (N : Nat) (r : RS) (p1 : Int32) (p2 : Int32) : Option (RS) := ((f_X3_holds N r p1).bind fun g1 => (if (bI g1) = 0 then some r else (if inB p1 N = true then some ((upd r.1 p1.toNatClampNeg p2), r.2) else none)))
def f_X3_insert (N : Nat) (r : RS) (p1 : Int32) (p2 : Int32) : Option (RS) := (if p1 < 0 then some r else (if r.2 < p1 then some r else (if r.2 < (nI N) then (if cpB p1 (p1 + 1) (r.2 - p1) N = true then (if inB p1 N = true then some ((upd (va_cpy r.1 r.1 p1.toNatClampNeg (p1 + 1).toNatClampNeg (r.2 - p1).toNatClampNeg) p1.toNatClampNeg p2), (r.2 + 1)) else none) else none) else some r)))
def f_X3_add (N : Nat) (r : RS) (p1 : Int32) : Option (RS) := ((f_X3_insert N r r.2 p1).bind fun g1 => some g1)
def f_X3_remove (N : Nat) (r : RS) (p1 : Int32) : Option (Int32 × RS) := ((f_X3_holds N r p1).bind fun g1 => (if (bI g1) = 0 then some (0, r) else (if inB p1 N = true then (if cpB (p1 + 1) p1 ((r.2 - p1) - 1) N = true then some ((r.1 p1.toNatClampNeg), ((va_cpy r.1 r.1 (p1 + 1).toNatClampNeg p1.toNatClampNeg ((r.2 - p1) - 1).toNatClampNeg), (r.2 - 1))) else none) else none)))
def f_X3_clear (r : RS) : Option (RS) := some (r.1, 0)
def l_X3_placeOf_2 (N : Nat) (r : RS) (v1 : Int32) : Nat → Int32 → Option (Int32)
  | 0, _ => none
  | F + 1, v2 => (if r.2 ≤ v2 then some (-1) else ((f_X3_get N r v2).bind fun g2 => (if g2 = v1 then some v2 else l_X3_placeOf_2 N r v1 F (v2 + 1))))
def f_X3_placeOf (N : Nat) (r : RS) (p1 : Int32) : Option (Int32) := l_X3_placeOf_2 N r p1 FU 0
def l_X3_count_4 (N : Nat) (r : RS) (v1 : Int32) : Nat → Int32 → Int32 → Option (Int32)
  | 0, _, _ => none
  | F + 1, v2, v3 => (if r.2 ≤ v3 then some v2 else ((f_X3_get N r v3).bind fun g2 => (if g2 = v1 then l_X3_count_4 N r v1 F (v2 + 1) (v3 + 1) else l_X3_count_4 N r v1 F (v2 + 0) (v3 + 1))))
def f_X3_count (N : Nat) (r : RS) (p1 : Int32) : Option (Int32) := l_X3_count_4 N r p1 FU 0 0
def l_X3_isLike_2 (N : Nat) (r : RS) (N2 : Nat) (r2 : RS) : Nat → Int32 → Option (Bool)
  | 0, _ => none
  | F + 1, v2 => (if r.2 ≤ v2 then (if r.2 = r2.2 then some true else some false) else ((f_X3_get N r v2).bind fun g3 => ((f_X3_get N2 r2 v2).bind fun g4 => (if g3 = g4 then l_X3_isLike_2 N r N2 r2 F (v2 + 1) else some false))))
def f_X3_isLike (N : Nat) (r : RS) (N2 : Nat) (r2 : RS) : Option (Bool) := l_X3_isLike_2 N r N2 r2 FU 0
abbrev r_X3_size : Room := { frames := 1, cells := 0, slots := 0, locals := 20 }
theorem m_X3_size_0 : Cond.fieldLink RX3 19 "Bookinghouse$Row" "size" "I" ∈ wsX3_size := by decide +kernel
theorem i_X3_size_X3 : ∀ w ∈ wsX30, w ∈ wsX3_size := by decide +kernel
set_option maxHeartbeats 4000000 in
set_option maxRecDepth 100000 in
theorem c_X3_size (E : gE) (x : Nat) (y : Nat) (N : Nat) (r : RS) (o : (Int32)) (h : f_X3_size r = some o) : Ct E yX3_size wsX3_size r_X3_size [.ref x] (wX3 E x y N r) (gO (fun u9 => some (.int u9)) (fun u9 => (wX3 E x y N r)) (.inr o)) := by
  refine Ct.of (cc := cX3_size) (nL := 1) (ret := ((some .int))) (own := RX3) (by decide) rfl rfl (Nat.le_of_ble_eq_true rfl) rfl ?_ ?_
  · intro v w1 hh
    cases hh; rfl
  · intro X C hQ
    rw [f_X3_size] at h
    refine g_aload_n C 0 rfl rfl dX3_size_0 ?_
    refine g_X3_size C i_X3_size_X3 m_X3_size_0 0 rfl dX3_size_1 ?_
    obtain rfl := Option.some.inj h
    exact g_iret C hQ rfl ⟨by decide, by decide⟩ dX3_size_4
abbrev r_X3_holds : Room := { frames := 1, cells := 0, slots := 0, locals := 20 }
theorem m_X3_holds_0 : Cond.fieldLink RX3 19 "Bookinghouse$Row" "size" "I" ∈ wsX3_holds := by decide +kernel
theorem i_X3_holds_X3 : ∀ w ∈ wsX30, w ∈ wsX3_holds := by decide +kernel
theorem m_X3_holds_2 : Cond.fieldLink RX3 13 "Bookinghouse$Row" "items" "[I" ∈ wsX3_holds := by decide +kernel
set_option maxHeartbeats 4000000 in
set_option maxRecDepth 100000 in
theorem c_X3_holds (E : gE) (x : Nat) (y : Nat) (N : Nat) (r : RS) (p1 : Int32) (o : (Bool)) (h : f_X3_holds N r p1 = some o) : Ct E yX3_holds wsX3_holds r_X3_holds [.ref x, .int p1] (wX3 E x y N r) (gO (fun u9 => some (.int (bI u9))) (fun u9 => (wX3 E x y N r)) (.inr o)) := by
  refine Ct.of (cc := cX3_holds) (nL := 2) (ret := ((some .boolean))) (own := RX3) (by decide) rfl rfl (Nat.le_of_ble_eq_true rfl) rfl ?_ ?_
  · intro v w1 hh
    cases hh; rfl
  · intro X C hQ
    rw [f_X3_holds] at h
    refine g_iload_n C 1 rfl rfl dX3_holds_0 ?_
    refine g_if_lt C (tgt := 25) dX3_holds_1 (by decide) (fun cd1 => ?_) (fun cd1 => ?_)
    · replace h := (if_pos cd1).symm.trans h
      refine g_iconst C (v := 0) (by decide) dX3_holds_25 ?_
      obtain rfl := Option.some.inj h
      exact g_zret C hQ rfl rfl ⟨by decide, by decide⟩ dX3_holds_26
    · replace h := (if_neg cd1).symm.trans h
      refine g_iload_n C 1 rfl rfl dX3_holds_4 ?_
      refine g_aload_n C 0 rfl rfl dX3_holds_5 ?_
      refine g_X3_size C i_X3_holds_X3 m_X3_holds_0 0 rfl dX3_holds_6 ?_
      refine g_icmp_ge C (tgt := 25) dX3_holds_9 (by decide) (fun cd2 => ?_) (fun cd2 => ?_)
      · replace h := (if_pos cd2).symm.trans h
        refine g_iconst C (v := 0) (by decide) dX3_holds_25 ?_
        obtain rfl := Option.some.inj h
        exact g_zret C hQ rfl rfl ⟨by decide, by decide⟩ dX3_holds_26
      · replace h := (if_neg cd2).symm.trans h
        refine g_iload_n C 1 rfl rfl dX3_holds_12 ?_
        refine g_aload_n C 0 rfl rfl dX3_holds_13 ?_
        refine g_X3_items C i_X3_holds_X3 m_X3_holds_2 0 rfl dX3_holds_14 ?_
        refine g_alen C 1 0 rfl rfl dX3_holds_17 ?_
        refine g_icmp_ge C (tgt := 25) dX3_holds_18 (by decide) (fun cd3 => ?_) (fun cd3 => ?_)
        · replace h := (if_pos cd3).symm.trans h
          refine g_iconst C (v := 0) (by decide) dX3_holds_25 ?_
          obtain rfl := Option.some.inj h
          exact g_zret C hQ rfl rfl ⟨by decide, by decide⟩ dX3_holds_26
        · replace h := (if_neg cd3).symm.trans h
          refine g_iconst C (v := 1) (by decide) dX3_holds_21 ?_
          refine g_goto C (tgt := 26) dX3_holds_22 (by decide) ?_
          obtain rfl := Option.some.inj h
          exact g_zret C hQ rfl rfl ⟨by decide, by decide⟩ dX3_holds_26
abbrev r_X3_get : Room := { frames := 2, cells := 0, slots := 0, locals := 41 }
theorem m_X3_get_0 : Cond.fieldLink RX3 13 "Bookinghouse$Row" "items" "[I" ∈ wsX3_get := by decide +kernel
theorem i_X3_get_X3 : ∀ w ∈ wsX30, w ∈ wsX3_get := by decide +kernel
set_option maxHeartbeats 4000000 in
set_option maxRecDepth 100000 in
theorem c_X3_get (E : gE) (x : Nat) (y : Nat) (N : Nat) (r : RS) (p1 : Int32) (o : (Int32)) (h : f_X3_get N r p1 = some o) : Ct E yX3_get wsX3_get r_X3_get [.ref x, .int p1] (wX3 E x y N r) (gO (fun u9 => some (.int u9)) (fun u9 => (wX3 E x y N r)) (.inr o)) := by
  refine Ct.of (cc := cX3_get) (nL := 2) (ret := ((some .int))) (own := RX3) (by decide) rfl rfl (Nat.le_of_ble_eq_true rfl) rfl ?_ ?_
  · intro v w1 hh
    cases hh; rfl
  · intro X C hQ
    rw [f_X3_get] at h
    refine g_aload_n C 0 rfl rfl dX3_get_0 ?_
    refine g_iload_n C 1 rfl rfl dX3_get_1 ?_
    obtain ⟨g1, eg1, h⟩ := Option.bind_eq_some_iff.mp h
    refine g_cVr (As := [.int p1]) (n9 := 1) (st := []) (w2 := (wX3 E x y N r)) C (c_X3_holds E x y N r p1 g1 eg1) gX3_get_X3_holds rfl (by decide +kernel) rfl ⟨by decide, by decide, by decide, by decide, Nat.le_of_ble_eq_true rfl⟩ 0 rfl rfl (gSub.idx [0, 1] rfl rfl) rfl dX3_get_2 ?_
    refine g_if_eq C (tgt := 17) dX3_get_5 (by decide) (fun cd2 => ?_) (fun cd2 => ?_)
    · replace h := (if_pos cd2).symm.trans h
      refine g_iconst C (v := 0) (by decide) dX3_get_17 ?_
      obtain rfl := Option.some.inj h
      exact g_iret C hQ rfl ⟨by decide, by decide⟩ dX3_get_18
    · replace h := (if_neg cd2).symm.trans h
      refine g_aload_n C 0 rfl rfl dX3_get_8 ?_
      refine g_X3_items C i_X3_get_X3 m_X3_get_0 0 rfl dX3_get_9 ?_
      refine g_iload_n C 1 rfl rfl dX3_get_12 ?_
      obtain ⟨cd3, h⟩ := ifN h
      refine g_iald C 1 rfl (inB_in cd3) dX3_get_13 ?_
      refine g_goto C (tgt := 18) dX3_get_14 (by decide) ?_
      obtain rfl := Option.some.inj h
      exact g_iret C hQ rfl ⟨by decide, by decide⟩ dX3_get_18
abbrev r_X3_set : Room := { frames := 2, cells := 0, slots := 0, locals := 41 }
theorem m_X3_set_0 : Cond.fieldLink RX3 13 "Bookinghouse$Row" "items" "[I" ∈ wsX3_set := by decide +kernel
theorem i_X3_set_X3 : ∀ w ∈ wsX30, w ∈ wsX3_set := by decide +kernel
set_option maxHeartbeats 4000000 in
set_option maxRecDepth 100000 in
theorem c_X3_set (E : gE) (x : Nat) (y : Nat) (N : Nat) (r : RS) (p1 : Int32) (p2 : Int32) (o : (RS)) (h : f_X3_set N r p1 p2 = some o) : Ct E yX3_set wsX3_set r_X3_set [.ref x, .int p1, .int p2] (wX3 E x y N r) (gO (fun u9 => none) (fun u9 => (wX3 E x y N u9)) (.inr o)) := by
  refine Ct.of (cc := cX3_set) (nL := 3) (ret := (none)) (own := RX3) (by decide) rfl rfl (Nat.le_of_ble_eq_true rfl) rfl ?_ ?_
  · intro v w1 hh
    cases hh; rfl
  · intro X C hQ
    rw [f_X3_set] at h
    refine g_aload_n C 0 rfl rfl dX3_set_0 ?_
    refine g_iload_n C 1 rfl rfl dX3_set_1 ?_
    obtain ⟨g1, eg1, h⟩ := Option.bind_eq_some_iff.mp h
    refine g_cVr (As := [.int p1]) (n9 := 1) (st := []) (w2 := (wX3 E x y N r)) C (c_X3_holds E x y N r p1 g1 eg1) gX3_set_X3_holds rfl (by decide +kernel) rfl ⟨by decide, by decide, by decide, by decide, Nat.le_of_ble_eq_true rfl⟩ 0 rfl rfl (gSub.idx [0, 1] rfl rfl) rfl dX3_set_2 ?_
    refine g_if_eq C (tgt := 15) dX3_set_5 (by decide) (fun cd2 => ?_) (fun cd2 => ?_)
    · replace h := (if_pos cd2).symm.trans h
      obtain rfl := Option.some.inj h
      exact g_vret C hQ rfl ⟨by decide, by decide⟩ dX3_set_15
    · replace h := (if_neg cd2).symm.trans h
      refine g_aload_n C 0 rfl rfl dX3_set_8 ?_
      refine g_X3_items C i_X3_set_X3 m_X3_set_0 0 rfl dX3_set_9 ?_
      refine g_iload_n C 1 rfl rfl dX3_set_12 ?_
      refine g_iload_n C 2 rfl rfl dX3_set_13 ?_
      obtain ⟨cd3, h⟩ := ifN h
      refine g_iast C 1 rfl (ws2 := (wX3 E x y N ((upd r.1 p1.toNatClampNeg p2), r.2))) rfl (inB_in cd3) dX3_set_14 ?_
      obtain rfl := Option.some.inj h
      exact g_vret C hQ rfl ⟨by decide, by decide⟩ dX3_set_15
abbrev r_X3_insert : Room := { frames := 2, cells := 0, slots := 0, locals := 60 }
theorem m_X3_insert_0 : Cond.fieldLink RX3 19 "Bookinghouse$Row" "size" "I" ∈ wsX3_insert := by decide +kernel
theorem i_X3_insert_X3 : ∀ w ∈ wsX30, w ∈ wsX3_insert := by decide +kernel
theorem m_X3_insert_2 : Cond.fieldLink RX3 13 "Bookinghouse$Row" "items" "[I" ∈ wsX3_insert := by decide +kernel
theorem m_X3_insert_3 : Cond.methodLink RX3 31 arraycopyName ∈ wsX3_insert := by decide +kernel
theorem m_X3_insert_4 : Cond.native arraycopyName ∈ wsX3_insert := by decide +kernel
theorem m_X3_insert_5 : Cond.static arraycopyName ∈ wsX3_insert := by decide +kernel
theorem m_X3_insert_6 : Cond.initialized "java/lang/System" ∈ wsX3_insert := by decide +kernel
set_option maxHeartbeats 4000000 in
set_option maxRecDepth 100000 in
theorem c_X3_insert (E : gE) (x : Nat) (y : Nat) (N : Nat) (r : RS) (p1 : Int32) (p2 : Int32) (o : (RS)) (h : f_X3_insert N r p1 p2 = some o) : Ct E yX3_insert wsX3_insert r_X3_insert [.ref x, .int p1, .int p2] (wX3 E x y N r) (gO (fun u9 => none) (fun u9 => (wX3 E x y N u9)) (.inr o)) := by
  refine Ct.of (cc := cX3_insert) (nL := 3) (ret := (none)) (own := RX3) (by decide) rfl rfl (Nat.le_of_ble_eq_true rfl) rfl ?_ ?_
  · intro v w1 hh
    cases hh; rfl
  · intro X C hQ
    rw [f_X3_insert] at h
    refine g_iload_n C 1 rfl rfl dX3_insert_0 ?_
    refine g_if_lt C (tgt := 24) dX3_insert_1 (by decide) (fun cd1 => ?_) (fun cd1 => ?_)
    · replace h := (if_pos cd1).symm.trans h
      obtain rfl := Option.some.inj h
      exact g_vret C hQ rfl ⟨by decide, by decide⟩ dX3_insert_24
    · replace h := (if_neg cd1).symm.trans h
      refine g_iload_n C 1 rfl rfl dX3_insert_4 ?_
      refine g_aload_n C 0 rfl rfl dX3_insert_5 ?_
      refine g_X3_size C i_X3_insert_X3 m_X3_insert_0 0 rfl dX3_insert_6 ?_
      refine g_icmp_gt C (tgt := 24) dX3_insert_9 (by decide) (fun cd2 => ?_) (fun cd2 => ?_)
      · replace h := (if_pos cd2).symm.trans h
        obtain rfl := Option.some.inj h
        exact g_vret C hQ rfl ⟨by decide, by decide⟩ dX3_insert_24
      · replace h := (if_neg cd2).symm.trans h
        refine g_aload_n C 0 rfl rfl dX3_insert_12 ?_
        refine g_X3_size C i_X3_insert_X3 m_X3_insert_0 0 rfl dX3_insert_13 ?_
        refine g_aload_n C 0 rfl rfl dX3_insert_16 ?_
        refine g_X3_items C i_X3_insert_X3 m_X3_insert_2 0 rfl dX3_insert_17 ?_
        refine g_alen C 1 0 rfl rfl dX3_insert_20 ?_
        refine g_icmp_lt C (tgt := 25) dX3_insert_21 (by decide) (fun cd3 => ?_) (fun cd3 => ?_)
        · replace h := (if_pos cd3).symm.trans h
          refine g_aload_n C 0 rfl rfl dX3_insert_25 ?_
          refine g_X3_items C i_X3_insert_X3 m_X3_insert_2 0 rfl dX3_insert_26 ?_
          refine g_iload_n C 1 rfl rfl dX3_insert_29 ?_
          refine g_aload_n C 0 rfl rfl dX3_insert_30 ?_
          refine g_X3_items C i_X3_insert_X3 m_X3_insert_2 0 rfl dX3_insert_31 ?_
          refine g_iload_n C 1 rfl rfl dX3_insert_34 ?_
          refine g_iconst C (v := 1) (by decide) dX3_insert_35 ?_
          refine g_iadd C dX3_insert_36 ?_
          refine g_aload_n C 0 rfl rfl dX3_insert_37 ?_
          refine g_X3_size C i_X3_insert_X3 m_X3_insert_0 0 rfl dX3_insert_38 ?_
          refine g_iload_n C 1 rfl rfl dX3_insert_41 ?_
          refine g_isub C dX3_insert_42 ?_
          obtain ⟨cd4, h⟩ := ifN h
          refine g_copy C m_X3_insert_3 m_X3_insert_4 m_X3_insert_5 m_X3_insert_6 1 rfl (cpB_1 cd4) (cpB_2 cd4) (cpB_3 cd4) (cpB_4 cd4) (cpB_5 cd4) (ws2 := (wX3 E x y N ((va_cpy r.1 r.1 p1.toNatClampNeg (p1 + 1).toNatClampNeg (r.2 - p1).toNatClampNeg), r.2))) rfl ⟨by decide, Nat.le_of_ble_eq_true rfl⟩ dX3_insert_43 ?_
          refine g_aload_n C 0 rfl rfl dX3_insert_46 ?_
          refine g_X3_items C i_X3_insert_X3 m_X3_insert_2 0 rfl dX3_insert_47 ?_
          refine g_iload_n C 1 rfl rfl dX3_insert_50 ?_
          refine g_iload_n C 2 rfl rfl dX3_insert_51 ?_
          obtain ⟨cd5, h⟩ := ifN h
          refine g_iast C 1 rfl (ws2 := (wX3 E x y N ((upd (va_cpy r.1 r.1 p1.toNatClampNeg (p1 + 1).toNatClampNeg (r.2 - p1).toNatClampNeg) p1.toNatClampNeg p2), r.2))) rfl (inB_in cd5) dX3_insert_52 ?_
          refine g_aload_n C 0 rfl rfl dX3_insert_53 ?_
          refine g_dup C rfl dX3_insert_54 ?_
          refine g_X3_size C i_X3_insert_X3 m_X3_insert_0 0 rfl dX3_insert_55 ?_
          refine g_iconst C (v := 1) (by decide) dX3_insert_58 ?_
          refine g_iadd C dX3_insert_59 ?_
          refine g_X3_set_size C i_X3_insert_X3 m_X3_insert_0 0 rfl (ws2 := (wX3 E x y N ((upd (va_cpy r.1 r.1 p1.toNatClampNeg (p1 + 1).toNatClampNeg (r.2 - p1).toNatClampNeg) p1.toNatClampNeg p2), (r.2 + 1)))) rfl dX3_insert_60 ?_
          obtain rfl := Option.some.inj h
          exact g_vret C hQ rfl ⟨by decide, by decide⟩ dX3_insert_63
        · replace h := (if_neg cd3).symm.trans h
          obtain rfl := Option.some.inj h
          exact g_vret C hQ rfl ⟨by decide, by decide⟩ dX3_insert_24
abbrev r_X3_add : Room := { frames := 3, cells := 0, slots := 0, locals := 82 }
theorem m_X3_add_0 : Cond.fieldLink RX3 19 "Bookinghouse$Row" "size" "I" ∈ wsX3_add := by decide +kernel
theorem i_X3_add_X3 : ∀ w ∈ wsX30, w ∈ wsX3_add := by decide +kernel
set_option maxHeartbeats 4000000 in
set_option maxRecDepth 100000 in
theorem c_X3_add (E : gE) (x : Nat) (y : Nat) (N : Nat) (r : RS) (p1 : Int32) (o : (RS)) (h : f_X3_add N r p1 = some o) : Ct E yX3_add wsX3_add r_X3_add [.ref x, .int p1] (wX3 E x y N r) (gO (fun u9 => none) (fun u9 => (wX3 E x y N u9)) (.inr o)) := by
  refine Ct.of (cc := cX3_add) (nL := 2) (ret := (none)) (own := RX3) (by decide) rfl rfl (Nat.le_of_ble_eq_true rfl) rfl ?_ ?_
  · intro v w1 hh
    cases hh; rfl
  · intro X C hQ
    rw [f_X3_add] at h
    refine g_aload_n C 0 rfl rfl dX3_add_0 ?_
    refine g_aload_n C 0 rfl rfl dX3_add_1 ?_
    refine g_X3_size C i_X3_add_X3 m_X3_add_0 0 rfl dX3_add_2 ?_
    refine g_iload_n C 1 rfl rfl dX3_add_5 ?_
    obtain ⟨g1, eg1, h⟩ := Option.bind_eq_some_iff.mp h
    refine g_cVv (As := [.int r.2, .int p1]) (n9 := 2) (st := []) (w2 := (wX3 E x y N g1)) C (c_X3_insert E x y N r r.2 p1 g1 eg1) gX3_add_X3_insert rfl (by decide +kernel) rfl ⟨by decide, by decide, by decide, by decide, Nat.le_of_ble_eq_true rfl⟩ 0 rfl rfl (gSub.idx [0, 1] rfl rfl) rfl dX3_add_6 ?_
    obtain rfl := Option.some.inj h
    exact g_vret C hQ rfl ⟨by decide, by decide⟩ dX3_add_9
abbrev r_X3_remove : Room := { frames := 2, cells := 0, slots := 0, locals := 60 }
theorem m_X3_remove_0 : Cond.fieldLink RX3 13 "Bookinghouse$Row" "items" "[I" ∈ wsX3_remove := by decide +kernel
theorem i_X3_remove_X3 : ∀ w ∈ wsX30, w ∈ wsX3_remove := by decide +kernel
theorem m_X3_remove_2 : Cond.fieldLink RX3 19 "Bookinghouse$Row" "size" "I" ∈ wsX3_remove := by decide +kernel
theorem m_X3_remove_3 : Cond.methodLink RX3 31 arraycopyName ∈ wsX3_remove := by decide +kernel
theorem m_X3_remove_4 : Cond.native arraycopyName ∈ wsX3_remove := by decide +kernel
theorem m_X3_remove_5 : Cond.static arraycopyName ∈ wsX3_remove := by decide +kernel
theorem m_X3_remove_6 : Cond.initialized "java/lang/System" ∈ wsX3_remove := by decide +kernel
set_option maxHeartbeats 4000000 in
set_option maxRecDepth 100000 in
theorem c_X3_remove (E : gE) (x : Nat) (y : Nat) (N : Nat) (r : RS) (p1 : Int32) (o : (Int32 × RS)) (h : f_X3_remove N r p1 = some o) : Ct E yX3_remove wsX3_remove r_X3_remove [.ref x, .int p1] (wX3 E x y N r) (gO (fun u9 => some (.int u9.1)) (fun u9 => (wX3 E x y N u9.2)) (.inr o)) := by
  refine Ct.of (cc := cX3_remove) (nL := 3) (ret := ((some .int))) (own := RX3) (by decide) rfl rfl (Nat.le_of_ble_eq_true rfl) rfl ?_ ?_
  · intro v w1 hh
    cases hh; rfl
  · intro X C hQ
    rw [f_X3_remove] at h
    refine g_aload_n C 0 rfl rfl dX3_remove_0 ?_
    refine g_iload_n C 1 rfl rfl dX3_remove_1 ?_
    obtain ⟨g1, eg1, h⟩ := Option.bind_eq_some_iff.mp h
    refine g_cVr (As := [.int p1]) (n9 := 1) (st := []) (w2 := (wX3 E x y N r)) C (c_X3_holds E x y N r p1 g1 eg1) gX3_remove_X3_holds rfl (by decide +kernel) rfl ⟨by decide, by decide, by decide, by decide, Nat.le_of_ble_eq_true rfl⟩ 0 rfl rfl (gSub.idx [0, 1] rfl rfl) rfl dX3_remove_2 ?_
    refine g_if_ne C (tgt := 10) dX3_remove_5 (by decide) (fun cd2 => ?_) (fun cd2 => ?_)
    · replace h := (if_neg cd2).symm.trans h
      refine g_aload_n C 0 rfl rfl dX3_remove_10 ?_
      refine g_X3_items C i_X3_remove_X3 m_X3_remove_0 0 rfl dX3_remove_11 ?_
      refine g_iload_n C 1 rfl rfl dX3_remove_14 ?_
      obtain ⟨cd3, h⟩ := ifN h
      refine g_iald C 1 rfl (inB_in cd3) dX3_remove_15 ?_
      refine g_istore_n C (lv2 := [(2, .int (r.1 p1.toNatClampNeg)), (0, .ref x), (1, .int p1)]) rfl (by decide) rfl dX3_remove_16 ?_
      refine g_aload_n C 1 rfl rfl dX3_remove_17 ?_
      refine g_X3_items C i_X3_remove_X3 m_X3_remove_0 0 rfl dX3_remove_18 ?_
      refine g_iload_n C 2 rfl rfl dX3_remove_21 ?_
      refine g_iconst C (v := 1) (by decide) dX3_remove_22 ?_
      refine g_iadd C dX3_remove_23 ?_
      refine g_aload_n C 1 rfl rfl dX3_remove_24 ?_
      refine g_X3_items C i_X3_remove_X3 m_X3_remove_0 0 rfl dX3_remove_25 ?_
      refine g_iload_n C 2 rfl rfl dX3_remove_28 ?_
      refine g_aload_n C 1 rfl rfl dX3_remove_29 ?_
      refine g_X3_size C i_X3_remove_X3 m_X3_remove_2 0 rfl dX3_remove_30 ?_
      refine g_iload_n C 2 rfl rfl dX3_remove_33 ?_
      refine g_isub C dX3_remove_34 ?_
      refine g_iconst C (v := 1) (by decide) dX3_remove_35 ?_
      refine g_isub C dX3_remove_36 ?_
      obtain ⟨cd4, h⟩ := ifN h
      refine g_copy C m_X3_remove_3 m_X3_remove_4 m_X3_remove_5 m_X3_remove_6 1 rfl (cpB_1 cd4) (cpB_2 cd4) (cpB_3 cd4) (cpB_4 cd4) (cpB_5 cd4) (ws2 := (wX3 E x y N ((va_cpy r.1 r.1 (p1 + 1).toNatClampNeg p1.toNatClampNeg ((r.2 - p1) - 1).toNatClampNeg), r.2))) rfl ⟨by decide, Nat.le_of_ble_eq_true rfl⟩ dX3_remove_37 ?_
      refine g_aload_n C 1 rfl rfl dX3_remove_40 ?_
      refine g_dup C rfl dX3_remove_41 ?_
      refine g_X3_size C i_X3_remove_X3 m_X3_remove_2 0 rfl dX3_remove_42 ?_
      refine g_iconst C (v := 1) (by decide) dX3_remove_45 ?_
      refine g_isub C dX3_remove_46 ?_
      refine g_X3_set_size C i_X3_remove_X3 m_X3_remove_2 0 rfl (ws2 := (wX3 E x y N ((va_cpy r.1 r.1 (p1 + 1).toNatClampNeg p1.toNatClampNeg ((r.2 - p1) - 1).toNatClampNeg), (r.2 - 1)))) rfl dX3_remove_47 ?_
      refine g_iload_n C 0 rfl rfl dX3_remove_50 ?_
      obtain rfl := Option.some.inj h
      exact g_iret C hQ rfl ⟨by decide, by decide⟩ dX3_remove_51
    · replace h := (if_pos cd2).symm.trans h
      refine g_iconst C (v := 0) (by decide) dX3_remove_8 ?_
      obtain rfl := Option.some.inj h
      exact g_iret C hQ rfl ⟨by decide, by decide⟩ dX3_remove_9
abbrev r_X3_clear : Room := { frames := 1, cells := 0, slots := 0, locals := 20 }
theorem m_X3_clear_0 : Cond.fieldLink RX3 19 "Bookinghouse$Row" "size" "I" ∈ wsX3_clear := by decide +kernel
theorem i_X3_clear_X3 : ∀ w ∈ wsX30, w ∈ wsX3_clear := by decide +kernel
set_option maxHeartbeats 4000000 in
set_option maxRecDepth 100000 in
theorem c_X3_clear (E : gE) (x : Nat) (y : Nat) (N : Nat) (r : RS) (o : (RS)) (h : f_X3_clear r = some o) : Ct E yX3_clear wsX3_clear r_X3_clear [.ref x] (wX3 E x y N r) (gO (fun u9 => none) (fun u9 => (wX3 E x y N u9)) (.inr o)) := by
  refine Ct.of (cc := cX3_clear) (nL := 1) (ret := (none)) (own := RX3) (by decide) rfl rfl (Nat.le_of_ble_eq_true rfl) rfl ?_ ?_
  · intro v w1 hh
    cases hh; rfl
  · intro X C hQ
    rw [f_X3_clear] at h
    refine g_aload_n C 0 rfl rfl dX3_clear_0 ?_
    refine g_iconst C (v := 0) (by decide) dX3_clear_1 ?_
    refine g_X3_set_size C i_X3_clear_X3 m_X3_clear_0 0 rfl (ws2 := (wX3 E x y N (r.1, 0))) rfl dX3_clear_2 ?_
    obtain rfl := Option.some.inj h
    exact g_vret C hQ rfl ⟨by decide, by decide⟩ dX3_clear_5
abbrev r_X3_placeOf : Room := { frames := 3, cells := 0, slots := 0, locals := 62 }
theorem m_X3_placeOf_0 : Cond.fieldLink RX3 19 "Bookinghouse$Row" "size" "I" ∈ wsX3_placeOf := by decide +kernel
theorem i_X3_placeOf_X3 : ∀ w ∈ wsX30, w ∈ wsX3_placeOf := by decide +kernel
set_option maxHeartbeats 4000000 in
set_option maxRecDepth 100000 in
theorem w_X3_placeOf_2 {E : gE} {X : gX} {x : Nat} {y : Nat} {N : Nat} {r : RS} {v1 : Int32} {o : (Int32)} (C : Cx E X cX3_placeOf 3 RX3 wsX3_placeOf r_X3_placeOf ((some .int)) []) (hQ : gQ E X (wX3 E x y N r) r_X3_placeOf (gO (fun u9 => some (.int u9)) (fun u9 => (wX3 E x y N r)) (.inr o))) : ∀ (F : Nat) (v2 : Int32), l_X3_placeOf_2 N r v1 F v2 = some o → Gx E X (wX3 E x y N r) 3 [(0, .ref x), (1, .int v1), (2, .int v2)] [] 2 0 0 := by
  intro F
  induction F with
  | zero => intro v2 h; exact absurd h (by simp [l_X3_placeOf_2])
  | succ F ih =>
    intro v2 h
    rw [l_X3_placeOf_2] at h
    refine g_iload_n C 2 rfl rfl dX3_placeOf_2 ?_
    refine g_aload_n C 0 rfl rfl dX3_placeOf_3 ?_
    refine g_X3_size C i_X3_placeOf_X3 m_X3_placeOf_0 0 rfl dX3_placeOf_4 ?_
    refine g_icmp_ge C (tgt := 27) dX3_placeOf_7 (by decide) (fun cd1 => ?_) (fun cd1 => ?_)
    · replace h := (if_pos cd1).symm.trans h
      refine g_iconst C (v := (-1)) (by decide) dX3_placeOf_27 ?_
      obtain rfl := Option.some.inj h
      exact g_iret C hQ rfl ⟨by decide, by decide⟩ dX3_placeOf_28
    · replace h := (if_neg cd1).symm.trans h
      refine g_aload_n C 0 rfl rfl dX3_placeOf_10 ?_
      refine g_iload_n C 2 rfl rfl dX3_placeOf_11 ?_
      obtain ⟨g2, eg2, h⟩ := Option.bind_eq_some_iff.mp h
      refine g_cVr (As := [.int v2]) (n9 := 1) (st := []) (w2 := (wX3 E x y N r)) C (c_X3_get E x y N r v2 g2 eg2) gX3_placeOf_X3_get rfl (by decide +kernel) rfl ⟨by decide, by decide, by decide, by decide, Nat.le_of_ble_eq_true rfl⟩ 0 rfl rfl (gSub.idx [0, 1] rfl rfl) rfl dX3_placeOf_12 ?_
      refine g_iload_n C 1 rfl rfl dX3_placeOf_15 ?_
      refine g_icmp_ne C (tgt := 21) dX3_placeOf_16 (by decide) (fun cd3 => ?_) (fun cd3 => ?_)
      · replace h := (if_neg cd3).symm.trans h
        refine g_iinc C (v := v2 + 1) 2 rfl rfl (lv2 := [(2, .int (v2 + 1)), (0, .ref x), (1, .int v1)]) rfl (by decide) dX3_placeOf_21 ?_
        refine g_goto C (tgt := 2) dX3_placeOf_24 (by decide) ?_
        refine g_lv [1, 2, 0] (lv2 := [(0, .ref x), (1, .int v1), (2, .int (v2 + 1))]) rfl ?_
        exact ih (v2 + 1) h
      · replace h := (if_pos cd3).symm.trans h
        refine g_iload_n C 2 rfl rfl dX3_placeOf_19 ?_
        obtain rfl := Option.some.inj h
        exact g_iret C hQ rfl ⟨by decide, by decide⟩ dX3_placeOf_20
set_option maxHeartbeats 4000000 in
set_option maxRecDepth 100000 in
theorem c_X3_placeOf (E : gE) (x : Nat) (y : Nat) (N : Nat) (r : RS) (p1 : Int32) (o : (Int32)) (h : f_X3_placeOf N r p1 = some o) : Ct E yX3_placeOf wsX3_placeOf r_X3_placeOf [.ref x, .int p1] (wX3 E x y N r) (gO (fun u9 => some (.int u9)) (fun u9 => (wX3 E x y N r)) (.inr o)) := by
  refine Ct.of (cc := cX3_placeOf) (nL := 3) (ret := ((some .int))) (own := RX3) (by decide) rfl rfl (Nat.le_of_ble_eq_true rfl) rfl ?_ ?_
  · intro v w1 hh
    cases hh; rfl
  · intro X C hQ
    rw [f_X3_placeOf] at h
    refine g_iconst C (v := 0) (by decide) dX3_placeOf_0 ?_
    refine g_istore_n C (lv2 := [(2, .int 0), (0, .ref x), (1, .int p1)]) rfl (by decide) rfl dX3_placeOf_1 ?_
    refine g_lv [1, 2, 0] (lv2 := [(0, .ref x), (1, .int p1), (2, .int 0)]) rfl ?_
    exact w_X3_placeOf_2 (v1 := p1) C hQ FU 0 h
abbrev r_X3_count : Room := { frames := 3, cells := 0, slots := 0, locals := 62 }
theorem m_X3_count_0 : Cond.fieldLink RX3 19 "Bookinghouse$Row" "size" "I" ∈ wsX3_count := by decide +kernel
theorem i_X3_count_X3 : ∀ w ∈ wsX30, w ∈ wsX3_count := by decide +kernel
set_option maxHeartbeats 4000000 in
set_option maxRecDepth 100000 in
theorem w_X3_count_4 {E : gE} {X : gX} {x : Nat} {y : Nat} {N : Nat} {r : RS} {v1 : Int32} {o : (Int32)} (C : Cx E X cX3_count 4 RX3 wsX3_count r_X3_count ((some .int)) []) (hQ : gQ E X (wX3 E x y N r) r_X3_count (gO (fun u9 => some (.int u9)) (fun u9 => (wX3 E x y N r)) (.inr o))) : ∀ (F : Nat) (v2 : Int32) (v3 : Int32), l_X3_count_4 N r v1 F v2 v3 = some o → Gx E X (wX3 E x y N r) 4 [(0, .ref x), (1, .int v1), (2, .int v2), (3, .int v3)] [] 4 0 0 := by
  intro F
  induction F with
  | zero => intro v2 v3 h; exact absurd h (by simp [l_X3_count_4])
  | succ F ih =>
    intro v2 v3 h
    rw [l_X3_count_4] at h
    refine g_iload_n C 3 rfl rfl dX3_count_4 ?_
    refine g_aload_n C 0 rfl rfl dX3_count_5 ?_
    refine g_X3_size C i_X3_count_X3 m_X3_count_0 0 rfl dX3_count_6 ?_
    refine g_icmp_ge C (tgt := 35) dX3_count_9 (by decide) (fun cd1 => ?_) (fun cd1 => ?_)
    · replace h := (if_pos cd1).symm.trans h
      refine g_iload_n C 2 rfl rfl dX3_count_35 ?_
      obtain rfl := Option.some.inj h
      exact g_iret C hQ rfl ⟨by decide, by decide⟩ dX3_count_36
    · replace h := (if_neg cd1).symm.trans h
      refine g_iload_n C 2 rfl rfl dX3_count_12 ?_
      refine g_aload_n C 0 rfl rfl dX3_count_13 ?_
      refine g_iload_n C 3 rfl rfl dX3_count_14 ?_
      obtain ⟨g2, eg2, h⟩ := Option.bind_eq_some_iff.mp h
      refine g_cVr (As := [.int v3]) (n9 := 1) (st := [.int v2]) (w2 := (wX3 E x y N r)) C (c_X3_get E x y N r v3 g2 eg2) gX3_count_X3_get rfl (by decide +kernel) rfl ⟨by decide, by decide, by decide, by decide, Nat.le_of_ble_eq_true rfl⟩ 0 rfl rfl (gSub.idx [0, 1] rfl rfl) rfl dX3_count_15 ?_
      refine g_iload_n C 1 rfl rfl dX3_count_18 ?_
      refine g_icmp_ne C (tgt := 26) dX3_count_19 (by decide) (fun cd3 => ?_) (fun cd3 => ?_)
      · replace h := (if_neg cd3).symm.trans h
        refine g_iconst C (v := 0) (by decide) dX3_count_26 ?_
        refine g_iadd C dX3_count_27 ?_
        refine g_istore_n C (lv2 := [(2, .int (v2 + 0)), (0, .ref x), (1, .int v1), (3, .int v3)]) rfl (by decide) rfl dX3_count_28 ?_
        refine g_iinc C (v := v3 + 1) 3 rfl rfl (lv2 := [(3, .int (v3 + 1)), (2, .int (v2 + 0)), (0, .ref x), (1, .int v1)]) rfl (by decide) dX3_count_29 ?_
        refine g_goto C (tgt := 4) dX3_count_32 (by decide) ?_
        refine g_lv [2, 3, 1, 0] (lv2 := [(0, .ref x), (1, .int v1), (2, .int (v2 + 0)), (3, .int (v3 + 1))]) rfl ?_
        exact ih (v2 + 0) (v3 + 1) h
      · replace h := (if_pos cd3).symm.trans h
        refine g_iconst C (v := 1) (by decide) dX3_count_22 ?_
        refine g_goto C (tgt := 27) dX3_count_23 (by decide) ?_
        refine g_iadd C dX3_count_27 ?_
        refine g_istore_n C (lv2 := [(2, .int (v2 + 1)), (0, .ref x), (1, .int v1), (3, .int v3)]) rfl (by decide) rfl dX3_count_28 ?_
        refine g_iinc C (v := v3 + 1) 3 rfl rfl (lv2 := [(3, .int (v3 + 1)), (2, .int (v2 + 1)), (0, .ref x), (1, .int v1)]) rfl (by decide) dX3_count_29 ?_
        refine g_goto C (tgt := 4) dX3_count_32 (by decide) ?_
        refine g_lv [2, 3, 1, 0] (lv2 := [(0, .ref x), (1, .int v1), (2, .int (v2 + 1)), (3, .int (v3 + 1))]) rfl ?_
        exact ih (v2 + 1) (v3 + 1) h
set_option maxHeartbeats 4000000 in
set_option maxRecDepth 100000 in
theorem c_X3_count (E : gE) (x : Nat) (y : Nat) (N : Nat) (r : RS) (p1 : Int32) (o : (Int32)) (h : f_X3_count N r p1 = some o) : Ct E yX3_count wsX3_count r_X3_count [.ref x, .int p1] (wX3 E x y N r) (gO (fun u9 => some (.int u9)) (fun u9 => (wX3 E x y N r)) (.inr o)) := by
  refine Ct.of (cc := cX3_count) (nL := 4) (ret := ((some .int))) (own := RX3) (by decide) rfl rfl (Nat.le_of_ble_eq_true rfl) rfl ?_ ?_
  · intro v w1 hh
    cases hh; rfl
  · intro X C hQ
    rw [f_X3_count] at h
    refine g_iconst C (v := 0) (by decide) dX3_count_0 ?_
    refine g_istore_n C (lv2 := [(2, .int 0), (0, .ref x), (1, .int p1)]) rfl (by decide) rfl dX3_count_1 ?_
    refine g_iconst C (v := 0) (by decide) dX3_count_2 ?_
    refine g_istore_n C (lv2 := [(3, .int 0), (2, .int 0), (0, .ref x), (1, .int p1)]) rfl (by decide) rfl dX3_count_3 ?_
    refine g_lv [2, 3, 1, 0] (lv2 := [(0, .ref x), (1, .int p1), (2, .int 0), (3, .int 0)]) rfl ?_
    exact w_X3_count_4 (v1 := p1) C hQ FU 0 0 h
abbrev r_X3_isLike : Room := { frames := 3, cells := 0, slots := 0, locals := 62 }
theorem m_X3_isLike_0 : Cond.fieldLink RX3 19 "Bookinghouse$Row" "size" "I" ∈ wsX3_isLike := by decide +kernel
theorem i_X3_isLike_X3 : ∀ w ∈ wsX30, w ∈ wsX3_isLike := by decide +kernel
set_option maxHeartbeats 4000000 in
set_option maxRecDepth 100000 in
theorem w_X3_isLike_2 {E : gE} {X : gX} {x : Nat} {y : Nat} {N : Nat} {r : RS} {x2 : Nat} {y2 : Nat} {N2 : Nat} {r2 : RS} {o : (Bool)} (C : Cx E X cX3_isLike 3 RX3 wsX3_isLike r_X3_isLike ((some .boolean)) []) (hQ : gQ E X (wX3 E x y N r ++ wX3 E x2 y2 N2 r2) r_X3_isLike (gO (fun u9 => some (.int (bI u9))) (fun u9 => (wX3 E x y N r ++ wX3 E x2 y2 N2 r2)) (.inr o))) : ∀ (F : Nat) (v2 : Int32), l_X3_isLike_2 N r N2 r2 F v2 = some o → Gx E X (wX3 E x y N r ++ wX3 E x2 y2 N2 r2) 3 [(0, .ref x), (1, .ref x2), (2, .int v2)] [] 2 0 0 := by
  intro F
  induction F with
  | zero => intro v2 h; exact absurd h (by simp [l_X3_isLike_2])
  | succ F ih =>
    intro v2 h
    rw [l_X3_isLike_2] at h
    refine g_iload_n C 2 rfl rfl dX3_isLike_2 ?_
    refine g_aload_n C 0 rfl rfl dX3_isLike_3 ?_
    refine g_X3_size C i_X3_isLike_X3 m_X3_isLike_0 0 rfl dX3_isLike_4 ?_
    refine g_icmp_ge C (tgt := 31) dX3_isLike_7 (by decide) (fun cd1 => ?_) (fun cd1 => ?_)
    · replace h := (if_pos cd1).symm.trans h
      refine g_aload_n C 0 rfl rfl dX3_isLike_31 ?_
      refine g_X3_size C i_X3_isLike_X3 m_X3_isLike_0 0 rfl dX3_isLike_32 ?_
      refine g_aload_n C 1 rfl rfl dX3_isLike_35 ?_
      refine g_X3_size C i_X3_isLike_X3 m_X3_isLike_0 2 rfl dX3_isLike_36 ?_
      refine g_icmp_ne C (tgt := 46) dX3_isLike_39 (by decide) (fun cd2 => ?_) (fun cd2 => ?_)
      · replace h := (if_neg cd2).symm.trans h
        refine g_iconst C (v := 0) (by decide) dX3_isLike_46 ?_
        obtain rfl := Option.some.inj h
        exact g_zret C hQ rfl rfl ⟨by decide, by decide⟩ dX3_isLike_47
      · replace h := (if_pos cd2).symm.trans h
        refine g_iconst C (v := 1) (by decide) dX3_isLike_42 ?_
        refine g_goto C (tgt := 47) dX3_isLike_43 (by decide) ?_
        obtain rfl := Option.some.inj h
        exact g_zret C hQ rfl rfl ⟨by decide, by decide⟩ dX3_isLike_47
    · replace h := (if_neg cd1).symm.trans h
      refine g_aload_n C 0 rfl rfl dX3_isLike_10 ?_
      refine g_iload_n C 2 rfl rfl dX3_isLike_11 ?_
      obtain ⟨g3, eg3, h⟩ := Option.bind_eq_some_iff.mp h
      refine g_cVr (As := [.int v2]) (n9 := 1) (st := []) (w2 := (wX3 E x y N r ++ wX3 E x2 y2 N2 r2)) C (c_X3_get E x y N r v2 g3 eg3) gX3_isLike_X3_get rfl (by decide +kernel) rfl ⟨by decide, by decide, by decide, by decide, Nat.le_of_ble_eq_true rfl⟩ 0 rfl rfl (gSub.idx [0, 1] rfl rfl) rfl dX3_isLike_12 ?_
      refine g_aload_n C 1 rfl rfl dX3_isLike_15 ?_
      refine g_iload_n C 2 rfl rfl dX3_isLike_16 ?_
      obtain ⟨g4, eg4, h⟩ := Option.bind_eq_some_iff.mp h
      refine g_cVr (As := [.int v2]) (n9 := 1) (st := [.int g3]) (w2 := (wX3 E x y N r ++ wX3 E x2 y2 N2 r2)) C (c_X3_get E x2 y2 N2 r2 v2 g4 eg4) gX3_isLike_X3_get rfl (by decide +kernel) rfl ⟨by decide, by decide, by decide, by decide, Nat.le_of_ble_eq_true rfl⟩ 0 rfl rfl (gSub.idx [2, 3] rfl rfl) rfl dX3_isLike_17 ?_
      refine g_icmp_eq C (tgt := 25) dX3_isLike_20 (by decide) (fun cd5 => ?_) (fun cd5 => ?_)
      · replace h := (if_pos cd5).symm.trans h
        refine g_iinc C (v := v2 + 1) 2 rfl rfl (lv2 := [(2, .int (v2 + 1)), (0, .ref x), (1, .ref x2)]) rfl (by decide) dX3_isLike_25 ?_
        refine g_goto C (tgt := 2) dX3_isLike_28 (by decide) ?_
        refine g_lv [1, 2, 0] (lv2 := [(0, .ref x), (1, .ref x2), (2, .int (v2 + 1))]) rfl ?_
        exact ih (v2 + 1) h
      · replace h := (if_neg cd5).symm.trans h
        refine g_iconst C (v := 0) (by decide) dX3_isLike_23 ?_
        obtain rfl := Option.some.inj h
        exact g_zret C hQ rfl rfl ⟨by decide, by decide⟩ dX3_isLike_24
set_option maxHeartbeats 4000000 in
set_option maxRecDepth 100000 in
theorem c_X3_isLike (E : gE) (x : Nat) (y : Nat) (N : Nat) (r : RS) (x2 : Nat) (y2 : Nat) (N2 : Nat) (r2 : RS) (o : (Bool)) (h : f_X3_isLike N r N2 r2 = some o) : Ct E yX3_isLike wsX3_isLike r_X3_isLike [.ref x, .ref x2] (wX3 E x y N r ++ wX3 E x2 y2 N2 r2) (gO (fun u9 => some (.int (bI u9))) (fun u9 => (wX3 E x y N r ++ wX3 E x2 y2 N2 r2)) (.inr o)) := by
  refine Ct.of (cc := cX3_isLike) (nL := 3) (ret := ((some .boolean))) (own := RX3) (by decide) rfl rfl (Nat.le_of_ble_eq_true rfl) rfl ?_ ?_
  · intro v w1 hh
    cases hh; rfl
  · intro X C hQ
    rw [f_X3_isLike] at h
    refine g_iconst C (v := 0) (by decide) dX3_isLike_0 ?_
    refine g_istore_n C (lv2 := [(2, .int 0), (0, .ref x), (1, .ref x2)]) rfl (by decide) rfl dX3_isLike_1 ?_
    refine g_lv [1, 2, 0] (lv2 := [(0, .ref x), (1, .ref x2), (2, .int 0)]) rfl ?_
    exact w_X3_isLike_2 C hQ FU 0 h
