/-! the constructors -/
abbrev r_X3_init : Room := { frames := 3, cells := 1, slots := 240, locals := 60 }
theorem m_X3_init_0 : Cond.methodLink RX3 1 objectInit ∈ wsX3_init := by decide +kernel
theorem m_X3_init_1 : Cond.instanceMethod objectInit ∈ wsX3_init := by decide +kernel
theorem m_X3_init_2 : Cond.code objectInit ⟨#[0xb1]⟩ 1 none ∈ wsX3_init := by decide +kernel
theorem m_X3_init_3 : Cond.methodLink RX3 7 Lib.Math.max.name ∈ wsX3_init := by decide +kernel
theorem m_X3_init_4 : Cond.static Lib.Math.max.name ∈ wsX3_init := by decide +kernel
theorem m_X3_init_5 : Cond.initialized "java/lang/Math" ∈ wsX3_init := by decide +kernel
theorem m_X3_init_6 : Cond.code Lib.Math.max.name Lib.Math.max.code 2 (some .int) ∈ wsX3_init := by decide +kernel
theorem m_X3_init_7 : Cond.arrayClass .int ∈ wsX3_init := by decide +kernel
theorem m_X3_init_8 : Cond.fieldLink RX3 13 "Bookinghouse$Row" "items" "[I" ∈ wsX3_init := by decide +kernel
theorem i_X3_init_X3 : ∀ w ∈ wsX30, w ∈ wsX3_init := by decide +kernel
set_option maxHeartbeats 4000000 in
set_option maxRecDepth 100000 in
theorem c_X3_init (E : gE) (h : Nat) (p1 : Int32) {N : Nat} (hp : p1.toInt = N) (hN : N ≤ 240) : Ci E yX3_init wsX3_init r_X3_init [.ref h, .int p1] [(h, .inr (5, [.null, .int 0]))] (fun f => wX3 E h (f 1) N zr) := by
  refine Ci.of (cc := cX3_init) (nL := 2) (own := RX3) (by decide) rfl rfl (Nat.le_of_ble_eq_true rfl) rfl rfl ?_
  intro X C hQ
  refine g_aload_n C 0 rfl rfl dX3_init_0 ?_
  refine g_objInit C m_X3_init_0 m_X3_init_1 m_X3_init_2 ⟨by decide, Nat.le_of_ble_eq_true rfl⟩ dX3_init_1 ?_
  refine g_aload_n C 0 rfl rfl dX3_init_4 ?_
  refine g_iload_n C 1 rfl rfl dX3_init_5 ?_
  refine g_iconst C (v := 0) (by decide) dX3_init_6 ?_
  refine g_mmax C m_X3_init_3 m_X3_init_4 m_X3_init_5 m_X3_init_6 ⟨by decide, Nat.le_of_ble_eq_true rfl, by decide, by decide⟩ dX3_init_7 ?_
  have hm : (if p1 < 0 then 0 else p1) = p1 := if_neg (by rw [Int32.lt_iff_toInt_lt, show (0 : Int32).toInt = 0 from rfl]; omega)
  rw [hm]
  refine g_newa (N := N) C m_X3_init_7 hp (by omega) ⟨by decide, by show 0 + N ≤ 240; omega⟩ dX3_init_10 (fun q1 => ?_)
  refine g_X3_init_items C hQ i_X3_init_X3 m_X3_init_8 0 rfl (ws2 := [(h, .inr (5, [.ref q1, .int 0])), (q1, .inl (cI E, N, .inl (fun _ => 0)))]) rfl dX3_init_12 ?_
  exact g_cend (fun _ => q1) C hQ rfl ⟨by decide, by show 0 + N ≤ 240; omega⟩ dX3_init_15
abbrev r_X0_init : Room := { frames := 4, cells := 4, slots := 484, locals := 81 }
theorem m_X0_init_0 : Cond.methodLink RX0 3 objectInit ∈ wsX0_init := by decide +kernel
theorem m_X0_init_1 : Cond.instanceMethod objectInit ∈ wsX0_init := by decide +kernel
theorem m_X0_init_2 : Cond.code objectInit ⟨#[0xb1]⟩ 1 none ∈ wsX0_init := by decide +kernel
theorem i_X0_init_X3 : ∀ w ∈ wsX30, w ∈ wsX0_init := by decide +kernel
theorem m_X0_init_4 : Cond.classLink RX0 9 RX3 ∈ wsX0_init := by decide +kernel
theorem m_X0_init_5 : Cond.instantiable RX3 2 ∈ wsX0_init := by decide +kernel
theorem m_X0_init_6 : Cond.initialized RX3 ∈ wsX0_init := by decide +kernel
theorem m_X0_init_7 : Cond.methodLink RX0 11 yX3_init ∈ wsX0_init := by decide +kernel
theorem m_X0_init_8 : Cond.instanceMethod yX3_init ∈ wsX0_init := by decide +kernel
theorem i_X0_init_X0 : ∀ w ∈ wsX00, w ∈ wsX0_init := by decide +kernel
theorem m_X0_init_10 : Cond.fieldLink RX0 14 "Bookinghouse$Crowd" "times" "LBookinghouse$Row;" ∈ wsX0_init := by decide +kernel
theorem m_X0_init_11 : Cond.fieldLink RX0 20 "Bookinghouse$Crowd" "changes" "LBookinghouse$Row;" ∈ wsX0_init := by decide +kernel
set_option maxHeartbeats 4000000 in
set_option maxRecDepth 100000 in
theorem c_X0_init (E : gE) (h : Nat) : Ci E yX0_init wsX0_init r_X0_init [.ref h] [(h, .inr (2, [.null, .null]))] (fun f => [(h, .inr (2, [.ref (f 1), .ref (f 3)])), ((f 1), .inr (5, [.ref (f 2), .int 0])), ((f 2), .inl (cI E, 240, .inl (fun _ => 0))), ((f 3), .inr (5, [.ref (f 4), .int 0])), ((f 4), .inl (cI E, 240, .inl (fun _ => 0)))]) := by
  refine Ci.of (cc := cX0_init) (nL := 1) (own := RX0) (by decide) rfl rfl (Nat.le_of_ble_eq_true rfl) rfl rfl ?_
  intro X C hQ
  refine g_aload_n C 0 rfl rfl dX0_init_0 ?_
  refine g_objInit C m_X0_init_0 m_X0_init_1 m_X0_init_2 ⟨by decide, Nat.le_of_ble_eq_true rfl⟩ dX0_init_1 ?_
  refine g_aload_n C 0 rfl rfl dX0_init_4 ?_
  refine g_new_X3 C i_X0_init_X3 m_X0_init_4 m_X0_init_5 m_X0_init_6 ⟨by decide, by decide⟩ dX0_init_5 (fun q1 => ?_)
  refine g_dup C rfl dX0_init_8 ?_
  refine g_sipush C (v := 240) (by decide) dX0_init_9 ?_
  refine g_callI (As := [.int 240]) (n9 := 1) (st := [.ref q1, .ref h]) (P := [(h, .inr (2, [.null, .null]))]) C (c_X3_init E q1 240 (N := 240) (by decide) (by decide)) ggX0_init_X3_init rfl rfl m_X0_init_6 m_X0_init_7 m_X0_init_8 (by decide +kernel) rfl ⟨by decide, by decide, by decide, by decide, Nat.le_of_ble_eq_true rfl⟩ rfl dX0_init_12 (fun f2 => ?_)
  refine g_X0_init_times C hQ i_X0_init_X0 m_X0_init_10 0 rfl (ws2 := [(h, .inr (2, [.ref q1, .null])), (q1, .inr (5, [.ref (f2 1), .int 0])), ((f2 1), .inl (cI E, 240, .inl (fun _ => 0)))]) rfl dX0_init_15 ?_
  refine g_aload_n C 0 rfl rfl dX0_init_18 ?_
  refine g_new_X3 C i_X0_init_X3 m_X0_init_4 m_X0_init_5 m_X0_init_6 ⟨by decide, by decide⟩ dX0_init_19 (fun q3 => ?_)
  refine g_dup C rfl dX0_init_22 ?_
  refine g_sipush C (v := 240) (by decide) dX0_init_23 ?_
  refine g_callI (As := [.int 240]) (n9 := 1) (st := [.ref q3, .ref h]) (P := [(h, .inr (2, [.ref q1, .null])), (q1, .inr (5, [.ref (f2 1), .int 0])), ((f2 1), .inl (cI E, 240, .inl (fun _ => 0)))]) C (c_X3_init E q3 240 (N := 240) (by decide) (by decide)) ggX0_init_X3_init rfl rfl m_X0_init_6 m_X0_init_7 m_X0_init_8 (by decide +kernel) rfl ⟨by decide, by decide, by decide, by decide, Nat.le_of_ble_eq_true rfl⟩ rfl dX0_init_26 (fun f4 => ?_)
  refine g_X0_init_changes C hQ i_X0_init_X0 m_X0_init_11 0 rfl (ws2 := [(h, .inr (2, [.ref q1, .ref q3])), (q1, .inr (5, [.ref (f2 1), .int 0])), ((f2 1), .inl (cI E, 240, .inl (fun _ => 0))), (q3, .inr (5, [.ref (f4 1), .int 0])), ((f4 1), .inl (cI E, 240, .inl (fun _ => 0)))]) rfl dX0_init_29 ?_
  exact g_cend (fun j => if j = 0 then h else if j = 1 then q1 else if j = 2 then (f2 1) else if j = 3 then q3 else (f4 1)) C hQ rfl ⟨by decide, by decide⟩ dX0_init_32
abbrev r_X2_init : Room := { frames := 4, cells := 10, slots := 1210, locals := 81 }
theorem m_X2_init_0 : Cond.methodLink RX2 3 objectInit ∈ wsX2_init := by decide +kernel
theorem m_X2_init_1 : Cond.instanceMethod objectInit ∈ wsX2_init := by decide +kernel
theorem m_X2_init_2 : Cond.code objectInit ⟨#[0xb1]⟩ 1 none ∈ wsX2_init := by decide +kernel
theorem i_X2_init_X3 : ∀ w ∈ wsX30, w ∈ wsX2_init := by decide +kernel
theorem m_X2_init_4 : Cond.classLink RX2 9 RX3 ∈ wsX2_init := by decide +kernel
theorem m_X2_init_5 : Cond.instantiable RX3 2 ∈ wsX2_init := by decide +kernel
theorem m_X2_init_6 : Cond.initialized RX3 ∈ wsX2_init := by decide +kernel
theorem m_X2_init_7 : Cond.methodLink RX2 11 yX3_init ∈ wsX2_init := by decide +kernel
theorem m_X2_init_8 : Cond.instanceMethod yX3_init ∈ wsX2_init := by decide +kernel
theorem i_X2_init_X2 : ∀ w ∈ wsX20, w ∈ wsX2_init := by decide +kernel
theorem m_X2_init_10 : Cond.fieldLink RX2 14 "Bookinghouse$Ledger" "times" "LBookinghouse$Row;" ∈ wsX2_init := by decide +kernel
theorem m_X2_init_11 : Cond.fieldLink RX2 20 "Bookinghouse$Ledger" "spans" "LBookinghouse$Row;" ∈ wsX2_init := by decide +kernel
theorem m_X2_init_12 : Cond.fieldLink RX2 23 "Bookinghouse$Ledger" "weights" "LBookinghouse$Row;" ∈ wsX2_init := by decide +kernel
theorem m_X2_init_13 : Cond.fieldLink RX2 26 "Bookinghouse$Ledger" "homes" "LBookinghouse$Row;" ∈ wsX2_init := by decide +kernel
theorem m_X2_init_14 : Cond.fieldLink RX2 29 "Bookinghouse$Ledger" "states" "LBookinghouse$Row;" ∈ wsX2_init := by decide +kernel
set_option maxHeartbeats 4000000 in
set_option maxRecDepth 100000 in
theorem c_X2_init (E : gE) (h : Nat) : Ci E yX2_init wsX2_init r_X2_init [.ref h] [(h, .inr (4, [.null, .null, .null, .null, .null]))] (fun f => [(h, .inr (4, [.ref (f 1), .ref (f 3), .ref (f 5), .ref (f 7), .ref (f 9)])), ((f 1), .inr (5, [.ref (f 2), .int 0])), ((f 2), .inl (cI E, 120, .inl (fun _ => 0))), ((f 3), .inr (5, [.ref (f 4), .int 0])), ((f 4), .inl (cI E, 120, .inl (fun _ => 0))), ((f 5), .inr (5, [.ref (f 6), .int 0])), ((f 6), .inl (cI E, 120, .inl (fun _ => 0))), ((f 7), .inr (5, [.ref (f 8), .int 0])), ((f 8), .inl (cI E, 120, .inl (fun _ => 0))), ((f 9), .inr (5, [.ref (f 10), .int 0])), ((f 10), .inl (cI E, 120, .inl (fun _ => 0)))]) := by
  refine Ci.of (cc := cX2_init) (nL := 1) (own := RX2) (by decide) rfl rfl (Nat.le_of_ble_eq_true rfl) rfl rfl ?_
  intro X C hQ
  refine g_aload_n C 0 rfl rfl dX2_init_0 ?_
  refine g_objInit C m_X2_init_0 m_X2_init_1 m_X2_init_2 ⟨by decide, Nat.le_of_ble_eq_true rfl⟩ dX2_init_1 ?_
  refine g_aload_n C 0 rfl rfl dX2_init_4 ?_
  refine g_new_X3 C i_X2_init_X3 m_X2_init_4 m_X2_init_5 m_X2_init_6 ⟨by decide, by decide⟩ dX2_init_5 (fun q1 => ?_)
  refine g_dup C rfl dX2_init_8 ?_
  refine g_bipush C (v := 120) (by decide) dX2_init_9 ?_
  refine g_callI (As := [.int 120]) (n9 := 1) (st := [.ref q1, .ref h]) (P := [(h, .inr (4, [.null, .null, .null, .null, .null]))]) C (c_X3_init E q1 120 (N := 120) (by decide) (by decide)) ggX2_init_X3_init rfl rfl m_X2_init_6 m_X2_init_7 m_X2_init_8 (by decide +kernel) rfl ⟨by decide, by decide, by decide, by decide, Nat.le_of_ble_eq_true rfl⟩ rfl dX2_init_11 (fun f2 => ?_)
  refine g_X2_init_times C hQ i_X2_init_X2 m_X2_init_10 0 rfl (ws2 := [(h, .inr (4, [.ref q1, .null, .null, .null, .null])), (q1, .inr (5, [.ref (f2 1), .int 0])), ((f2 1), .inl (cI E, 120, .inl (fun _ => 0)))]) rfl dX2_init_14 ?_
  refine g_aload_n C 0 rfl rfl dX2_init_17 ?_
  refine g_new_X3 C i_X2_init_X3 m_X2_init_4 m_X2_init_5 m_X2_init_6 ⟨by decide, by decide⟩ dX2_init_18 (fun q3 => ?_)
  refine g_dup C rfl dX2_init_21 ?_
  refine g_bipush C (v := 120) (by decide) dX2_init_22 ?_
  refine g_callI (As := [.int 120]) (n9 := 1) (st := [.ref q3, .ref h]) (P := [(h, .inr (4, [.ref q1, .null, .null, .null, .null])), (q1, .inr (5, [.ref (f2 1), .int 0])), ((f2 1), .inl (cI E, 120, .inl (fun _ => 0)))]) C (c_X3_init E q3 120 (N := 120) (by decide) (by decide)) ggX2_init_X3_init rfl rfl m_X2_init_6 m_X2_init_7 m_X2_init_8 (by decide +kernel) rfl ⟨by decide, by decide, by decide, by decide, Nat.le_of_ble_eq_true rfl⟩ rfl dX2_init_24 (fun f4 => ?_)
  refine g_X2_init_spans C hQ i_X2_init_X2 m_X2_init_11 0 rfl (ws2 := [(h, .inr (4, [.ref q1, .ref q3, .null, .null, .null])), (q1, .inr (5, [.ref (f2 1), .int 0])), ((f2 1), .inl (cI E, 120, .inl (fun _ => 0))), (q3, .inr (5, [.ref (f4 1), .int 0])), ((f4 1), .inl (cI E, 120, .inl (fun _ => 0)))]) rfl dX2_init_27 ?_
  refine g_aload_n C 0 rfl rfl dX2_init_30 ?_
  refine g_new_X3 C i_X2_init_X3 m_X2_init_4 m_X2_init_5 m_X2_init_6 ⟨by decide, by decide⟩ dX2_init_31 (fun q5 => ?_)
  refine g_dup C rfl dX2_init_34 ?_
  refine g_bipush C (v := 120) (by decide) dX2_init_35 ?_
  refine g_callI (As := [.int 120]) (n9 := 1) (st := [.ref q5, .ref h]) (P := [(h, .inr (4, [.ref q1, .ref q3, .null, .null, .null])), (q1, .inr (5, [.ref (f2 1), .int 0])), ((f2 1), .inl (cI E, 120, .inl (fun _ => 0))), (q3, .inr (5, [.ref (f4 1), .int 0])), ((f4 1), .inl (cI E, 120, .inl (fun _ => 0)))]) C (c_X3_init E q5 120 (N := 120) (by decide) (by decide)) ggX2_init_X3_init rfl rfl m_X2_init_6 m_X2_init_7 m_X2_init_8 (by decide +kernel) rfl ⟨by decide, by decide, by decide, by decide, Nat.le_of_ble_eq_true rfl⟩ rfl dX2_init_37 (fun f6 => ?_)
  refine g_X2_init_weights C hQ i_X2_init_X2 m_X2_init_12 0 rfl (ws2 := [(h, .inr (4, [.ref q1, .ref q3, .ref q5, .null, .null])), (q1, .inr (5, [.ref (f2 1), .int 0])), ((f2 1), .inl (cI E, 120, .inl (fun _ => 0))), (q3, .inr (5, [.ref (f4 1), .int 0])), ((f4 1), .inl (cI E, 120, .inl (fun _ => 0))), (q5, .inr (5, [.ref (f6 1), .int 0])), ((f6 1), .inl (cI E, 120, .inl (fun _ => 0)))]) rfl dX2_init_40 ?_
  refine g_aload_n C 0 rfl rfl dX2_init_43 ?_
  refine g_new_X3 C i_X2_init_X3 m_X2_init_4 m_X2_init_5 m_X2_init_6 ⟨by decide, by decide⟩ dX2_init_44 (fun q7 => ?_)
  refine g_dup C rfl dX2_init_47 ?_
  refine g_bipush C (v := 120) (by decide) dX2_init_48 ?_
  refine g_callI (As := [.int 120]) (n9 := 1) (st := [.ref q7, .ref h]) (P := [(h, .inr (4, [.ref q1, .ref q3, .ref q5, .null, .null])), (q1, .inr (5, [.ref (f2 1), .int 0])), ((f2 1), .inl (cI E, 120, .inl (fun _ => 0))), (q3, .inr (5, [.ref (f4 1), .int 0])), ((f4 1), .inl (cI E, 120, .inl (fun _ => 0))), (q5, .inr (5, [.ref (f6 1), .int 0])), ((f6 1), .inl (cI E, 120, .inl (fun _ => 0)))]) C (c_X3_init E q7 120 (N := 120) (by decide) (by decide)) ggX2_init_X3_init rfl rfl m_X2_init_6 m_X2_init_7 m_X2_init_8 (by decide +kernel) rfl ⟨by decide, by decide, by decide, by decide, Nat.le_of_ble_eq_true rfl⟩ rfl dX2_init_50 (fun f8 => ?_)
  refine g_X2_init_homes C hQ i_X2_init_X2 m_X2_init_13 0 rfl (ws2 := [(h, .inr (4, [.ref q1, .ref q3, .ref q5, .ref q7, .null])), (q1, .inr (5, [.ref (f2 1), .int 0])), ((f2 1), .inl (cI E, 120, .inl (fun _ => 0))), (q3, .inr (5, [.ref (f4 1), .int 0])), ((f4 1), .inl (cI E, 120, .inl (fun _ => 0))), (q5, .inr (5, [.ref (f6 1), .int 0])), ((f6 1), .inl (cI E, 120, .inl (fun _ => 0))), (q7, .inr (5, [.ref (f8 1), .int 0])), ((f8 1), .inl (cI E, 120, .inl (fun _ => 0)))]) rfl dX2_init_53 ?_
  refine g_aload_n C 0 rfl rfl dX2_init_56 ?_
  refine g_new_X3 C i_X2_init_X3 m_X2_init_4 m_X2_init_5 m_X2_init_6 ⟨by decide, by decide⟩ dX2_init_57 (fun q9 => ?_)
  refine g_dup C rfl dX2_init_60 ?_
  refine g_bipush C (v := 120) (by decide) dX2_init_61 ?_
  refine g_callI (As := [.int 120]) (n9 := 1) (st := [.ref q9, .ref h]) (P := [(h, .inr (4, [.ref q1, .ref q3, .ref q5, .ref q7, .null])), (q1, .inr (5, [.ref (f2 1), .int 0])), ((f2 1), .inl (cI E, 120, .inl (fun _ => 0))), (q3, .inr (5, [.ref (f4 1), .int 0])), ((f4 1), .inl (cI E, 120, .inl (fun _ => 0))), (q5, .inr (5, [.ref (f6 1), .int 0])), ((f6 1), .inl (cI E, 120, .inl (fun _ => 0))), (q7, .inr (5, [.ref (f8 1), .int 0])), ((f8 1), .inl (cI E, 120, .inl (fun _ => 0)))]) C (c_X3_init E q9 120 (N := 120) (by decide) (by decide)) ggX2_init_X3_init rfl rfl m_X2_init_6 m_X2_init_7 m_X2_init_8 (by decide +kernel) rfl ⟨by decide, by decide, by decide, by decide, Nat.le_of_ble_eq_true rfl⟩ rfl dX2_init_63 (fun f10 => ?_)
  refine g_X2_init_states C hQ i_X2_init_X2 m_X2_init_14 0 rfl (ws2 := [(h, .inr (4, [.ref q1, .ref q3, .ref q5, .ref q7, .ref q9])), (q1, .inr (5, [.ref (f2 1), .int 0])), ((f2 1), .inl (cI E, 120, .inl (fun _ => 0))), (q3, .inr (5, [.ref (f4 1), .int 0])), ((f4 1), .inl (cI E, 120, .inl (fun _ => 0))), (q5, .inr (5, [.ref (f6 1), .int 0])), ((f6 1), .inl (cI E, 120, .inl (fun _ => 0))), (q7, .inr (5, [.ref (f8 1), .int 0])), ((f8 1), .inl (cI E, 120, .inl (fun _ => 0))), (q9, .inr (5, [.ref (f10 1), .int 0])), ((f10 1), .inl (cI E, 120, .inl (fun _ => 0)))]) rfl dX2_init_66 ?_
  exact g_cend (fun j => if j = 0 then h else if j = 1 then q1 else if j = 2 then (f2 1) else if j = 3 then q3 else if j = 4 then (f4 1) else if j = 5 then q5 else if j = 6 then (f6 1) else if j = 7 then q7 else if j = 8 then (f8 1) else if j = 9 then q9 else (f10 1)) C hQ rfl ⟨by decide, by decide⟩ dX2_init_69
abbrev r_X1_init : Room := { frames := 5, cells := 9, slots := 970, locals := 101 }
theorem m_X1_init_0 : Cond.methodLink RX1 3 objectInit ∈ wsX1_init := by decide +kernel
theorem m_X1_init_1 : Cond.instanceMethod objectInit ∈ wsX1_init := by decide +kernel
theorem m_X1_init_2 : Cond.code objectInit ⟨#[0xb1]⟩ 1 none ∈ wsX1_init := by decide +kernel
theorem i_X1_init_X3 : ∀ w ∈ wsX30, w ∈ wsX1_init := by decide +kernel
theorem m_X1_init_4 : Cond.classLink RX1 9 RX3 ∈ wsX1_init := by decide +kernel
theorem m_X1_init_5 : Cond.instantiable RX3 2 ∈ wsX1_init := by decide +kernel
theorem m_X1_init_6 : Cond.initialized RX3 ∈ wsX1_init := by decide +kernel
theorem m_X1_init_7 : Cond.methodLink RX1 11 yX3_init ∈ wsX1_init := by decide +kernel
theorem m_X1_init_8 : Cond.instanceMethod yX3_init ∈ wsX1_init := by decide +kernel
theorem i_X1_init_X1 : ∀ w ∈ wsX10, w ∈ wsX1_init := by decide +kernel
theorem m_X1_init_10 : Cond.fieldLink RX1 14 "Bookinghouse$House" "queue" "LBookinghouse$Row;" ∈ wsX1_init := by decide +kernel
theorem m_X1_init_11 : Cond.fieldLink RX1 20 "Bookinghouse$House" "past" "LBookinghouse$Row;" ∈ wsX1_init := by decide +kernel
theorem i_X1_init_X0 : ∀ w ∈ wsX00, w ∈ wsX1_init := by decide +kernel
theorem m_X1_init_13 : Cond.classLink RX1 23 RX0 ∈ wsX1_init := by decide +kernel
theorem m_X1_init_14 : Cond.instantiable RX0 2 ∈ wsX1_init := by decide +kernel
theorem m_X1_init_15 : Cond.initialized RX0 ∈ wsX1_init := by decide +kernel
theorem m_X1_init_16 : Cond.instanceMethod yX0_init ∈ wsX1_init := by decide +kernel
theorem m_X1_init_17 : Cond.fieldLink RX1 26 "Bookinghouse$House" "crowd" "LBookinghouse$Crowd;" ∈ wsX1_init := by decide +kernel
theorem m_X1_init_18 : Cond.fieldLink RX1 30 "Bookinghouse$House" "number" "I" ∈ wsX1_init := by decide +kernel
set_option maxHeartbeats 4000000 in
set_option maxRecDepth 100000 in
theorem c_X1_init (E : gE) (h : Nat) (p1 : Int32) : Ci E yX1_init wsX1_init r_X1_init [.ref h, .int p1] [(h, .inr (3, [.int 0, .null, .null, .null, .int 0]))] (fun f => [(h, .inr (3, [.int p1, .ref (f 1), .ref (f 3), .ref (f 5), .int 0])), ((f 1), .inr (5, [.ref (f 2), .int 0])), ((f 2), .inl (cI E, 48, .inl (fun _ => 0))), ((f 3), .inr (5, [.ref (f 4), .int 0])), ((f 4), .inl (cI E, 120, .inl (fun _ => 0))), ((f 5), .inr (2, [.ref (f 6), .ref (f 8)])), ((f 6), .inr (5, [.ref (f 7), .int 0])), ((f 7), .inl (cI E, 240, .inl (fun _ => 0))), ((f 8), .inr (5, [.ref (f 9), .int 0])), ((f 9), .inl (cI E, 240, .inl (fun _ => 0)))]) := by
  refine Ci.of (cc := cX1_init) (nL := 2) (own := RX1) (by decide) rfl rfl (Nat.le_of_ble_eq_true rfl) rfl rfl ?_
  intro X C hQ
  refine g_aload_n C 0 rfl rfl dX1_init_0 ?_
  refine g_objInit C m_X1_init_0 m_X1_init_1 m_X1_init_2 ⟨by decide, Nat.le_of_ble_eq_true rfl⟩ dX1_init_1 ?_
  refine g_aload_n C 0 rfl rfl dX1_init_4 ?_
  refine g_new_X3 C i_X1_init_X3 m_X1_init_4 m_X1_init_5 m_X1_init_6 ⟨by decide, by decide⟩ dX1_init_5 (fun q1 => ?_)
  refine g_dup C rfl dX1_init_8 ?_
  refine g_bipush C (v := 48) (by decide) dX1_init_9 ?_
  refine g_callI (As := [.int 48]) (n9 := 1) (st := [.ref q1, .ref h]) (P := [(h, .inr (3, [.int 0, .null, .null, .null, .int 0]))]) C (c_X3_init E q1 48 (N := 48) (by decide) (by decide)) ggX1_init_X3_init rfl rfl m_X1_init_6 m_X1_init_7 m_X1_init_8 (by decide +kernel) rfl ⟨by decide, by decide, by decide, by decide, Nat.le_of_ble_eq_true rfl⟩ rfl dX1_init_11 (fun f2 => ?_)
  refine g_X1_init_queue C hQ i_X1_init_X1 m_X1_init_10 0 rfl (ws2 := [(h, .inr (3, [.int 0, .ref q1, .null, .null, .int 0])), (q1, .inr (5, [.ref (f2 1), .int 0])), ((f2 1), .inl (cI E, 48, .inl (fun _ => 0)))]) rfl dX1_init_14 ?_
  refine g_aload_n C 0 rfl rfl dX1_init_17 ?_
  refine g_new_X3 C i_X1_init_X3 m_X1_init_4 m_X1_init_5 m_X1_init_6 ⟨by decide, by decide⟩ dX1_init_18 (fun q3 => ?_)
  refine g_dup C rfl dX1_init_21 ?_
  refine g_bipush C (v := 120) (by decide) dX1_init_22 ?_
  refine g_callI (As := [.int 120]) (n9 := 1) (st := [.ref q3, .ref h]) (P := [(h, .inr (3, [.int 0, .ref q1, .null, .null, .int 0])), (q1, .inr (5, [.ref (f2 1), .int 0])), ((f2 1), .inl (cI E, 48, .inl (fun _ => 0)))]) C (c_X3_init E q3 120 (N := 120) (by decide) (by decide)) ggX1_init_X3_init rfl rfl m_X1_init_6 m_X1_init_7 m_X1_init_8 (by decide +kernel) rfl ⟨by decide, by decide, by decide, by decide, Nat.le_of_ble_eq_true rfl⟩ rfl dX1_init_24 (fun f4 => ?_)
  refine g_X1_init_past C hQ i_X1_init_X1 m_X1_init_11 0 rfl (ws2 := [(h, .inr (3, [.int 0, .ref q1, .ref q3, .null, .int 0])), (q1, .inr (5, [.ref (f2 1), .int 0])), ((f2 1), .inl (cI E, 48, .inl (fun _ => 0))), (q3, .inr (5, [.ref (f4 1), .int 0])), ((f4 1), .inl (cI E, 120, .inl (fun _ => 0)))]) rfl dX1_init_27 ?_
  refine g_aload_n C 0 rfl rfl dX1_init_30 ?_
  refine g_new_X0 C i_X1_init_X0 m_X1_init_13 m_X1_init_14 m_X1_init_15 ⟨by decide, by decide⟩ dX1_init_31 (fun q5 => ?_)
  refine g_dup C rfl dX1_init_34 ?_
  refine g_callIN (As := []) (n9 := 0) (st := [.ref q5, .ref h]) (P := [(h, .inr (3, [.int 0, .ref q1, .ref q3, .null, .int 0])), (q1, .inr (5, [.ref (f2 1), .int 0])), ((f2 1), .inl (cI E, 48, .inl (fun _ => 0))), (q3, .inr (5, [.ref (f4 1), .int 0])), ((f4 1), .inl (cI E, 120, .inl (fun _ => 0)))]) C (c_X0_init E q5) ggX1_init_X0_init rfl rfl m_X1_init_15 (by decide +kernel) rfl m_X1_init_16 (by decide +kernel) rfl ⟨by decide, by decide, by decide, by decide, Nat.le_of_ble_eq_true rfl⟩ rfl dX1_init_35 (fun f6 => ?_)
  refine g_X1_init_crowd C hQ i_X1_init_X1 m_X1_init_17 0 rfl (ws2 := [(h, .inr (3, [.int 0, .ref q1, .ref q3, .ref q5, .int 0])), (q1, .inr (5, [.ref (f2 1), .int 0])), ((f2 1), .inl (cI E, 48, .inl (fun _ => 0))), (q3, .inr (5, [.ref (f4 1), .int 0])), ((f4 1), .inl (cI E, 120, .inl (fun _ => 0))), (q5, .inr (2, [.ref (f6 1), .ref (f6 3)])), ((f6 1), .inr (5, [.ref (f6 2), .int 0])), ((f6 2), .inl (cI E, 240, .inl (fun _ => 0))), ((f6 3), .inr (5, [.ref (f6 4), .int 0])), ((f6 4), .inl (cI E, 240, .inl (fun _ => 0)))]) rfl dX1_init_38 ?_
  refine g_aload_n C 0 rfl rfl dX1_init_41 ?_
  refine g_iload_n C 1 rfl rfl dX1_init_42 ?_
  refine g_X1_init_number C hQ i_X1_init_X1 m_X1_init_18 0 rfl (ws2 := [(h, .inr (3, [.int p1, .ref q1, .ref q3, .ref q5, .int 0])), (q1, .inr (5, [.ref (f2 1), .int 0])), ((f2 1), .inl (cI E, 48, .inl (fun _ => 0))), (q3, .inr (5, [.ref (f4 1), .int 0])), ((f4 1), .inl (cI E, 120, .inl (fun _ => 0))), (q5, .inr (2, [.ref (f6 1), .ref (f6 3)])), ((f6 1), .inr (5, [.ref (f6 2), .int 0])), ((f6 2), .inl (cI E, 240, .inl (fun _ => 0))), ((f6 3), .inr (5, [.ref (f6 4), .int 0])), ((f6 4), .inl (cI E, 240, .inl (fun _ => 0)))]) rfl dX1_init_43 ?_
  exact g_cend (fun j => if j = 0 then h else if j = 1 then q1 else if j = 2 then (f2 1) else if j = 3 then q3 else if j = 4 then (f4 1) else if j = 5 then q5 else if j = 6 then (f6 1) else if j = 7 then (f6 2) else if j = 8 then (f6 3) else (f6 4)) C hQ rfl ⟨by decide, by decide⟩ dX1_init_46
abbrev r_X4_init : Room := { frames := 6, cells := 57, slots := 5605, locals := 122 }
theorem m_X4_init_0 : Cond.methodLink RX4 1 objectInit ∈ wsX4_init := by decide +kernel
theorem m_X4_init_1 : Cond.instanceMethod objectInit ∈ wsX4_init := by decide +kernel
theorem m_X4_init_2 : Cond.code objectInit ⟨#[0xb1]⟩ 1 none ∈ wsX4_init := by decide +kernel
theorem i_X4_init_X2 : ∀ w ∈ wsX20, w ∈ wsX4_init := by decide +kernel
theorem m_X4_init_4 : Cond.classLink RX4 7 RX2 ∈ wsX4_init := by decide +kernel
theorem m_X4_init_5 : Cond.instantiable RX2 5 ∈ wsX4_init := by decide +kernel
theorem m_X4_init_6 : Cond.initialized RX2 ∈ wsX4_init := by decide +kernel
theorem m_X4_init_7 : Cond.instanceMethod yX2_init ∈ wsX4_init := by decide +kernel
theorem i_X4_init_X4 : ∀ w ∈ wsX40, w ∈ wsX4_init := by decide +kernel
theorem m_X4_init_9 : Cond.fieldLink RX4 10 "Bookinghouse" "ledger" "LBookinghouse$Ledger;" ∈ wsX4_init := by decide +kernel
theorem m_X4_init_10 : Cond.classLink RX4 16 RX1 ∈ wsX4_init := by decide +kernel
theorem m_X4_init_11 : Cond.fieldLink RX4 18 "Bookinghouse" "houses" "[LBookinghouse$House;" ∈ wsX4_init := by decide +kernel
theorem i_X4_init_X0 : ∀ w ∈ wsX00, w ∈ wsX4_init := by decide +kernel
theorem m_X4_init_13 : Cond.classLink RX4 22 RX0 ∈ wsX4_init := by decide +kernel
theorem m_X4_init_14 : Cond.instantiable RX0 2 ∈ wsX4_init := by decide +kernel
theorem m_X4_init_15 : Cond.initialized RX0 ∈ wsX4_init := by decide +kernel
theorem m_X4_init_16 : Cond.instanceMethod yX0_init ∈ wsX4_init := by decide +kernel
theorem m_X4_init_17 : Cond.fieldLink RX4 25 "Bookinghouse" "rebuilt" "LBookinghouse$Crowd;" ∈ wsX4_init := by decide +kernel
theorem i_X4_init_X1 : ∀ w ∈ wsX10, w ∈ wsX4_init := by decide +kernel
theorem m_X4_init_19 : Cond.instantiable RX1 5 ∈ wsX4_init := by decide +kernel
theorem m_X4_init_20 : Cond.initialized RX1 ∈ wsX4_init := by decide +kernel
theorem m_X4_init_21 : Cond.methodLink RX4 29 yX1_init ∈ wsX4_init := by decide +kernel
theorem m_X4_init_22 : Cond.instanceMethod yX1_init ∈ wsX4_init := by decide +kernel
set_option maxHeartbeats 4000000 in
set_option maxRecDepth 100000 in
theorem c_X4_init (E : gE) (h : Nat) : Ci E yX4_init wsX4_init r_X4_init [.ref h] [(h, .inr (6, [.null, .null, .null]))] (fun f => [(h, .inr (6, [.ref (f 1), .ref (f 12), .ref (f 13)])), ((f 1), .inr (4, [.ref (f 2), .ref (f 4), .ref (f 6), .ref (f 8), .ref (f 10)])), ((f 2), .inr (5, [.ref (f 3), .int 0])), ((f 3), .inl (cI E, 120, .inl (fun _ => 0))), ((f 4), .inr (5, [.ref (f 5), .int 0])), ((f 5), .inl (cI E, 120, .inl (fun _ => 0))), ((f 6), .inr (5, [.ref (f 7), .int 0])), ((f 7), .inl (cI E, 120, .inl (fun _ => 0))), ((f 8), .inr (5, [.ref (f 9), .int 0])), ((f 9), .inl (cI E, 120, .inl (fun _ => 0))), ((f 10), .inr (5, [.ref (f 11), .int 0])), ((f 11), .inl (cI E, 120, .inl (fun _ => 0))), ((f 12), .inl (cH E, 4, .inr (.inr (.inr (.inr (va_up (va_up (va_up (va_up (fun _ => none) (0 : Int32).toNatClampNeg (some (f 18))) (1 : Int32).toNatClampNeg (some (f 28))) (2 : Int32).toNatClampNeg (some (f 38))) (3 : Int32).toNatClampNeg (some (f 48)))))))), ((f 13), .inr (2, [.ref (f 14), .ref (f 16)])), ((f 14), .inr (5, [.ref (f 15), .int 0])), ((f 15), .inl (cI E, 240, .inl (fun _ => 0))), ((f 16), .inr (5, [.ref (f 17), .int 0])), ((f 17), .inl (cI E, 240, .inl (fun _ => 0))), ((f 18), .inr (3, [.int 0, .ref (f 19), .ref (f 21), .ref (f 23), .int 0])), ((f 19), .inr (5, [.ref (f 20), .int 0])), ((f 20), .inl (cI E, 48, .inl (fun _ => 0))), ((f 21), .inr (5, [.ref (f 22), .int 0])), ((f 22), .inl (cI E, 120, .inl (fun _ => 0))), ((f 23), .inr (2, [.ref (f 24), .ref (f 26)])), ((f 24), .inr (5, [.ref (f 25), .int 0])), ((f 25), .inl (cI E, 240, .inl (fun _ => 0))), ((f 26), .inr (5, [.ref (f 27), .int 0])), ((f 27), .inl (cI E, 240, .inl (fun _ => 0))), ((f 28), .inr (3, [.int 1, .ref (f 29), .ref (f 31), .ref (f 33), .int 0])), ((f 29), .inr (5, [.ref (f 30), .int 0])), ((f 30), .inl (cI E, 48, .inl (fun _ => 0))), ((f 31), .inr (5, [.ref (f 32), .int 0])), ((f 32), .inl (cI E, 120, .inl (fun _ => 0))), ((f 33), .inr (2, [.ref (f 34), .ref (f 36)])), ((f 34), .inr (5, [.ref (f 35), .int 0])), ((f 35), .inl (cI E, 240, .inl (fun _ => 0))), ((f 36), .inr (5, [.ref (f 37), .int 0])), ((f 37), .inl (cI E, 240, .inl (fun _ => 0))), ((f 38), .inr (3, [.int 2, .ref (f 39), .ref (f 41), .ref (f 43), .int 0])), ((f 39), .inr (5, [.ref (f 40), .int 0])), ((f 40), .inl (cI E, 48, .inl (fun _ => 0))), ((f 41), .inr (5, [.ref (f 42), .int 0])), ((f 42), .inl (cI E, 120, .inl (fun _ => 0))), ((f 43), .inr (2, [.ref (f 44), .ref (f 46)])), ((f 44), .inr (5, [.ref (f 45), .int 0])), ((f 45), .inl (cI E, 240, .inl (fun _ => 0))), ((f 46), .inr (5, [.ref (f 47), .int 0])), ((f 47), .inl (cI E, 240, .inl (fun _ => 0))), ((f 48), .inr (3, [.int 3, .ref (f 49), .ref (f 51), .ref (f 53), .int 0])), ((f 49), .inr (5, [.ref (f 50), .int 0])), ((f 50), .inl (cI E, 48, .inl (fun _ => 0))), ((f 51), .inr (5, [.ref (f 52), .int 0])), ((f 52), .inl (cI E, 120, .inl (fun _ => 0))), ((f 53), .inr (2, [.ref (f 54), .ref (f 56)])), ((f 54), .inr (5, [.ref (f 55), .int 0])), ((f 55), .inl (cI E, 240, .inl (fun _ => 0))), ((f 56), .inr (5, [.ref (f 57), .int 0])), ((f 57), .inl (cI E, 240, .inl (fun _ => 0)))]) := by
  refine Ci.of (cc := cX4_init) (nL := 2) (own := RX4) (by decide) rfl rfl (Nat.le_of_ble_eq_true rfl) rfl rfl ?_
  intro X C hQ
  refine g_aload_n C 0 rfl rfl dX4_init_0 ?_
  refine g_objInit C m_X4_init_0 m_X4_init_1 m_X4_init_2 ⟨by decide, Nat.le_of_ble_eq_true rfl⟩ dX4_init_1 ?_
  refine g_aload_n C 0 rfl rfl dX4_init_4 ?_
  refine g_new_X2 C i_X4_init_X2 m_X4_init_4 m_X4_init_5 m_X4_init_6 ⟨by decide, by decide⟩ dX4_init_5 (fun q1 => ?_)
  refine g_dup C rfl dX4_init_8 ?_
  refine g_callIN (As := []) (n9 := 0) (st := [.ref q1, .ref h]) (P := [(h, .inr (6, [.null, .null, .null]))]) C (c_X2_init E q1) ggX4_init_X2_init rfl rfl m_X4_init_6 (by decide +kernel) rfl m_X4_init_7 (by decide +kernel) rfl ⟨by decide, by decide, by decide, by decide, Nat.le_of_ble_eq_true rfl⟩ rfl dX4_init_9 (fun f2 => ?_)
  refine g_X4_init_ledger C hQ i_X4_init_X4 m_X4_init_9 0 rfl (ws2 := [(h, .inr (6, [.ref q1, .null, .null])), (q1, .inr (4, [.ref (f2 1), .ref (f2 3), .ref (f2 5), .ref (f2 7), .ref (f2 9)])), ((f2 1), .inr (5, [.ref (f2 2), .int 0])), ((f2 2), .inl (cI E, 120, .inl (fun _ => 0))), ((f2 3), .inr (5, [.ref (f2 4), .int 0])), ((f2 4), .inl (cI E, 120, .inl (fun _ => 0))), ((f2 5), .inr (5, [.ref (f2 6), .int 0])), ((f2 6), .inl (cI E, 120, .inl (fun _ => 0))), ((f2 7), .inr (5, [.ref (f2 8), .int 0])), ((f2 8), .inl (cI E, 120, .inl (fun _ => 0))), ((f2 9), .inr (5, [.ref (f2 10), .int 0])), ((f2 10), .inl (cI E, 120, .inl (fun _ => 0)))]) rfl dX4_init_12 ?_
  refine g_aload_n C 0 rfl rfl dX4_init_15 ?_
  refine g_iconst C (v := 4) (by decide) dX4_init_16 ?_
  refine g_newq (N := 4) C m_X4_init_10 (by decide) (by decide) ⟨by decide, by decide⟩ dX4_init_17 (fun q3 => ?_)
  refine g_X4_init_houses C hQ i_X4_init_X4 m_X4_init_11 0 rfl (ws2 := [(h, .inr (6, [.ref q1, .ref q3, .null])), (q1, .inr (4, [.ref (f2 1), .ref (f2 3), .ref (f2 5), .ref (f2 7), .ref (f2 9)])), ((f2 1), .inr (5, [.ref (f2 2), .int 0])), ((f2 2), .inl (cI E, 120, .inl (fun _ => 0))), ((f2 3), .inr (5, [.ref (f2 4), .int 0])), ((f2 4), .inl (cI E, 120, .inl (fun _ => 0))), ((f2 5), .inr (5, [.ref (f2 6), .int 0])), ((f2 6), .inl (cI E, 120, .inl (fun _ => 0))), ((f2 7), .inr (5, [.ref (f2 8), .int 0])), ((f2 8), .inl (cI E, 120, .inl (fun _ => 0))), ((f2 9), .inr (5, [.ref (f2 10), .int 0])), ((f2 10), .inl (cI E, 120, .inl (fun _ => 0))), (q3, .inl (cH E, 4, .inr (.inr (.inr (.inr (fun _ => none))))))]) rfl dX4_init_20 ?_
  refine g_aload_n C 0 rfl rfl dX4_init_23 ?_
  refine g_new_X0 C i_X4_init_X0 m_X4_init_13 m_X4_init_14 m_X4_init_15 ⟨by decide, by decide⟩ dX4_init_24 (fun q4 => ?_)
  refine g_dup C rfl dX4_init_27 ?_
  refine g_callIN (As := []) (n9 := 0) (st := [.ref q4, .ref h]) (P := [(h, .inr (6, [.ref q1, .ref q3, .null])), (q1, .inr (4, [.ref (f2 1), .ref (f2 3), .ref (f2 5), .ref (f2 7), .ref (f2 9)])), ((f2 1), .inr (5, [.ref (f2 2), .int 0])), ((f2 2), .inl (cI E, 120, .inl (fun _ => 0))), ((f2 3), .inr (5, [.ref (f2 4), .int 0])), ((f2 4), .inl (cI E, 120, .inl (fun _ => 0))), ((f2 5), .inr (5, [.ref (f2 6), .int 0])), ((f2 6), .inl (cI E, 120, .inl (fun _ => 0))), ((f2 7), .inr (5, [.ref (f2 8), .int 0])), ((f2 8), .inl (cI E, 120, .inl (fun _ => 0))), ((f2 9), .inr (5, [.ref (f2 10), .int 0])), ((f2 10), .inl (cI E, 120, .inl (fun _ => 0))), (q3, .inl (cH E, 4, .inr (.inr (.inr (.inr (fun _ => none))))))]) C (c_X0_init E q4) ggX4_init_X0_init rfl rfl m_X4_init_15 (by decide +kernel) rfl m_X4_init_16 (by decide +kernel) rfl ⟨by decide, by decide, by decide, by decide, Nat.le_of_ble_eq_true rfl⟩ rfl dX4_init_28 (fun f5 => ?_)
  refine g_X4_init_rebuilt C hQ i_X4_init_X4 m_X4_init_17 0 rfl (ws2 := [(h, .inr (6, [.ref q1, .ref q3, .ref q4])), (q1, .inr (4, [.ref (f2 1), .ref (f2 3), .ref (f2 5), .ref (f2 7), .ref (f2 9)])), ((f2 1), .inr (5, [.ref (f2 2), .int 0])), ((f2 2), .inl (cI E, 120, .inl (fun _ => 0))), ((f2 3), .inr (5, [.ref (f2 4), .int 0])), ((f2 4), .inl (cI E, 120, .inl (fun _ => 0))), ((f2 5), .inr (5, [.ref (f2 6), .int 0])), ((f2 6), .inl (cI E, 120, .inl (fun _ => 0))), ((f2 7), .inr (5, [.ref (f2 8), .int 0])), ((f2 8), .inl (cI E, 120, .inl (fun _ => 0))), ((f2 9), .inr (5, [.ref (f2 10), .int 0])), ((f2 10), .inl (cI E, 120, .inl (fun _ => 0))), (q3, .inl (cH E, 4, .inr (.inr (.inr (.inr (fun _ => none)))))), (q4, .inr (2, [.ref (f5 1), .ref (f5 3)])), ((f5 1), .inr (5, [.ref (f5 2), .int 0])), ((f5 2), .inl (cI E, 240, .inl (fun _ => 0))), ((f5 3), .inr (5, [.ref (f5 4), .int 0])), ((f5 4), .inl (cI E, 240, .inl (fun _ => 0)))]) rfl dX4_init_31 ?_
  refine g_iconst C (v := 0) (by decide) dX4_init_34 ?_
  refine g_istore_n C (lv2 := [(1, .int 0), (0, .ref h)]) rfl (by decide) rfl dX4_init_35 ?_
  refine g_iload_n C 0 rfl rfl dX4_init_36 ?_
  refine g_aload_n C 1 rfl rfl dX4_init_37 ?_
  refine g_X4_houses C i_X4_init_X4 m_X4_init_11 0 rfl dX4_init_38 ?_
  refine g_alen4 C 12 rfl dX4_init_41 ?_
  refine g_icmp_ge C (tgt := 65) dX4_init_42 (by decide) (fun c9 => absurd c9 (by decide)) (fun c9 => ?_)
  refine g_aload_n C 1 rfl rfl dX4_init_45 ?_
  refine g_X4_houses C i_X4_init_X4 m_X4_init_11 0 rfl dX4_init_46 ?_
  refine g_iload_n C 0 rfl rfl dX4_init_49 ?_
  refine g_new_X1 C i_X4_init_X1 m_X4_init_10 m_X4_init_19 m_X4_init_20 ⟨by decide, by decide⟩ dX4_init_50 (fun q6 => ?_)
  refine g_dup C rfl dX4_init_53 ?_
  refine g_iload_n C 0 rfl rfl dX4_init_54 ?_
  refine g_callI (As := [.int 0]) (n9 := 1) (st := [.ref q6, .int 0, .ref q3]) (P := [(h, .inr (6, [.ref q1, .ref q3, .ref q4])), (q1, .inr (4, [.ref (f2 1), .ref (f2 3), .ref (f2 5), .ref (f2 7), .ref (f2 9)])), ((f2 1), .inr (5, [.ref (f2 2), .int 0])), ((f2 2), .inl (cI E, 120, .inl (fun _ => 0))), ((f2 3), .inr (5, [.ref (f2 4), .int 0])), ((f2 4), .inl (cI E, 120, .inl (fun _ => 0))), ((f2 5), .inr (5, [.ref (f2 6), .int 0])), ((f2 6), .inl (cI E, 120, .inl (fun _ => 0))), ((f2 7), .inr (5, [.ref (f2 8), .int 0])), ((f2 8), .inl (cI E, 120, .inl (fun _ => 0))), ((f2 9), .inr (5, [.ref (f2 10), .int 0])), ((f2 10), .inl (cI E, 120, .inl (fun _ => 0))), (q3, .inl (cH E, 4, .inr (.inr (.inr (.inr (fun _ => none)))))), (q4, .inr (2, [.ref (f5 1), .ref (f5 3)])), ((f5 1), .inr (5, [.ref (f5 2), .int 0])), ((f5 2), .inl (cI E, 240, .inl (fun _ => 0))), ((f5 3), .inr (5, [.ref (f5 4), .int 0])), ((f5 4), .inl (cI E, 240, .inl (fun _ => 0)))]) C (c_X1_init E q6 0) ggX4_init_X1_init rfl rfl m_X4_init_20 m_X4_init_21 m_X4_init_22 (by decide +kernel) rfl ⟨by decide, by decide, by decide, by decide, Nat.le_of_ble_eq_true rfl⟩ rfl dX4_init_55 (fun f7 => ?_)
  refine g_aast C 12 18 rfl rfl (ws2 := [(h, .inr (6, [.ref q1, .ref q3, .ref q4])), (q1, .inr (4, [.ref (f2 1), .ref (f2 3), .ref (f2 5), .ref (f2 7), .ref (f2 9)])), ((f2 1), .inr (5, [.ref (f2 2), .int 0])), ((f2 2), .inl (cI E, 120, .inl (fun _ => 0))), ((f2 3), .inr (5, [.ref (f2 4), .int 0])), ((f2 4), .inl (cI E, 120, .inl (fun _ => 0))), ((f2 5), .inr (5, [.ref (f2 6), .int 0])), ((f2 6), .inl (cI E, 120, .inl (fun _ => 0))), ((f2 7), .inr (5, [.ref (f2 8), .int 0])), ((f2 8), .inl (cI E, 120, .inl (fun _ => 0))), ((f2 9), .inr (5, [.ref (f2 10), .int 0])), ((f2 10), .inl (cI E, 120, .inl (fun _ => 0))), (q3, .inl (cH E, 4, .inr (.inr (.inr (.inr (va_up (fun _ => none) (0 : Int32).toNatClampNeg (some q6))))))), (q4, .inr (2, [.ref (f5 1), .ref (f5 3)])), ((f5 1), .inr (5, [.ref (f5 2), .int 0])), ((f5 2), .inl (cI E, 240, .inl (fun _ => 0))), ((f5 3), .inr (5, [.ref (f5 4), .int 0])), ((f5 4), .inl (cI E, 240, .inl (fun _ => 0))), (q6, .inr (3, [.int 0, .ref (f7 1), .ref (f7 3), .ref (f7 5), .int 0])), ((f7 1), .inr (5, [.ref (f7 2), .int 0])), ((f7 2), .inl (cI E, 48, .inl (fun _ => 0))), ((f7 3), .inr (5, [.ref (f7 4), .int 0])), ((f7 4), .inl (cI E, 120, .inl (fun _ => 0))), ((f7 5), .inr (2, [.ref (f7 6), .ref (f7 8)])), ((f7 6), .inr (5, [.ref (f7 7), .int 0])), ((f7 7), .inl (cI E, 240, .inl (fun _ => 0))), ((f7 8), .inr (5, [.ref (f7 9), .int 0])), ((f7 9), .inl (cI E, 240, .inl (fun _ => 0)))]) rfl (inB_in (by decide +kernel)) dX4_init_58 ?_
  refine g_iinc C (v := 1) 0 rfl (by decide) (lv2 := [(1, .int 1), (0, .ref h)]) rfl (by decide) dX4_init_59 ?_
  refine g_goto C (tgt := 36) dX4_init_62 (by decide) ?_
  refine g_iload_n C 0 rfl rfl dX4_init_36 ?_
  refine g_aload_n C 1 rfl rfl dX4_init_37 ?_
  refine g_X4_houses C i_X4_init_X4 m_X4_init_11 0 rfl dX4_init_38 ?_
  refine g_alen4 C 12 rfl dX4_init_41 ?_
  refine g_icmp_ge C (tgt := 65) dX4_init_42 (by decide) (fun c9 => absurd c9 (by decide)) (fun c9 => ?_)
  refine g_aload_n C 1 rfl rfl dX4_init_45 ?_
  refine g_X4_houses C i_X4_init_X4 m_X4_init_11 0 rfl dX4_init_46 ?_
  refine g_iload_n C 0 rfl rfl dX4_init_49 ?_
  refine g_new_X1 C i_X4_init_X1 m_X4_init_10 m_X4_init_19 m_X4_init_20 ⟨by decide, by decide⟩ dX4_init_50 (fun q8 => ?_)
  refine g_dup C rfl dX4_init_53 ?_
  refine g_iload_n C 0 rfl rfl dX4_init_54 ?_
  refine g_callI (As := [.int 1]) (n9 := 1) (st := [.ref q8, .int 1, .ref q3]) (P := [(h, .inr (6, [.ref q1, .ref q3, .ref q4])), (q1, .inr (4, [.ref (f2 1), .ref (f2 3), .ref (f2 5), .ref (f2 7), .ref (f2 9)])), ((f2 1), .inr (5, [.ref (f2 2), .int 0])), ((f2 2), .inl (cI E, 120, .inl (fun _ => 0))), ((f2 3), .inr (5, [.ref (f2 4), .int 0])), ((f2 4), .inl (cI E, 120, .inl (fun _ => 0))), ((f2 5), .inr (5, [.ref (f2 6), .int 0])), ((f2 6), .inl (cI E, 120, .inl (fun _ => 0))), ((f2 7), .inr (5, [.ref (f2 8), .int 0])), ((f2 8), .inl (cI E, 120, .inl (fun _ => 0))), ((f2 9), .inr (5, [.ref (f2 10), .int 0])), ((f2 10), .inl (cI E, 120, .inl (fun _ => 0))), (q3, .inl (cH E, 4, .inr (.inr (.inr (.inr (va_up (fun _ => none) (0 : Int32).toNatClampNeg (some q6))))))), (q4, .inr (2, [.ref (f5 1), .ref (f5 3)])), ((f5 1), .inr (5, [.ref (f5 2), .int 0])), ((f5 2), .inl (cI E, 240, .inl (fun _ => 0))), ((f5 3), .inr (5, [.ref (f5 4), .int 0])), ((f5 4), .inl (cI E, 240, .inl (fun _ => 0))), (q6, .inr (3, [.int 0, .ref (f7 1), .ref (f7 3), .ref (f7 5), .int 0])), ((f7 1), .inr (5, [.ref (f7 2), .int 0])), ((f7 2), .inl (cI E, 48, .inl (fun _ => 0))), ((f7 3), .inr (5, [.ref (f7 4), .int 0])), ((f7 4), .inl (cI E, 120, .inl (fun _ => 0))), ((f7 5), .inr (2, [.ref (f7 6), .ref (f7 8)])), ((f7 6), .inr (5, [.ref (f7 7), .int 0])), ((f7 7), .inl (cI E, 240, .inl (fun _ => 0))), ((f7 8), .inr (5, [.ref (f7 9), .int 0])), ((f7 9), .inl (cI E, 240, .inl (fun _ => 0)))]) C (c_X1_init E q8 1) ggX4_init_X1_init rfl rfl m_X4_init_20 m_X4_init_21 m_X4_init_22 (by decide +kernel) rfl ⟨by decide, by decide, by decide, by decide, Nat.le_of_ble_eq_true rfl⟩ rfl dX4_init_55 (fun f9 => ?_)
  refine g_aast C 12 28 rfl rfl (ws2 := [(h, .inr (6, [.ref q1, .ref q3, .ref q4])), (q1, .inr (4, [.ref (f2 1), .ref (f2 3), .ref (f2 5), .ref (f2 7), .ref (f2 9)])), ((f2 1), .inr (5, [.ref (f2 2), .int 0])), ((f2 2), .inl (cI E, 120, .inl (fun _ => 0))), ((f2 3), .inr (5, [.ref (f2 4), .int 0])), ((f2 4), .inl (cI E, 120, .inl (fun _ => 0))), ((f2 5), .inr (5, [.ref (f2 6), .int 0])), ((f2 6), .inl (cI E, 120, .inl (fun _ => 0))), ((f2 7), .inr (5, [.ref (f2 8), .int 0])), ((f2 8), .inl (cI E, 120, .inl (fun _ => 0))), ((f2 9), .inr (5, [.ref (f2 10), .int 0])), ((f2 10), .inl (cI E, 120, .inl (fun _ => 0))), (q3, .inl (cH E, 4, .inr (.inr (.inr (.inr (va_up (va_up (fun _ => none) (0 : Int32).toNatClampNeg (some q6)) (1 : Int32).toNatClampNeg (some q8))))))), (q4, .inr (2, [.ref (f5 1), .ref (f5 3)])), ((f5 1), .inr (5, [.ref (f5 2), .int 0])), ((f5 2), .inl (cI E, 240, .inl (fun _ => 0))), ((f5 3), .inr (5, [.ref (f5 4), .int 0])), ((f5 4), .inl (cI E, 240, .inl (fun _ => 0))), (q6, .inr (3, [.int 0, .ref (f7 1), .ref (f7 3), .ref (f7 5), .int 0])), ((f7 1), .inr (5, [.ref (f7 2), .int 0])), ((f7 2), .inl (cI E, 48, .inl (fun _ => 0))), ((f7 3), .inr (5, [.ref (f7 4), .int 0])), ((f7 4), .inl (cI E, 120, .inl (fun _ => 0))), ((f7 5), .inr (2, [.ref (f7 6), .ref (f7 8)])), ((f7 6), .inr (5, [.ref (f7 7), .int 0])), ((f7 7), .inl (cI E, 240, .inl (fun _ => 0))), ((f7 8), .inr (5, [.ref (f7 9), .int 0])), ((f7 9), .inl (cI E, 240, .inl (fun _ => 0))), (q8, .inr (3, [.int 1, .ref (f9 1), .ref (f9 3), .ref (f9 5), .int 0])), ((f9 1), .inr (5, [.ref (f9 2), .int 0])), ((f9 2), .inl (cI E, 48, .inl (fun _ => 0))), ((f9 3), .inr (5, [.ref (f9 4), .int 0])), ((f9 4), .inl (cI E, 120, .inl (fun _ => 0))), ((f9 5), .inr (2, [.ref (f9 6), .ref (f9 8)])), ((f9 6), .inr (5, [.ref (f9 7), .int 0])), ((f9 7), .inl (cI E, 240, .inl (fun _ => 0))), ((f9 8), .inr (5, [.ref (f9 9), .int 0])), ((f9 9), .inl (cI E, 240, .inl (fun _ => 0)))]) rfl (inB_in (by decide +kernel)) dX4_init_58 ?_
  refine g_iinc C (v := 2) 0 rfl (by decide) (lv2 := [(1, .int 2), (0, .ref h)]) rfl (by decide) dX4_init_59 ?_
  refine g_goto C (tgt := 36) dX4_init_62 (by decide) ?_
  refine g_iload_n C 0 rfl rfl dX4_init_36 ?_
  refine g_aload_n C 1 rfl rfl dX4_init_37 ?_
  refine g_X4_houses C i_X4_init_X4 m_X4_init_11 0 rfl dX4_init_38 ?_
  refine g_alen4 C 12 rfl dX4_init_41 ?_
  refine g_icmp_ge C (tgt := 65) dX4_init_42 (by decide) (fun c9 => absurd c9 (by decide)) (fun c9 => ?_)
  refine g_aload_n C 1 rfl rfl dX4_init_45 ?_
  refine g_X4_houses C i_X4_init_X4 m_X4_init_11 0 rfl dX4_init_46 ?_
  refine g_iload_n C 0 rfl rfl dX4_init_49 ?_
  refine g_new_X1 C i_X4_init_X1 m_X4_init_10 m_X4_init_19 m_X4_init_20 ⟨by decide, by decide⟩ dX4_init_50 (fun q10 => ?_)
  refine g_dup C rfl dX4_init_53 ?_
  refine g_iload_n C 0 rfl rfl dX4_init_54 ?_
  refine g_callI (As := [.int 2]) (n9 := 1) (st := [.ref q10, .int 2, .ref q3]) (P := [(h, .inr (6, [.ref q1, .ref q3, .ref q4])), (q1, .inr (4, [.ref (f2 1), .ref (f2 3), .ref (f2 5), .ref (f2 7), .ref (f2 9)])), ((f2 1), .inr (5, [.ref (f2 2), .int 0])), ((f2 2), .inl (cI E, 120, .inl (fun _ => 0))), ((f2 3), .inr (5, [.ref (f2 4), .int 0])), ((f2 4), .inl (cI E, 120, .inl (fun _ => 0))), ((f2 5), .inr (5, [.ref (f2 6), .int 0])), ((f2 6), .inl (cI E, 120, .inl (fun _ => 0))), ((f2 7), .inr (5, [.ref (f2 8), .int 0])), ((f2 8), .inl (cI E, 120, .inl (fun _ => 0))), ((f2 9), .inr (5, [.ref (f2 10), .int 0])), ((f2 10), .inl (cI E, 120, .inl (fun _ => 0))), (q3, .inl (cH E, 4, .inr (.inr (.inr (.inr (va_up (va_up (fun _ => none) (0 : Int32).toNatClampNeg (some q6)) (1 : Int32).toNatClampNeg (some q8))))))), (q4, .inr (2, [.ref (f5 1), .ref (f5 3)])), ((f5 1), .inr (5, [.ref (f5 2), .int 0])), ((f5 2), .inl (cI E, 240, .inl (fun _ => 0))), ((f5 3), .inr (5, [.ref (f5 4), .int 0])), ((f5 4), .inl (cI E, 240, .inl (fun _ => 0))), (q6, .inr (3, [.int 0, .ref (f7 1), .ref (f7 3), .ref (f7 5), .int 0])), ((f7 1), .inr (5, [.ref (f7 2), .int 0])), ((f7 2), .inl (cI E, 48, .inl (fun _ => 0))), ((f7 3), .inr (5, [.ref (f7 4), .int 0])), ((f7 4), .inl (cI E, 120, .inl (fun _ => 0))), ((f7 5), .inr (2, [.ref (f7 6), .ref (f7 8)])), ((f7 6), .inr (5, [.ref (f7 7), .int 0])), ((f7 7), .inl (cI E, 240, .inl (fun _ => 0))), ((f7 8), .inr (5, [.ref (f7 9), .int 0])), ((f7 9), .inl (cI E, 240, .inl (fun _ => 0))), (q8, .inr (3, [.int 1, .ref (f9 1), .ref (f9 3), .ref (f9 5), .int 0])), ((f9 1), .inr (5, [.ref (f9 2), .int 0])), ((f9 2), .inl (cI E, 48, .inl (fun _ => 0))), ((f9 3), .inr (5, [.ref (f9 4), .int 0])), ((f9 4), .inl (cI E, 120, .inl (fun _ => 0))), ((f9 5), .inr (2, [.ref (f9 6), .ref (f9 8)])), ((f9 6), .inr (5, [.ref (f9 7), .int 0])), ((f9 7), .inl (cI E, 240, .inl (fun _ => 0))), ((f9 8), .inr (5, [.ref (f9 9), .int 0])), ((f9 9), .inl (cI E, 240, .inl (fun _ => 0)))]) C (c_X1_init E q10 2) ggX4_init_X1_init rfl rfl m_X4_init_20 m_X4_init_21 m_X4_init_22 (by decide +kernel) rfl ⟨by decide, by decide, by decide, by decide, Nat.le_of_ble_eq_true rfl⟩ rfl dX4_init_55 (fun f11 => ?_)
  refine g_aast C 12 38 rfl rfl (ws2 := [(h, .inr (6, [.ref q1, .ref q3, .ref q4])), (q1, .inr (4, [.ref (f2 1), .ref (f2 3), .ref (f2 5), .ref (f2 7), .ref (f2 9)])), ((f2 1), .inr (5, [.ref (f2 2), .int 0])), ((f2 2), .inl (cI E, 120, .inl (fun _ => 0))), ((f2 3), .inr (5, [.ref (f2 4), .int 0])), ((f2 4), .inl (cI E, 120, .inl (fun _ => 0))), ((f2 5), .inr (5, [.ref (f2 6), .int 0])), ((f2 6), .inl (cI E, 120, .inl (fun _ => 0))), ((f2 7), .inr (5, [.ref (f2 8), .int 0])), ((f2 8), .inl (cI E, 120, .inl (fun _ => 0))), ((f2 9), .inr (5, [.ref (f2 10), .int 0])), ((f2 10), .inl (cI E, 120, .inl (fun _ => 0))), (q3, .inl (cH E, 4, .inr (.inr (.inr (.inr (va_up (va_up (va_up (fun _ => none) (0 : Int32).toNatClampNeg (some q6)) (1 : Int32).toNatClampNeg (some q8)) (2 : Int32).toNatClampNeg (some q10))))))), (q4, .inr (2, [.ref (f5 1), .ref (f5 3)])), ((f5 1), .inr (5, [.ref (f5 2), .int 0])), ((f5 2), .inl (cI E, 240, .inl (fun _ => 0))), ((f5 3), .inr (5, [.ref (f5 4), .int 0])), ((f5 4), .inl (cI E, 240, .inl (fun _ => 0))), (q6, .inr (3, [.int 0, .ref (f7 1), .ref (f7 3), .ref (f7 5), .int 0])), ((f7 1), .inr (5, [.ref (f7 2), .int 0])), ((f7 2), .inl (cI E, 48, .inl (fun _ => 0))), ((f7 3), .inr (5, [.ref (f7 4), .int 0])), ((f7 4), .inl (cI E, 120, .inl (fun _ => 0))), ((f7 5), .inr (2, [.ref (f7 6), .ref (f7 8)])), ((f7 6), .inr (5, [.ref (f7 7), .int 0])), ((f7 7), .inl (cI E, 240, .inl (fun _ => 0))), ((f7 8), .inr (5, [.ref (f7 9), .int 0])), ((f7 9), .inl (cI E, 240, .inl (fun _ => 0))), (q8, .inr (3, [.int 1, .ref (f9 1), .ref (f9 3), .ref (f9 5), .int 0])), ((f9 1), .inr (5, [.ref (f9 2), .int 0])), ((f9 2), .inl (cI E, 48, .inl (fun _ => 0))), ((f9 3), .inr (5, [.ref (f9 4), .int 0])), ((f9 4), .inl (cI E, 120, .inl (fun _ => 0))), ((f9 5), .inr (2, [.ref (f9 6), .ref (f9 8)])), ((f9 6), .inr (5, [.ref (f9 7), .int 0])), ((f9 7), .inl (cI E, 240, .inl (fun _ => 0))), ((f9 8), .inr (5, [.ref (f9 9), .int 0])), ((f9 9), .inl (cI E, 240, .inl (fun _ => 0))), (q10, .inr (3, [.int 2, .ref (f11 1), .ref (f11 3), .ref (f11 5), .int 0])), ((f11 1), .inr (5, [.ref (f11 2), .int 0])), ((f11 2), .inl (cI E, 48, .inl (fun _ => 0))), ((f11 3), .inr (5, [.ref (f11 4), .int 0])), ((f11 4), .inl (cI E, 120, .inl (fun _ => 0))), ((f11 5), .inr (2, [.ref (f11 6), .ref (f11 8)])), ((f11 6), .inr (5, [.ref (f11 7), .int 0])), ((f11 7), .inl (cI E, 240, .inl (fun _ => 0))), ((f11 8), .inr (5, [.ref (f11 9), .int 0])), ((f11 9), .inl (cI E, 240, .inl (fun _ => 0)))]) rfl (inB_in (by decide +kernel)) dX4_init_58 ?_
  refine g_iinc C (v := 3) 0 rfl (by decide) (lv2 := [(1, .int 3), (0, .ref h)]) rfl (by decide) dX4_init_59 ?_
  refine g_goto C (tgt := 36) dX4_init_62 (by decide) ?_
  refine g_iload_n C 0 rfl rfl dX4_init_36 ?_
  refine g_aload_n C 1 rfl rfl dX4_init_37 ?_
  refine g_X4_houses C i_X4_init_X4 m_X4_init_11 0 rfl dX4_init_38 ?_
  refine g_alen4 C 12 rfl dX4_init_41 ?_
  refine g_icmp_ge C (tgt := 65) dX4_init_42 (by decide) (fun c9 => absurd c9 (by decide)) (fun c9 => ?_)
  refine g_aload_n C 1 rfl rfl dX4_init_45 ?_
  refine g_X4_houses C i_X4_init_X4 m_X4_init_11 0 rfl dX4_init_46 ?_
  refine g_iload_n C 0 rfl rfl dX4_init_49 ?_
  refine g_new_X1 C i_X4_init_X1 m_X4_init_10 m_X4_init_19 m_X4_init_20 ⟨by decide, by decide⟩ dX4_init_50 (fun q12 => ?_)
  refine g_dup C rfl dX4_init_53 ?_
  refine g_iload_n C 0 rfl rfl dX4_init_54 ?_
  refine g_callI (As := [.int 3]) (n9 := 1) (st := [.ref q12, .int 3, .ref q3]) (P := [(h, .inr (6, [.ref q1, .ref q3, .ref q4])), (q1, .inr (4, [.ref (f2 1), .ref (f2 3), .ref (f2 5), .ref (f2 7), .ref (f2 9)])), ((f2 1), .inr (5, [.ref (f2 2), .int 0])), ((f2 2), .inl (cI E, 120, .inl (fun _ => 0))), ((f2 3), .inr (5, [.ref (f2 4), .int 0])), ((f2 4), .inl (cI E, 120, .inl (fun _ => 0))), ((f2 5), .inr (5, [.ref (f2 6), .int 0])), ((f2 6), .inl (cI E, 120, .inl (fun _ => 0))), ((f2 7), .inr (5, [.ref (f2 8), .int 0])), ((f2 8), .inl (cI E, 120, .inl (fun _ => 0))), ((f2 9), .inr (5, [.ref (f2 10), .int 0])), ((f2 10), .inl (cI E, 120, .inl (fun _ => 0))), (q3, .inl (cH E, 4, .inr (.inr (.inr (.inr (va_up (va_up (va_up (fun _ => none) (0 : Int32).toNatClampNeg (some q6)) (1 : Int32).toNatClampNeg (some q8)) (2 : Int32).toNatClampNeg (some q10))))))), (q4, .inr (2, [.ref (f5 1), .ref (f5 3)])), ((f5 1), .inr (5, [.ref (f5 2), .int 0])), ((f5 2), .inl (cI E, 240, .inl (fun _ => 0))), ((f5 3), .inr (5, [.ref (f5 4), .int 0])), ((f5 4), .inl (cI E, 240, .inl (fun _ => 0))), (q6, .inr (3, [.int 0, .ref (f7 1), .ref (f7 3), .ref (f7 5), .int 0])), ((f7 1), .inr (5, [.ref (f7 2), .int 0])), ((f7 2), .inl (cI E, 48, .inl (fun _ => 0))), ((f7 3), .inr (5, [.ref (f7 4), .int 0])), ((f7 4), .inl (cI E, 120, .inl (fun _ => 0))), ((f7 5), .inr (2, [.ref (f7 6), .ref (f7 8)])), ((f7 6), .inr (5, [.ref (f7 7), .int 0])), ((f7 7), .inl (cI E, 240, .inl (fun _ => 0))), ((f7 8), .inr (5, [.ref (f7 9), .int 0])), ((f7 9), .inl (cI E, 240, .inl (fun _ => 0))), (q8, .inr (3, [.int 1, .ref (f9 1), .ref (f9 3), .ref (f9 5), .int 0])), ((f9 1), .inr (5, [.ref (f9 2), .int 0])), ((f9 2), .inl (cI E, 48, .inl (fun _ => 0))), ((f9 3), .inr (5, [.ref (f9 4), .int 0])), ((f9 4), .inl (cI E, 120, .inl (fun _ => 0))), ((f9 5), .inr (2, [.ref (f9 6), .ref (f9 8)])), ((f9 6), .inr (5, [.ref (f9 7), .int 0])), ((f9 7), .inl (cI E, 240, .inl (fun _ => 0))), ((f9 8), .inr (5, [.ref (f9 9), .int 0])), ((f9 9), .inl (cI E, 240, .inl (fun _ => 0))), (q10, .inr (3, [.int 2, .ref (f11 1), .ref (f11 3), .ref (f11 5), .int 0])), ((f11 1), .inr (5, [.ref (f11 2), .int 0])), ((f11 2), .inl (cI E, 48, .inl (fun _ => 0))), ((f11 3), .inr (5, [.ref (f11 4), .int 0])), ((f11 4), .inl (cI E, 120, .inl (fun _ => 0))), ((f11 5), .inr (2, [.ref (f11 6), .ref (f11 8)])), ((f11 6), .inr (5, [.ref (f11 7), .int 0])), ((f11 7), .inl (cI E, 240, .inl (fun _ => 0))), ((f11 8), .inr (5, [.ref (f11 9), .int 0])), ((f11 9), .inl (cI E, 240, .inl (fun _ => 0)))]) C (c_X1_init E q12 3) ggX4_init_X1_init rfl rfl m_X4_init_20 m_X4_init_21 m_X4_init_22 (by decide +kernel) rfl ⟨by decide, by decide, by decide, by decide, Nat.le_of_ble_eq_true rfl⟩ rfl dX4_init_55 (fun f13 => ?_)
  refine g_aast C 12 48 rfl rfl (ws2 := [(h, .inr (6, [.ref q1, .ref q3, .ref q4])), (q1, .inr (4, [.ref (f2 1), .ref (f2 3), .ref (f2 5), .ref (f2 7), .ref (f2 9)])), ((f2 1), .inr (5, [.ref (f2 2), .int 0])), ((f2 2), .inl (cI E, 120, .inl (fun _ => 0))), ((f2 3), .inr (5, [.ref (f2 4), .int 0])), ((f2 4), .inl (cI E, 120, .inl (fun _ => 0))), ((f2 5), .inr (5, [.ref (f2 6), .int 0])), ((f2 6), .inl (cI E, 120, .inl (fun _ => 0))), ((f2 7), .inr (5, [.ref (f2 8), .int 0])), ((f2 8), .inl (cI E, 120, .inl (fun _ => 0))), ((f2 9), .inr (5, [.ref (f2 10), .int 0])), ((f2 10), .inl (cI E, 120, .inl (fun _ => 0))), (q3, .inl (cH E, 4, .inr (.inr (.inr (.inr (va_up (va_up (va_up (va_up (fun _ => none) (0 : Int32).toNatClampNeg (some q6)) (1 : Int32).toNatClampNeg (some q8)) (2 : Int32).toNatClampNeg (some q10)) (3 : Int32).toNatClampNeg (some q12))))))), (q4, .inr (2, [.ref (f5 1), .ref (f5 3)])), ((f5 1), .inr (5, [.ref (f5 2), .int 0])), ((f5 2), .inl (cI E, 240, .inl (fun _ => 0))), ((f5 3), .inr (5, [.ref (f5 4), .int 0])), ((f5 4), .inl (cI E, 240, .inl (fun _ => 0))), (q6, .inr (3, [.int 0, .ref (f7 1), .ref (f7 3), .ref (f7 5), .int 0])), ((f7 1), .inr (5, [.ref (f7 2), .int 0])), ((f7 2), .inl (cI E, 48, .inl (fun _ => 0))), ((f7 3), .inr (5, [.ref (f7 4), .int 0])), ((f7 4), .inl (cI E, 120, .inl (fun _ => 0))), ((f7 5), .inr (2, [.ref (f7 6), .ref (f7 8)])), ((f7 6), .inr (5, [.ref (f7 7), .int 0])), ((f7 7), .inl (cI E, 240, .inl (fun _ => 0))), ((f7 8), .inr (5, [.ref (f7 9), .int 0])), ((f7 9), .inl (cI E, 240, .inl (fun _ => 0))), (q8, .inr (3, [.int 1, .ref (f9 1), .ref (f9 3), .ref (f9 5), .int 0])), ((f9 1), .inr (5, [.ref (f9 2), .int 0])), ((f9 2), .inl (cI E, 48, .inl (fun _ => 0))), ((f9 3), .inr (5, [.ref (f9 4), .int 0])), ((f9 4), .inl (cI E, 120, .inl (fun _ => 0))), ((f9 5), .inr (2, [.ref (f9 6), .ref (f9 8)])), ((f9 6), .inr (5, [.ref (f9 7), .int 0])), ((f9 7), .inl (cI E, 240, .inl (fun _ => 0))), ((f9 8), .inr (5, [.ref (f9 9), .int 0])), ((f9 9), .inl (cI E, 240, .inl (fun _ => 0))), (q10, .inr (3, [.int 2, .ref (f11 1), .ref (f11 3), .ref (f11 5), .int 0])), ((f11 1), .inr (5, [.ref (f11 2), .int 0])), ((f11 2), .inl (cI E, 48, .inl (fun _ => 0))), ((f11 3), .inr (5, [.ref (f11 4), .int 0])), ((f11 4), .inl (cI E, 120, .inl (fun _ => 0))), ((f11 5), .inr (2, [.ref (f11 6), .ref (f11 8)])), ((f11 6), .inr (5, [.ref (f11 7), .int 0])), ((f11 7), .inl (cI E, 240, .inl (fun _ => 0))), ((f11 8), .inr (5, [.ref (f11 9), .int 0])), ((f11 9), .inl (cI E, 240, .inl (fun _ => 0))), (q12, .inr (3, [.int 3, .ref (f13 1), .ref (f13 3), .ref (f13 5), .int 0])), ((f13 1), .inr (5, [.ref (f13 2), .int 0])), ((f13 2), .inl (cI E, 48, .inl (fun _ => 0))), ((f13 3), .inr (5, [.ref (f13 4), .int 0])), ((f13 4), .inl (cI E, 120, .inl (fun _ => 0))), ((f13 5), .inr (2, [.ref (f13 6), .ref (f13 8)])), ((f13 6), .inr (5, [.ref (f13 7), .int 0])), ((f13 7), .inl (cI E, 240, .inl (fun _ => 0))), ((f13 8), .inr (5, [.ref (f13 9), .int 0])), ((f13 9), .inl (cI E, 240, .inl (fun _ => 0)))]) rfl (inB_in (by decide +kernel)) dX4_init_58 ?_
  refine g_iinc C (v := 4) 0 rfl (by decide) (lv2 := [(1, .int 4), (0, .ref h)]) rfl (by decide) dX4_init_59 ?_
  refine g_goto C (tgt := 36) dX4_init_62 (by decide) ?_
  refine g_iload_n C 0 rfl rfl dX4_init_36 ?_
  refine g_aload_n C 1 rfl rfl dX4_init_37 ?_
  refine g_X4_houses C i_X4_init_X4 m_X4_init_11 0 rfl dX4_init_38 ?_
  refine g_alen4 C 12 rfl dX4_init_41 ?_
  refine g_icmp_ge C (tgt := 65) dX4_init_42 (by decide) (fun c9 => ?_) (fun c9 => absurd (by decide) c9)
  exact g_cend (fun j => if j = 0 then h else if j = 1 then q1 else if j = 2 then (f2 1) else if j = 3 then (f2 2) else if j = 4 then (f2 3) else if j = 5 then (f2 4) else if j = 6 then (f2 5) else if j = 7 then (f2 6) else if j = 8 then (f2 7) else if j = 9 then (f2 8) else if j = 10 then (f2 9) else if j = 11 then (f2 10) else if j = 12 then q3 else if j = 13 then q4 else if j = 14 then (f5 1) else if j = 15 then (f5 2) else if j = 16 then (f5 3) else if j = 17 then (f5 4) else if j = 18 then q6 else if j = 19 then (f7 1) else if j = 20 then (f7 2) else if j = 21 then (f7 3) else if j = 22 then (f7 4) else if j = 23 then (f7 5) else if j = 24 then (f7 6) else if j = 25 then (f7 7) else if j = 26 then (f7 8) else if j = 27 then (f7 9) else if j = 28 then q8 else if j = 29 then (f9 1) else if j = 30 then (f9 2) else if j = 31 then (f9 3) else if j = 32 then (f9 4) else if j = 33 then (f9 5) else if j = 34 then (f9 6) else if j = 35 then (f9 7) else if j = 36 then (f9 8) else if j = 37 then (f9 9) else if j = 38 then q10 else if j = 39 then (f11 1) else if j = 40 then (f11 2) else if j = 41 then (f11 3) else if j = 42 then (f11 4) else if j = 43 then (f11 5) else if j = 44 then (f11 6) else if j = 45 then (f11 7) else if j = 46 then (f11 8) else if j = 47 then (f11 9) else if j = 48 then q12 else if j = 49 then (f13 1) else if j = 50 then (f13 2) else if j = 51 then (f13 3) else if j = 52 then (f13 4) else if j = 53 then (f13 5) else if j = 54 then (f13 6) else if j = 55 then (f13 7) else if j = 56 then (f13 8) else (f13 9)) C hQ rfl ⟨by decide, by decide⟩ dX4_init_65
abbrev r_X5_init : Room := { frames := 2, cells := 7, slots := 724, locals := 40 }
theorem m_X5_init_0 : Cond.methodLink RX5 1 objectInit ∈ wsX5_init := by decide +kernel
theorem m_X5_init_1 : Cond.instanceMethod objectInit ∈ wsX5_init := by decide +kernel
theorem m_X5_init_2 : Cond.code objectInit ⟨#[0xb1]⟩ 1 none ∈ wsX5_init := by decide +kernel
theorem m_X5_init_3 : Cond.arrayClass .int ∈ wsX5_init := by decide +kernel
theorem i_X5_init_X5 : ∀ w ∈ wsX50, w ∈ wsX5_init := by decide +kernel
theorem m_X5_init_5 : Cond.fieldLink RX5 7 "BookinghouseModel" "time" "[I" ∈ wsX5_init := by decide +kernel
theorem m_X5_init_6 : Cond.fieldLink RX5 13 "BookinghouseModel" "span" "[I" ∈ wsX5_init := by decide +kernel
theorem m_X5_init_7 : Cond.fieldLink RX5 16 "BookinghouseModel" "weight" "[I" ∈ wsX5_init := by decide +kernel
theorem m_X5_init_8 : Cond.fieldLink RX5 19 "BookinghouseModel" "home" "[I" ∈ wsX5_init := by decide +kernel
theorem m_X5_init_9 : Cond.fieldLink RX5 22 "BookinghouseModel" "state" "[I" ∈ wsX5_init := by decide +kernel
theorem m_X5_init_10 : Cond.fieldLink RX5 25 "BookinghouseModel" "came" "[I" ∈ wsX5_init := by decide +kernel
theorem m_X5_init_11 : Cond.fieldLink RX5 28 "BookinghouseModel" "clock" "[I" ∈ wsX5_init := by decide +kernel
set_option maxHeartbeats 4000000 in
set_option maxRecDepth 100000 in
theorem c_X5_init (E : gE) (h : Nat) : Ci E yX5_init wsX5_init r_X5_init [.ref h] [(h, .inr (7, [.int 0, .int 0, .int 0, .null, .null, .null, .null, .null, .null, .null, .long 0]))] (fun f => [(h, .inr (7, [.int 0, .int 0, .int 0, .ref (f 1), .ref (f 2), .ref (f 3), .ref (f 4), .ref (f 5), .ref (f 6), .ref (f 7), .long 0])), ((f 1), .inl (cI E, 120, .inl (fun _ => 0))), ((f 2), .inl (cI E, 120, .inl (fun _ => 0))), ((f 3), .inl (cI E, 120, .inl (fun _ => 0))), ((f 4), .inl (cI E, 120, .inl (fun _ => 0))), ((f 5), .inl (cI E, 120, .inl (fun _ => 0))), ((f 6), .inl (cI E, 120, .inl (fun _ => 0))), ((f 7), .inl (cI E, 4, .inl (fun _ => 0)))]) := by
  refine Ci.of (cc := cX5_init) (nL := 1) (own := RX5) (by decide) rfl rfl (Nat.le_of_ble_eq_true rfl) rfl rfl ?_
  intro X C hQ
  refine g_aload_n C 0 rfl rfl dX5_init_0 ?_
  refine g_objInit C m_X5_init_0 m_X5_init_1 m_X5_init_2 ⟨by decide, Nat.le_of_ble_eq_true rfl⟩ dX5_init_1 ?_
  refine g_aload_n C 0 rfl rfl dX5_init_4 ?_
  refine g_bipush C (v := 120) (by decide) dX5_init_5 ?_
  refine g_newa (N := 120) C m_X5_init_3 (by decide) (by decide) ⟨by decide, by decide⟩ dX5_init_7 (fun q1 => ?_)
  refine g_X5_init_time C hQ i_X5_init_X5 m_X5_init_5 0 rfl (ws2 := [(h, .inr (7, [.int 0, .int 0, .int 0, .ref q1, .null, .null, .null, .null, .null, .null, .long 0])), (q1, .inl (cI E, 120, .inl (fun _ => 0)))]) rfl dX5_init_9 ?_
  refine g_aload_n C 0 rfl rfl dX5_init_12 ?_
  refine g_bipush C (v := 120) (by decide) dX5_init_13 ?_
  refine g_newa (N := 120) C m_X5_init_3 (by decide) (by decide) ⟨by decide, by decide⟩ dX5_init_15 (fun q2 => ?_)
  refine g_X5_init_span C hQ i_X5_init_X5 m_X5_init_6 0 rfl (ws2 := [(h, .inr (7, [.int 0, .int 0, .int 0, .ref q1, .ref q2, .null, .null, .null, .null, .null, .long 0])), (q1, .inl (cI E, 120, .inl (fun _ => 0))), (q2, .inl (cI E, 120, .inl (fun _ => 0)))]) rfl dX5_init_17 ?_
  refine g_aload_n C 0 rfl rfl dX5_init_20 ?_
  refine g_bipush C (v := 120) (by decide) dX5_init_21 ?_
  refine g_newa (N := 120) C m_X5_init_3 (by decide) (by decide) ⟨by decide, by decide⟩ dX5_init_23 (fun q3 => ?_)
  refine g_X5_init_weight C hQ i_X5_init_X5 m_X5_init_7 0 rfl (ws2 := [(h, .inr (7, [.int 0, .int 0, .int 0, .ref q1, .ref q2, .ref q3, .null, .null, .null, .null, .long 0])), (q1, .inl (cI E, 120, .inl (fun _ => 0))), (q2, .inl (cI E, 120, .inl (fun _ => 0))), (q3, .inl (cI E, 120, .inl (fun _ => 0)))]) rfl dX5_init_25 ?_
  refine g_aload_n C 0 rfl rfl dX5_init_28 ?_
  refine g_bipush C (v := 120) (by decide) dX5_init_29 ?_
  refine g_newa (N := 120) C m_X5_init_3 (by decide) (by decide) ⟨by decide, by decide⟩ dX5_init_31 (fun q4 => ?_)
  refine g_X5_init_home C hQ i_X5_init_X5 m_X5_init_8 0 rfl (ws2 := [(h, .inr (7, [.int 0, .int 0, .int 0, .ref q1, .ref q2, .ref q3, .ref q4, .null, .null, .null, .long 0])), (q1, .inl (cI E, 120, .inl (fun _ => 0))), (q2, .inl (cI E, 120, .inl (fun _ => 0))), (q3, .inl (cI E, 120, .inl (fun _ => 0))), (q4, .inl (cI E, 120, .inl (fun _ => 0)))]) rfl dX5_init_33 ?_
  refine g_aload_n C 0 rfl rfl dX5_init_36 ?_
  refine g_bipush C (v := 120) (by decide) dX5_init_37 ?_
  refine g_newa (N := 120) C m_X5_init_3 (by decide) (by decide) ⟨by decide, by decide⟩ dX5_init_39 (fun q5 => ?_)
  refine g_X5_init_state C hQ i_X5_init_X5 m_X5_init_9 0 rfl (ws2 := [(h, .inr (7, [.int 0, .int 0, .int 0, .ref q1, .ref q2, .ref q3, .ref q4, .ref q5, .null, .null, .long 0])), (q1, .inl (cI E, 120, .inl (fun _ => 0))), (q2, .inl (cI E, 120, .inl (fun _ => 0))), (q3, .inl (cI E, 120, .inl (fun _ => 0))), (q4, .inl (cI E, 120, .inl (fun _ => 0))), (q5, .inl (cI E, 120, .inl (fun _ => 0)))]) rfl dX5_init_41 ?_
  refine g_aload_n C 0 rfl rfl dX5_init_44 ?_
  refine g_bipush C (v := 120) (by decide) dX5_init_45 ?_
  refine g_newa (N := 120) C m_X5_init_3 (by decide) (by decide) ⟨by decide, by decide⟩ dX5_init_47 (fun q6 => ?_)
  refine g_X5_init_came C hQ i_X5_init_X5 m_X5_init_10 0 rfl (ws2 := [(h, .inr (7, [.int 0, .int 0, .int 0, .ref q1, .ref q2, .ref q3, .ref q4, .ref q5, .ref q6, .null, .long 0])), (q1, .inl (cI E, 120, .inl (fun _ => 0))), (q2, .inl (cI E, 120, .inl (fun _ => 0))), (q3, .inl (cI E, 120, .inl (fun _ => 0))), (q4, .inl (cI E, 120, .inl (fun _ => 0))), (q5, .inl (cI E, 120, .inl (fun _ => 0))), (q6, .inl (cI E, 120, .inl (fun _ => 0)))]) rfl dX5_init_49 ?_
  refine g_aload_n C 0 rfl rfl dX5_init_52 ?_
  refine g_iconst C (v := 4) (by decide) dX5_init_53 ?_
  refine g_newa (N := 4) C m_X5_init_3 (by decide) (by decide) ⟨by decide, by decide⟩ dX5_init_54 (fun q7 => ?_)
  refine g_X5_init_clock C hQ i_X5_init_X5 m_X5_init_11 0 rfl (ws2 := [(h, .inr (7, [.int 0, .int 0, .int 0, .ref q1, .ref q2, .ref q3, .ref q4, .ref q5, .ref q6, .ref q7, .long 0])), (q1, .inl (cI E, 120, .inl (fun _ => 0))), (q2, .inl (cI E, 120, .inl (fun _ => 0))), (q3, .inl (cI E, 120, .inl (fun _ => 0))), (q4, .inl (cI E, 120, .inl (fun _ => 0))), (q5, .inl (cI E, 120, .inl (fun _ => 0))), (q6, .inl (cI E, 120, .inl (fun _ => 0))), (q7, .inl (cI E, 4, .inl (fun _ => 0)))]) rfl dX5_init_56 ?_
  exact g_cend (fun j => if j = 0 then h else if j = 1 then q1 else if j = 2 then q2 else if j = 3 then q3 else if j = 4 then q4 else if j = 5 then q5 else if j = 6 then q6 else q7) C hQ rfl ⟨by decide, by decide⟩ dX5_init_59
