/-! houseAt, walked by hand -/
abbrev r_X4_houseAt : Room := { frames := 8, cells := 1, slots := 6, locals := 120 }
theorem i_X4_houseAt_X4 : ∀ w ∈ wsX40, w ∈ wsX4_houseAt := by decide +kernel
theorem m_X4_houseAt_0 : Cond.fieldLink RX4 18 "Bookinghouse" "houses" "[LBookinghouse$House;" ∈ wsX4_houseAt := by decide +kernel
theorem tf_X4_houseAt_159 : gTh wsX4_houseAt RX4 "java/lang/IndexOutOfBoundsException" 159 163 := ⟨by decide +kernel, by decide +kernel, by decide +kernel, by decide +kernel, by decide +kernel, by decide +kernel⟩
set_option maxHeartbeats 4000000 in
set_option maxRecDepth 100000 in
theorem c_X4_houseAt (E : gE) (a : Nat → Nat) (p1 : Int32) (o : String ⊕ Nat) (h : f_X4_houseAt p1 = some o) : Ct E yX4_houseAt wsX4_houseAt r_X4_houseAt [.ref (a 0), .int p1] (wB E a ++ wA E a) (gO (fun u9 => some (.ref (a (18 + 10 * u9)))) (fun _ => (wB E a ++ wA E a)) o) := by
  refine Ct.of (cc := cX4_houseAt) (nL := 2) (ret := (some (.object "Bookinghouse$House"))) (own := RX4) (by decide) rfl rfl (Nat.le_of_ble_eq_true rfl) rfl ?_ ?_
  · intro v w1 hh
    cases o <;> cases hh <;> rfl
  · intro X C hQ
    rw [f_X4_houseAt] at h
    refine g_iload_n C 1 rfl rfl dX4_houseAt_0 ?_
    refine g_if_lt C (tgt := 22) dX4_houseAt_1 (by decide) (fun cd1 => ?_) (fun cd1 => ?_)
    · replace h := (if_pos cd1).symm.trans h
      obtain rfl := Option.some.inj h
      exact g_throwSW C hQ rfl rfl tf_X4_houseAt_159 (text := "no such house") (is9 := 259) (by decide +kernel) ⟨by decide, Nat.le_of_ble_eq_true rfl, by decide, by decide, by decide, by decide⟩ dX4_houseAt_22 dX4_houseAt_25 dX4_houseAt_26 dX4_houseAt_29 dX4_houseAt_32
    · replace h := (if_neg cd1).symm.trans h
      refine g_iload_n C 1 rfl rfl dX4_houseAt_4 ?_
      refine g_aload_n C 0 rfl rfl dX4_houseAt_5 ?_
      refine g_X4_houses C i_X4_houseAt_X4 m_X4_houseAt_0 0 rfl dX4_houseAt_6 ?_
      refine g_alen4 C 1 rfl dX4_houseAt_9 ?_
      refine g_icmp_ge C (tgt := 22) dX4_houseAt_10 (by decide) (fun cd2 => ?_) (fun cd2 => ?_)
      · replace h := (if_pos cd2).symm.trans h
        obtain rfl := Option.some.inj h
        exact g_throwSW C hQ rfl rfl tf_X4_houseAt_159 (text := "no such house") (is9 := 259) (by decide +kernel) ⟨by decide, Nat.le_of_ble_eq_true rfl, by decide, by decide, by decide, by decide⟩ dX4_houseAt_22 dX4_houseAt_25 dX4_houseAt_26 dX4_houseAt_29 dX4_houseAt_32
      · replace h := (if_neg cd2).symm.trans h
        obtain rfl := Option.some.inj h
        have e0 : (0 : Int32).toInt = 0 := rfl
        have e4 : (4 : Int32).toInt = 4 := rfl
        have hlo : 0 ≤ p1.toInt := by rw [Int32.lt_iff_toInt_lt, e0] at cd1; omega
        have hhi : p1.toInt < 4 := by rw [Int32.le_iff_toInt_le, e4] at cd2; omega
        have hk : p1.toNatClampNeg < 4 := by show p1.toInt.toNat < 4; omega
        have hin : vp_in p1 4 := by
          rintro (q | q)
          · exact cd1 q
          · omega
        have hf : va_rf (hfn a p1.toNatClampNeg) = .ref (a (18 + 10 * p1.toNatClampNeg)) := by unfold hfn; rw [if_pos hk]; rfl
        refine g_aload_n C 0 rfl rfl dX4_houseAt_13 ?_
        refine g_X4_houses C i_X4_houseAt_X4 m_X4_houseAt_0 0 rfl dX4_houseAt_14 ?_
        refine g_iload_n C 1 rfl rfl dX4_houseAt_17 ?_
        refine g_aald4 C (a9 := (a (18 + 10 * p1.toNatClampNeg))) 1 rfl hin hf dX4_houseAt_18 ?_
        refine g_ifnonnull C (tgt := 33) dX4_houseAt_19 (by decide) ?_
        refine g_aload_n C 0 rfl rfl dX4_houseAt_33 ?_
        refine g_X4_houses C i_X4_houseAt_X4 m_X4_houseAt_0 0 rfl dX4_houseAt_34 ?_
        refine g_iload_n C 1 rfl rfl dX4_houseAt_37 ?_
        refine g_aald4 C (a9 := (a (18 + 10 * p1.toNatClampNeg))) 1 rfl hin hf dX4_houseAt_38 ?_
        exact g_aret C hQ rfl ⟨by decide, by decide⟩ dX4_houseAt_39
