/-! be: pure functions, printed by wip/whole/gen.py out of the bytecode, and their walks -/
def l_X4_crowdIsOfThoseThatCame_12 (lt : RS) (ls : RS) (lw : RS) (u : RS) (t : RS) (c : RS) : Nat → Int64 → Int32 → RS → RS → Option (Bool × RS × RS)
  | 0, _, _, _, _ => none
  | F + 1, v2, v4, rtc, rcc => ((f_X3_size u).bind fun g1 => (if g1 ≤ v4 then ((f_X0_isLike rtc rcc t c).bind fun g3 => (if (bI g3) = 0 then some (false, rtc, rcc) else ((f_X0_isLevelInTheEnd c).bind fun g5 => (if (bI g5) = 0 then some (false, rtc, rcc) else ((f_X0_total t c).bind fun g7 => (if (lg_cmp v2 g7) = 0 then some (true, rtc, rcc) else some (false, rtc, rcc))))))) else ((f_X3_get 120 u v4).bind fun g9 => ((f_X3_get 120 lw g9).bind fun g10 => ((f_X3_get 120 lt g9).bind fun g11 => ((f_X2_end lt ls g9).bind fun g12 => ((f_X0_enter rtc rcc g11 g12 g10).bind fun g13 => ((f_X3_get 120 ls g9).bind fun g14 => l_X4_crowdIsOfThoseThatCame_12 lt ls lw u t c F (v2 + ((g10 * g14).toInt64)) (v4 + 1) g13.1 g13.2))))))))
def f_X4_crowdIsOfThoseThatCame (lt : RS) (ls : RS) (lw : RS) (rt : RS) (rc : RS) (u : RS) (t : RS) (c : RS) : Option (Bool × RS × RS) := ((f_X0_clear rt rc).bind fun g1 => l_X4_crowdIsOfThoseThatCame_12 lt ls lw u t c FU 0 0 g1.1 g1.2)
abbrev r_X4_crowdIsOfThoseThatCame : Room := { frames := 5, cells := 0, slots := 0, locals := 128 }
theorem m_X4_crowdIsOfThoseThatCame_0 : Cond.fieldLink RX4 25 "Bookinghouse" "rebuilt" "LBookinghouse$Crowd;" ∈ wsX4_crowdIsOfThoseThatCame := by decide +kernel
theorem i_X4_crowdIsOfThoseThatCame_X4 : ∀ w ∈ wsX40, w ∈ wsX4_crowdIsOfThoseThatCame := by decide +kernel
theorem i_X4_crowdIsOfThoseThatCame_X1 : ∀ w ∈ wsX10, w ∈ wsX4_crowdIsOfThoseThatCame := by decide +kernel
theorem m_X4_crowdIsOfThoseThatCame_3 : Cond.fieldLink RX4 10 "Bookinghouse" "ledger" "LBookinghouse$Ledger;" ∈ wsX4_crowdIsOfThoseThatCame := by decide +kernel
theorem i_X4_crowdIsOfThoseThatCame_X2 : ∀ w ∈ wsX20, w ∈ wsX4_crowdIsOfThoseThatCame := by decide +kernel
set_option maxHeartbeats 4000000 in
set_option maxRecDepth 100000 in
theorem w_X4_crowdIsOfThoseThatCame_12 {E : gE} {X : gX} {a : Nat → Nat} {i : Nat} {lt : RS} {ls : RS} {lw : RS} {lh : RS} {lx : RS} {rt : RS} {rc : RS} {nu : Int32} {z : Int32} {q : RS} {u : RS} {t : RS} {c : RS} {o : (Bool × RS × RS)} (C : Cx E X cX4_crowdIsOfThoseThatCame 7 RX4 wsX4_crowdIsOfThoseThatCame r_X4_crowdIsOfThoseThatCame ((some .boolean)) []) (hQ : gQ E X (wB E a ++ (wX2 E a 2 lt ls lw lh lx ++ (wX0 E a 13 rt rc ++ wX1 E a i nu z q u t c))) r_X4_crowdIsOfThoseThatCame (gO (fun u9 => some (.int (bI u9.1))) (fun u9 => (wB E a ++ (wX2 E a 2 lt ls lw lh lx ++ (wX0 E a 13 u9.2.1 u9.2.2 ++ wX1 E a i nu z q u t c)))) (.inr o))) : ∀ (F : Nat) (v2 : Int64) (v4 : Int32) (rtc : RS) (rcc : RS), l_X4_crowdIsOfThoseThatCame_12 lt ls lw u t c F v2 v4 rtc rcc = some o → Gx E X (wB E a ++ (wX2 E a 2 lt ls lw lh lx ++ (wX0 E a 13 rtc rcc ++ wX1 E a i nu z q u t c))) 7 [(0, .ref (a 0)), (1, .ref (a i)), (2, .long v2), (4, .int v4)] [] 12 0 0 := by
  intro F
  induction F with
  | zero => intro v2 v4 rtc rcc h; exact absurd h (by simp [l_X4_crowdIsOfThoseThatCame_12])
  | succ F ih =>
    intro v2 v4 rtc rcc h
    rw [l_X4_crowdIsOfThoseThatCame_12] at h
    refine g_iload C 3 rfl dX4_crowdIsOfThoseThatCame_12 ?_
    refine g_aload_n C 1 rfl rfl dX4_crowdIsOfThoseThatCame_14 ?_
    refine g_X1_pastN C i_X4_crowdIsOfThoseThatCame_X1 (by decide +kernel) 17 rfl dX4_crowdIsOfThoseThatCame_15 ?_
    obtain ⟨g1, eg1, h⟩ := Option.bind_eq_some_iff.mp h
    refine g_cVr (As := []) (n9 := 0) (st := [.int v4]) (w2 := (wB E a ++ (wX2 E a 2 lt ls lw lh lx ++ (wX0 E a 13 rtc rcc ++ wX1 E a i nu z q u t c)))) C (c_X3_size E (a (i + 3)) (a (i + 4)) 120 u g1 eg1) gX4_crowdIsOfThoseThatCame_X3_size rfl (by decide +kernel) rfl ⟨by decide, by decide, by decide, by decide, Nat.le_of_ble_eq_true rfl⟩ 0 rfl rfl (gSub.idx [20, 21] rfl rfl) rfl dX4_crowdIsOfThoseThatCame_18 ?_
    refine g_icmp_ge C (tgt := 104) dX4_crowdIsOfThoseThatCame_21 (by decide) (fun cd2 => ?_) (fun cd2 => ?_)
    · replace h := (if_pos cd2).symm.trans h
      refine g_aload_n C 0 rfl rfl dX4_crowdIsOfThoseThatCame_104 ?_
      refine g_X4_rebuilt C i_X4_crowdIsOfThoseThatCame_X4 m_X4_crowdIsOfThoseThatCame_0 0 rfl dX4_crowdIsOfThoseThatCame_105 ?_
      refine g_aload_n C 1 rfl rfl dX4_crowdIsOfThoseThatCame_108 ?_
      refine g_X1_crowdN C i_X4_crowdIsOfThoseThatCame_X1 (by decide +kernel) 17 rfl dX4_crowdIsOfThoseThatCame_109 ?_
      obtain ⟨g3, eg3, h⟩ := Option.bind_eq_some_iff.mp h
      refine g_cVr (As := [.ref (a (i + 5))]) (n9 := 1) (st := []) (w2 := (wB E a ++ (wX2 E a 2 lt ls lw lh lx ++ (wX0 E a 13 rtc rcc ++ wX1 E a i nu z q u t c)))) C (c_X0_isLike E a 13 rtc rcc a (i + 5) t c g3 eg3) gX4_crowdIsOfThoseThatCame_X0_isLike rfl (by decide +kernel) rfl ⟨by decide, by decide, by decide, by decide, Nat.le_of_ble_eq_true rfl⟩ 0 rfl rfl (gSub.idx [12, 13, 14, 15, 16, 22, 23, 24, 25, 26] rfl rfl) rfl dX4_crowdIsOfThoseThatCame_112 ?_
      refine g_if_eq C (tgt := 144) dX4_crowdIsOfThoseThatCame_115 (by decide) (fun cd4 => ?_) (fun cd4 => ?_)
      · replace h := (if_pos cd4).symm.trans h
        refine g_iconst C (v := 0) (by decide) dX4_crowdIsOfThoseThatCame_144 ?_
        obtain rfl := Option.some.inj h
        exact g_zret C hQ rfl rfl ⟨by decide, by decide⟩ dX4_crowdIsOfThoseThatCame_145
      · replace h := (if_neg cd4).symm.trans h
        refine g_aload_n C 1 rfl rfl dX4_crowdIsOfThoseThatCame_118 ?_
        refine g_X1_crowdN C i_X4_crowdIsOfThoseThatCame_X1 (by decide +kernel) 17 rfl dX4_crowdIsOfThoseThatCame_119 ?_
        obtain ⟨g5, eg5, h⟩ := Option.bind_eq_some_iff.mp h
        refine g_cVr (As := []) (n9 := 0) (st := []) (w2 := (wB E a ++ (wX2 E a 2 lt ls lw lh lx ++ (wX0 E a 13 rtc rcc ++ wX1 E a i nu z q u t c)))) C (c_X0_isLevelInTheEnd E a (i + 5) t c g5 eg5) gX4_crowdIsOfThoseThatCame_X0_isLevelInTheEnd rfl (by decide +kernel) rfl ⟨by decide, by decide, by decide, by decide, Nat.le_of_ble_eq_true rfl⟩ 0 rfl rfl (gSub.idx [22, 23, 24, 25, 26] rfl rfl) rfl dX4_crowdIsOfThoseThatCame_122 ?_
        refine g_if_eq C (tgt := 144) dX4_crowdIsOfThoseThatCame_125 (by decide) (fun cd6 => ?_) (fun cd6 => ?_)
        · replace h := (if_pos cd6).symm.trans h
          refine g_iconst C (v := 0) (by decide) dX4_crowdIsOfThoseThatCame_144 ?_
          obtain rfl := Option.some.inj h
          exact g_zret C hQ rfl rfl ⟨by decide, by decide⟩ dX4_crowdIsOfThoseThatCame_145
        · replace h := (if_neg cd6).symm.trans h
          refine g_lload_n C 2 rfl rfl dX4_crowdIsOfThoseThatCame_128 ?_
          refine g_aload_n C 1 rfl rfl dX4_crowdIsOfThoseThatCame_129 ?_
          refine g_X1_crowdN C i_X4_crowdIsOfThoseThatCame_X1 (by decide +kernel) 17 rfl dX4_crowdIsOfThoseThatCame_130 ?_
          obtain ⟨g7, eg7, h⟩ := Option.bind_eq_some_iff.mp h
          refine g_cVr (As := []) (n9 := 0) (st := [.long v2]) (w2 := (wB E a ++ (wX2 E a 2 lt ls lw lh lx ++ (wX0 E a 13 rtc rcc ++ wX1 E a i nu z q u t c)))) C (c_X0_total E a (i + 5) t c g7 eg7) gX4_crowdIsOfThoseThatCame_X0_total rfl (by decide +kernel) rfl ⟨by decide, by decide, by decide, by decide, Nat.le_of_ble_eq_true rfl⟩ 0 rfl rfl (gSub.idx [22, 23, 24, 25, 26] rfl rfl) rfl dX4_crowdIsOfThoseThatCame_133 ?_
          refine g_lcmp C dX4_crowdIsOfThoseThatCame_136 ?_
          refine g_if_ne C (tgt := 144) dX4_crowdIsOfThoseThatCame_137 (by decide) (fun cd8 => ?_) (fun cd8 => ?_)
          · replace h := (if_neg cd8).symm.trans h
            refine g_iconst C (v := 0) (by decide) dX4_crowdIsOfThoseThatCame_144 ?_
            obtain rfl := Option.some.inj h
            exact g_zret C hQ rfl rfl ⟨by decide, by decide⟩ dX4_crowdIsOfThoseThatCame_145
          · replace h := (if_pos cd8).symm.trans h
            refine g_iconst C (v := 1) (by decide) dX4_crowdIsOfThoseThatCame_140 ?_
            refine g_goto C (tgt := 145) dX4_crowdIsOfThoseThatCame_141 (by decide) ?_
            obtain rfl := Option.some.inj h
            exact g_zret C hQ rfl rfl ⟨by decide, by decide⟩ dX4_crowdIsOfThoseThatCame_145
    · replace h := (if_neg cd2).symm.trans h
      refine g_aload_n C 1 rfl rfl dX4_crowdIsOfThoseThatCame_24 ?_
      refine g_X1_pastN C i_X4_crowdIsOfThoseThatCame_X1 (by decide +kernel) 17 rfl dX4_crowdIsOfThoseThatCame_25 ?_
      refine g_iload C 3 rfl dX4_crowdIsOfThoseThatCame_28 ?_
      obtain ⟨g9, eg9, h⟩ := Option.bind_eq_some_iff.mp h
      refine g_cVr (As := [.int v4]) (n9 := 1) (st := []) (w2 := (wB E a ++ (wX2 E a 2 lt ls lw lh lx ++ (wX0 E a 13 rtc rcc ++ wX1 E a i nu z q u t c)))) C (c_X3_get E (a (i + 3)) (a (i + 4)) 120 u v4 g9 eg9) gX4_crowdIsOfThoseThatCame_X3_get rfl (by decide +kernel) rfl ⟨by decide, by decide, by decide, by decide, Nat.le_of_ble_eq_true rfl⟩ 0 rfl rfl (gSub.idx [20, 21] rfl rfl) rfl dX4_crowdIsOfThoseThatCame_30 ?_
      refine g_istore C (lv2 := [(5, .int g9), (0, .ref (a 0)), (1, .ref (a i)), (2, .long v2), (4, .int v4)]) rfl (by decide) dX4_crowdIsOfThoseThatCame_33 ?_
      refine g_aload_n C 1 rfl rfl dX4_crowdIsOfThoseThatCame_35 ?_
      refine g_X4_ledger C i_X4_crowdIsOfThoseThatCame_X4 m_X4_crowdIsOfThoseThatCame_3 0 rfl dX4_crowdIsOfThoseThatCame_36 ?_
      refine g_X2_weightsN C i_X4_crowdIsOfThoseThatCame_X2 (by decide +kernel) 1 rfl dX4_crowdIsOfThoseThatCame_39 ?_
      refine g_iload C 0 rfl dX4_crowdIsOfThoseThatCame_42 ?_
      obtain ⟨g10, eg10, h⟩ := Option.bind_eq_some_iff.mp h
      refine g_cVr (As := [.int g9]) (n9 := 1) (st := []) (w2 := (wB E a ++ (wX2 E a 2 lt ls lw lh lx ++ (wX0 E a 13 rtc rcc ++ wX1 E a i nu z q u t c)))) C (c_X3_get E (a 7) (a 8) 120 lw g9 g10 eg10) gX4_crowdIsOfThoseThatCame_X3_get rfl (by decide +kernel) rfl ⟨by decide, by decide, by decide, by decide, Nat.le_of_ble_eq_true rfl⟩ 0 rfl rfl (gSub.idx [6, 7] rfl rfl) rfl dX4_crowdIsOfThoseThatCame_44 ?_
      refine g_istore C (lv2 := [(6, .int g10), (5, .int g9), (0, .ref (a 0)), (1, .ref (a i)), (2, .long v2), (4, .int v4)]) rfl (by decide) dX4_crowdIsOfThoseThatCame_47 ?_
      refine g_aload_n C 2 rfl rfl dX4_crowdIsOfThoseThatCame_49 ?_
      refine g_X4_rebuilt C i_X4_crowdIsOfThoseThatCame_X4 m_X4_crowdIsOfThoseThatCame_0 0 rfl dX4_crowdIsOfThoseThatCame_50 ?_
      refine g_aload_n C 2 rfl rfl dX4_crowdIsOfThoseThatCame_53 ?_
      refine g_X4_ledger C i_X4_crowdIsOfThoseThatCame_X4 m_X4_crowdIsOfThoseThatCame_3 0 rfl dX4_crowdIsOfThoseThatCame_54 ?_
      refine g_X2_timesN C i_X4_crowdIsOfThoseThatCame_X2 (by decide +kernel) 1 rfl dX4_crowdIsOfThoseThatCame_57 ?_
      refine g_iload C 1 rfl dX4_crowdIsOfThoseThatCame_60 ?_
      obtain ⟨g11, eg11, h⟩ := Option.bind_eq_some_iff.mp h
      refine g_cVr (As := [.int g9]) (n9 := 1) (st := [.ref (a 13)]) (w2 := (wB E a ++ (wX2 E a 2 lt ls lw lh lx ++ (wX0 E a 13 rtc rcc ++ wX1 E a i nu z q u t c)))) C (c_X3_get E (a 3) (a 4) 120 lt g9 g11 eg11) gX4_crowdIsOfThoseThatCame_X3_get rfl (by decide +kernel) rfl ⟨by decide, by decide, by decide, by decide, Nat.le_of_ble_eq_true rfl⟩ 0 rfl rfl (gSub.idx [2, 3] rfl rfl) rfl dX4_crowdIsOfThoseThatCame_62 ?_
      refine g_aload_n C 2 rfl rfl dX4_crowdIsOfThoseThatCame_65 ?_
      refine g_X4_ledger C i_X4_crowdIsOfThoseThatCame_X4 m_X4_crowdIsOfThoseThatCame_3 0 rfl dX4_crowdIsOfThoseThatCame_66 ?_
      refine g_iload C 1 rfl dX4_crowdIsOfThoseThatCame_69 ?_
      refine g_perm (ws2 := (wX2 E a 2 lt ls lw lh lx ++ (wB E a ++ (wX0 E a 13 rtc rcc ++ wX1 E a i nu z q u t c)))) (List.perm_append_comm_assoc _ _ _) ?_
      obtain ⟨g12, eg12, h⟩ := Option.bind_eq_some_iff.mp h
      refine g_cVr (As := [.int g9]) (n9 := 1) (st := [.int g11, .ref (a 13)]) (w2 := (wX2 E a 2 lt ls lw lh lx ++ (wB E a ++ (wX0 E a 13 rtc rcc ++ wX1 E a i nu z q u t c)))) C (c_X2_end E a 2 lt ls lw lh lx g9 g12 eg12) gX4_crowdIsOfThoseThatCame_X2_end rfl (by decide +kernel) rfl ⟨by decide, by decide, by decide, by decide, Nat.le_of_ble_eq_true rfl⟩ 0 rfl rfl (gSub.pre (S := (wB E a ++ (wX0 E a 13 rtc rcc ++ wX1 E a i nu z q u t c))) rfl) rfl dX4_crowdIsOfThoseThatCame_71 ?_
      refine g_perm (ws2 := (wB E a ++ (wX2 E a 2 lt ls lw lh lx ++ (wX0 E a 13 rtc rcc ++ wX1 E a i nu z q u t c)))) (List.perm_append_comm_assoc _ _ _) ?_
      refine g_iload C 0 rfl dX4_crowdIsOfThoseThatCame_74 ?_
      obtain ⟨g13, eg13, h⟩ := Option.bind_eq_some_iff.mp h
      refine g_cVv (As := [.int g11, .int g12, .int g10]) (n9 := 3) (st := []) (w2 := (wB E a ++ (wX2 E a 2 lt ls lw lh lx ++ (wX0 E a 13 g13.1 g13.2 ++ wX1 E a i nu z q u t c)))) C (c_X0_enter E a 13 rtc rcc g11 g12 g10 g13 eg13) gX4_crowdIsOfThoseThatCame_X0_enter rfl (by decide +kernel) rfl ⟨by decide, by decide, by decide, by decide, Nat.le_of_ble_eq_true rfl⟩ 0 rfl rfl (gSub.idx [12, 13, 14, 15, 16] rfl rfl) rfl dX4_crowdIsOfThoseThatCame_76 ?_
      refine g_lload_n C 4 rfl rfl dX4_crowdIsOfThoseThatCame_79 ?_
      refine g_iload C 0 rfl dX4_crowdIsOfThoseThatCame_80 ?_
      refine g_aload_n C 2 rfl rfl dX4_crowdIsOfThoseThatCame_82 ?_
      refine g_X4_ledger C i_X4_crowdIsOfThoseThatCame_X4 m_X4_crowdIsOfThoseThatCame_3 0 rfl dX4_crowdIsOfThoseThatCame_83 ?_
      refine g_X2_spansN C i_X4_crowdIsOfThoseThatCame_X2 (by decide +kernel) 1 rfl dX4_crowdIsOfThoseThatCame_86 ?_
      refine g_iload C 1 rfl dX4_crowdIsOfThoseThatCame_89 ?_
      obtain ⟨g14, eg14, h⟩ := Option.bind_eq_some_iff.mp h
      refine g_cVr (As := [.int g9]) (n9 := 1) (st := [.int g10, .long v2]) (w2 := (wB E a ++ (wX2 E a 2 lt ls lw lh lx ++ (wX0 E a 13 g13.1 g13.2 ++ wX1 E a i nu z q u t c)))) C (c_X3_get E (a 5) (a 6) 120 ls g9 g14 eg14) gX4_crowdIsOfThoseThatCame_X3_get rfl (by decide +kernel) rfl ⟨by decide, by decide, by decide, by decide, Nat.le_of_ble_eq_true rfl⟩ 0 rfl rfl (gSub.idx [4, 5] rfl rfl) rfl dX4_crowdIsOfThoseThatCame_91 ?_
      refine g_imul C dX4_crowdIsOfThoseThatCame_94 ?_
      refine g_i2l C dX4_crowdIsOfThoseThatCame_95 ?_
      refine g_ladd C dX4_crowdIsOfThoseThatCame_96 ?_
      refine g_lstore_n C (lv2 := [(2, .long (v2 + ((g10 * g14).toInt64))), (6, .int g10), (5, .int g9), (0, .ref (a 0)), (1, .ref (a i)), (4, .int v4)]) rfl (by decide) rfl dX4_crowdIsOfThoseThatCame_97 ?_
      refine g_iinc C (v := v4 + 1) 5 rfl rfl (lv2 := [(4, .int (v4 + 1)), (2, .long (v2 + ((g10 * g14).toInt64))), (6, .int g10), (5, .int g9), (0, .ref (a 0)), (1, .ref (a i))]) rfl (by decide) dX4_crowdIsOfThoseThatCame_98 ?_
      refine g_goto C (tgt := 12) dX4_crowdIsOfThoseThatCame_101 (by decide) ?_
      refine g_lv [4, 5, 1, 0] (lv2 := [(0, .ref (a 0)), (1, .ref (a i)), (2, .long (v2 + ((g10 * g14).toInt64))), (4, .int (v4 + 1))]) rfl ?_
      exact ih (v2 + ((g10 * g14).toInt64)) (v4 + 1) g13.1 g13.2 h
set_option maxHeartbeats 4000000 in
set_option maxRecDepth 100000 in
theorem c_X4_crowdIsOfThoseThatCame (E : gE) (a : Nat → Nat) (i : Nat) (lt : RS) (ls : RS) (lw : RS) (lh : RS) (lx : RS) (rt : RS) (rc : RS) (nu : Int32) (z : Int32) (q : RS) (u : RS) (t : RS) (c : RS) (o : (Bool × RS × RS)) (h : f_X4_crowdIsOfThoseThatCame lt ls lw rt rc u t c = some o) : Ct E yX4_crowdIsOfThoseThatCame wsX4_crowdIsOfThoseThatCame r_X4_crowdIsOfThoseThatCame [.ref (a 0), .ref (a i)] (wB E a ++ (wX2 E a 2 lt ls lw lh lx ++ (wX0 E a 13 rt rc ++ wX1 E a i nu z q u t c))) (gO (fun u9 => some (.int (bI u9.1))) (fun u9 => (wB E a ++ (wX2 E a 2 lt ls lw lh lx ++ (wX0 E a 13 u9.2.1 u9.2.2 ++ wX1 E a i nu z q u t c)))) (.inr o)) := by
  refine Ct.of (cc := cX4_crowdIsOfThoseThatCame) (nL := 7) (ret := ((some .boolean))) (own := RX4) (by decide) rfl rfl (Nat.le_of_ble_eq_true rfl) rfl ?_ ?_
  · intro v w1 hh
    cases hh; rfl
  · intro X C hQ
    rw [f_X4_crowdIsOfThoseThatCame] at h
    refine g_aload_n C 0 rfl rfl dX4_crowdIsOfThoseThatCame_0 ?_
    refine g_X4_rebuilt C i_X4_crowdIsOfThoseThatCame_X4 m_X4_crowdIsOfThoseThatCame_0 0 rfl dX4_crowdIsOfThoseThatCame_1 ?_
    obtain ⟨g1, eg1, h⟩ := Option.bind_eq_some_iff.mp h
    refine g_cVv (As := []) (n9 := 0) (st := []) (w2 := (wB E a ++ (wX2 E a 2 lt ls lw lh lx ++ (wX0 E a 13 g1.1 g1.2 ++ wX1 E a i nu z q u t c)))) C (c_X0_clear E a 13 rt rc g1 eg1) gX4_crowdIsOfThoseThatCame_X0_clear rfl (by decide +kernel) rfl ⟨by decide, by decide, by decide, by decide, Nat.le_of_ble_eq_true rfl⟩ 0 rfl rfl (gSub.idx [12, 13, 14, 15, 16] rfl rfl) rfl dX4_crowdIsOfThoseThatCame_4 ?_
    refine g_lconst C (v := 0) (by decide) dX4_crowdIsOfThoseThatCame_7 ?_
    refine g_lstore_n C (lv2 := [(2, .long 0), (0, .ref (a 0)), (1, .ref (a i))]) rfl (by decide) rfl dX4_crowdIsOfThoseThatCame_8 ?_
    refine g_iconst C (v := 0) (by decide) dX4_crowdIsOfThoseThatCame_9 ?_
    refine g_istore C (lv2 := [(4, .int 0), (2, .long 0), (0, .ref (a 0)), (1, .ref (a i))]) rfl (by decide) dX4_crowdIsOfThoseThatCame_10 ?_
    refine g_lv [2, 3, 1, 0] (lv2 := [(0, .ref (a 0)), (1, .ref (a i)), (2, .long 0), (4, .int 0)]) rfl ?_
    exact w_X4_crowdIsOfThoseThatCame_12 C hQ FU 0 0 g1.1 g1.2 h
