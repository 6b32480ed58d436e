/-! the law's loop -/
section LP
variable {E : gE} {X : gX} {ret : Option FieldType} {hh : List ExceptionTableEntry} {sb Ln : Nat} {xs : Nat → Int32} {a b : Nat → Nat} {o1 o2 : Nat} {i5 : Int32} {bd k n : Nat} {fo : Nat → Int64} {fd : Nat → UInt64} {lt ls lw lh lx rt rc : RS} {zf : Nat → Int32} {qf uf tf cf : Nat → RS} {th ma st : Int32} {ti sp we ho sa ca cl : Nat → Int32} {su : Int64}
theorem hh_all {E : gE} {a : Nat → Nat} {zf : Nat → Int32} {qf uf tf cf : Nat → RS} (A : va_W) : wHl E a zf qf uf tf cf [0, 1, 2, 3] ++ A = wX1 E a 18 0 (zf 0) (qf 0) (uf 0) (tf 0) (cf 0) ++ (wX1 E a 28 1 (zf 1) (qf 1) (uf 1) (tf 1) (cf 1) ++ (wX1 E a 38 2 (zf 2) (qf 2) (uf 2) (tf 2) (cf 2) ++ (wX1 E a 48 3 (zf 3) (qf 3) (uf 3) (tf 3) (cf 3) ++ A))) := by
  show (wHk E a zf qf uf tf cf 0 ++ (wHk E a zf qf uf tf cf 1 ++ (wHk E a zf qf uf tf cf 2 ++ (wHk E a zf qf uf tf cf 3 ++ [])))) ++ A = _
  rw [List.append_assoc, List.append_assoc, List.append_assoc, List.append_assoc, List.nil_append]
  rfl
set_option maxHeartbeats 4000000 in
set_option maxRecDepth 100000 in
theorem case_sum (C : Cx E X cL_law 9 RL wsL_law room_1 ret hh) (K : Kont E X a b o1 o2 sb i5 bd k n) (hk2 : k + 4 ≤ 603072) (hn2 : n + 24 ≤ 7211114) (R : RQ bd lt ls lw lh lx zf qf uf tf cf ma st ti sp we ho sa ca cl) (hrb : rb rt rc) : Gx E X (WW E a b o1 o2 fo fd lt ls lw lh lx rt rc zf qf uf tf cf th ma st ti sp we ho sa ca cl su) 9 (lv0 sb a b o1 o2 i5) [] 2229 k n := by
  refine g_room (k2 := k + 4) (n2 := n + 24) (by omega) (by omega) ?_
  obtain ⟨s9, f1, f2⟩ := st_checksum R
  have cx := c_X4_checksum E a (zf 0) (qf 0) (uf 0) (tf 0) (cf 0) (zf 1) (qf 1) (uf 1) (tf 1) (cf 1) (zf 2) (qf 2) (uf 2) (tf 2) (cf 2) (zf 3) (qf 3) (uf 3) (tf 3) (cf 3) s9 f1
  rw [← hh_all (wA E a)] at cx
  refine g_aload_n C 2 rfl rfl dL_law_2229 ?_
  refine g_callVL (As := []) (n9 := 0) (st := []) (S := wM E b th ma st ti sp we ho sa ca cl su ++ (O2w E o2 fd ++ (O1w E o1 fo ++ (wX2 E a 2 lt ls lw lh lx ++ wX0 E a 13 rt rc)))) C cx gL_law_X4_checksum rfl (by decide +kernel) rfl ⟨by decide, by decide, hk2, hn2, by decide⟩ 0 rfl rfl (by unfold WW; exact pmC _ _ _ _ _ _ _ _) dL_law_2230 ?_
  refine g_perm (ws2 := WW E a b o1 o2 fo fd lt ls lw lh lx rt rc zf qf uf tf cf th ma st ti sp we ho sa ca cl su) (by
    unfold WW
    have h := (pmC (wM E b th ma st ti sp we ho sa ca cl su) (O2w E o2 fd) (O1w E o1 fo) (wB E a) (wX2 E a 2 lt ls lw lh lx) (wHl E a zf qf uf tf cf [0, 1, 2, 3]) (wA E a) (wX0 E a 13 rt rc)).symm
    rw [hh_all (wA E a)] at h
    exact h) ?_
  refine g_aload_n C 3 rfl rfl dL_law_2233 ?_
  refine g_callVL (As := []) (n9 := 0) (st := [.long s9]) C (c_X5_checksum E b th ma st ti sp we ho sa ca cl su (s9, 0, s9) f2) gL_law_X5_checksum rfl (by decide +kernel) rfl ⟨by decide, by decide, hk2, hn2, Nat.le_of_ble_eq_true rfl⟩ 0 rfl rfl (List.Perm.refl _) dL_law_2234 ?_
  refine g_lcmp C dL_law_2237 ?_
  refine g_if_eq (tgt := 2256) C dL_law_2238 (by decide) (fun _ => ?_) (fun h9 => absurd (cmp0 _) h9)
  exact K (RL_mono R (by omega)) hrb
set_option maxHeartbeats 4000000 in
set_option maxRecDepth 100000 in
theorem case_sound (C : Cx E X cL_law 9 RL wsL_law room_1 ret hh) (K : Kont E X a b o1 o2 sb i5 bd k n) (hk2 : k + 4 ≤ 603072) (hn2 : n + 24 ≤ 7211114) (R : RQ bd lt ls lw lh lx zf qf uf tf cf ma st ti sp we ho sa ca cl) (hrb : rb rt rc) : Gx E X (WW E a b o1 o2 fo fd lt ls lw lh lx rt rc zf qf uf tf cf th ma st ti sp we ho sa ca cl su) 9 (lv0 sb a b o1 o2 i5) [] 2243 k n := by
  refine g_room (k2 := k + 4) (n2 := n + 24) (by omega) (by omega) ?_
  obtain ⟨rt', rc', f1, hrb'⟩ := st_isSound R hrb
  have cx := c_X4_isSound E a lt ls lw lh lx rt rc (zf 0) (qf 0) (uf 0) (tf 0) (cf 0) (zf 1) (qf 1) (uf 1) (tf 1) (cf 1) (zf 2) (qf 2) (uf 2) (tf 2) (cf 2) (zf 3) (qf 3) (uf 3) (tf 3) (cf 3) (true, rt', rc') f1
  rw [← hh_all (wA E a ++ wX0 E a 13 rt rc)] at cx
  refine g_aload_n C 2 rfl rfl dL_law_2243 ?_
  refine g_callVL (As := []) (n9 := 0) (st := []) (S := wM E b th ma st ti sp we ho sa ca cl su ++ (O2w E o2 fd ++ O1w E o1 fo)) C cx gL_law_X4_isSound rfl (by decide +kernel) rfl ⟨by decide, by decide, hk2, hn2, by decide⟩ 0 rfl rfl (by unfold WW; exact pmS _ _ _ _ _ _ _ _) dL_law_2244 ?_
  refine g_perm (ws2 := WW E a b o1 o2 fo fd lt ls lw lh lx rt' rc' zf qf uf tf cf th ma st ti sp we ho sa ca cl su) (by
    unfold WW
    have h := (pmS (wM E b th ma st ti sp we ho sa ca cl su) (O2w E o2 fd) (O1w E o1 fo) (wB E a) (wX2 E a 2 lt ls lw lh lx) (wHl E a zf qf uf tf cf [0, 1, 2, 3]) (wA E a) (wX0 E a 13 rt' rc')).symm
    rw [hh_all (wA E a ++ wX0 E a 13 rt' rc')] at h
    exact h) ?_
  refine g_aload_n C 3 rfl rfl dL_law_2247 ?_
  refine g_callVL (As := []) (n9 := 0) (st := [.int (bI true)]) C (c_X5_isSound E b th ma st ti sp we ho sa ca cl su (true, 0) rfl) gL_law_X5_isSound rfl (by decide +kernel) rfl ⟨by decide, by decide, hk2, hn2, by decide⟩ 0 rfl rfl (List.Perm.refl _) dL_law_2248 ?_
  refine g_icmp_eq (tgt := 2256) C dL_law_2251 (by decide) (fun _ => ?_) (fun h9 => absurd rfl h9)
  exact K (RL_mono R (by omega)) hrb'
theorem vin {p : Int32} {j : Nat} (h : p.toInt = j) (hj : j < Ln) : vp_in p Ln := inB_in (inB_t h hj)
theorem and31 (x : Int32) : ∃ j : Nat, (x &&& 31).toInt = j ∧ j < 32 := by
  have h1 : (x &&& 31).toBitVec.toNat < 32 := by
    rw [Int32.toBitVec_and, BitVec.toNat_and]
    exact Nat.lt_of_le_of_lt Nat.and_le_right (by decide)
  refine ⟨(x &&& 31).toBitVec.toNat, ?_, h1⟩
  show (x &&& 31).toBitVec.toInt = _
  rw [BitVec.toInt_eq_toNat_of_lt (by omega)]
set_option maxHeartbeats 4000000 in
set_option maxRecDepth 100000 in
theorem law_loop (C : Cx E X cL_law 9 RL wsL_law room_1 ret hh) (S : Sx X sb Ln xs) (hL : Ln ≤ 3584) {k0 n0 : Nat} (hk0 : k0 ≤ 500000) (hn0 : n0 ≤ 5000000) (Z : ∀ (ws : va_W) (lv : List (Nat × Value)) (k n : Nat), k ≤ 603072 → n ≤ 7211114 → Gx E X ws 9 lv [.int 1] 2263 k n) : ∀ (F c : Nat) (i5 : Int32) (fo : Nat → Int64) (fd : Nat → UInt64) (lt ls lw lh lx rt rc : RS) (zf : Nat → Int32) (qf uf tf cf : Nat → RS) (th ma st : Int32) (ti sp we ho sa ca cl : Nat → Int32) (su : Int64), 513 ≤ c + F → c ≤ 512 → i5.toInt = ((7 * c : Nat) : Int) → RQ (120 * c) lt ls lw lh lx zf qf uf tf cf ma st ti sp we ho sa ca cl → rb rt rc → Gx E X (WW E a b o1 o2 fo fd lt ls lw lh lx rt rc zf qf uf tf cf th ma st ti sp we ho sa ca cl su) 9 (lv0 sb a b o1 o2 i5) [] 28 (k0 + 4 * c) (n0 + 24 * c) := by
  intro F
  induction F with
  | zero => intro c i5 _ _ _ _ _ _ _ _ _ _ _ _ _ _ _ _ _ _ _ _ _ _ _ _ _ _ hF hc; exact absurd hF (by omega)
  | succ F ih =>
    intro c i5 fo fd lt ls lw lh lx rt rc zf qf uf tf cf th ma st ti sp we ho sa ca cl su hF hc hi R hrb
    have eL : (Int32.ofNat Ln - 7).toInt = (Ln : Int) - 7 := by
      have h1 : (Int32.ofNat Ln).toInt = (Ln : Int) := nI_toInt (by omega)
      have h7 : (7 : Int32).toInt = 7 := rfl
      rw [tb (by rw [h1, h7]; omega) (by rw [h1, h7]; omega), h1, h7]
    refine g_iload C 0 rfl dL_law_28 ?_
    refine g_aload_n C 1 rfl rfl dL_law_30 ?_
    refine g_slen C S dL_law_31 ?_
    refine g_bipush C (v := 7) (by decide) dL_law_32 ?_
    refine g_isub C dL_law_34 ?_
    refine g_icmp_gt (tgt := 2262) C dL_law_35 (by decide) (fun _ => ?_) (fun h9 => ?_)
    · refine g_iconst C (v := 1) (by decide) dL_law_2262 ?_
      exact Z _ _ _ _ (by omega) (by omega)
    · have hlt : 7 * c + 7 ≤ Ln := by
        rw [Int32.lt_iff_toInt_lt, eL, hi] at h9
        omega
      have hin : ∀ c9 : Int32, 1 ≤ c9.toInt → c9.toInt ≤ 6 → vp_in (i5 + c9) Ln := fun c9 h1 h2 => by
        refine vin (j := 7 * c + c9.toInt.toNat) ?_ (by omega)
        rw [ta (by omega) (by omega), hi]
        omega
      have hk2 : k0 + 4 * c + 4 ≤ 603072 := by omega
      have hn2 : n0 + 24 * c + 24 ≤ 7211114 := by omega
      have hbd : 120 * c ≤ 900000 := by omega
      have K : Kont E X a b o1 o2 sb i5 (120 * c) (k0 + 4 * c) (n0 + 24 * c) := by
        intro fo fd lt ls lw lh lx rt rc zf qf uf tf cf th ma st ti sp we ho sa ca cl su R9 hrb9
        refine g_iinc C 0 rfl (v := i5 + 7) rfl (lv2 := lv0 sb a b o1 o2 (i5 + 7)) rfl (by decide) dL_law_2256 ?_
        refine g_goto (tgt := 28) C dL_law_2259 (by decide) ?_
        have h7 : (7 : Int32).toInt = 7 := rfl
        exact ih (c + 1) (i5 + 7) fo fd lt ls lw lh lx rt rc zf qf uf tf cf th ma st ti sp we ho sa ca cl su (by omega) (by omega) (by rw [ta (by rw [h7]; omega) (by rw [h7]; omega), h7, hi]; omega) (RL_mono R9 (by omega)) hrb9
      refine g_aload_n C 1 rfl rfl dL_law_38 ?_
      refine g_iload C 0 rfl dL_law_39 ?_
      refine g_sld C S (vin hi (by omega)) dL_law_41 ?_
      refine g_bipush C (v := 31) (by decide) dL_law_42 ?_
      refine g_iand C dL_law_44 ?_
      obtain ⟨j, hj, hj32⟩ := and31 (xs i5.toNatClampNeg)
      generalize xs i5.toNatClampNeg &&& 31 = v at hj
      have hd : j = 0 ∨ j = 1 ∨ j = 2 ∨ j = 3 ∨ j = 4 ∨ j = 5 ∨ j = 6 ∨ j = 7 ∨ j = 8 ∨ j = 9 ∨ j = 10 ∨ j = 11 ∨ j = 12 ∨ j = 13 ∨ j = 14 ∨ j = 15 ∨ j = 16 ∨ j = 17 ∨ j = 18 ∨ j = 19 ∨ j = 20 ∨ j = 21 ∨ j = 22 ∨ j = 23 ∨ j = 24 ∨ j = 25 ∨ j = 26 ∨ j = 27 ∨ j = 28 ∨ j = 29 ∨ j = 30 ∨ j = 31 := by omega
      rcases hd with rfl | rfl | rfl | rfl | rfl | rfl | rfl | rfl | rfl | rfl | rfl | rfl | rfl | rfl | rfl | rfl | rfl | rfl | rfl | rfl | rfl | rfl | rfl | rfl | rfl | rfl | rfl | rfl | rfl | rfl | rfl | rfl
      · refine g_tabI (off := 139) (tgt := 184) C dL_law_45 (by rw [hj]; decide) (by rw [hj]; decide) (by rw [hj]; rfl) (by decide) ?_
        exact case_book C S hin rfl rfl rfl rfl K hk2 hn2 R hbd hrb
      · refine g_tabI (off := 231) (tgt := 276) C dL_law_45 (by rw [hj]; decide) (by rw [hj]; decide) (by rw [hj]; rfl) (by decide) ?_
        exact case_series C S hin rfl rfl rfl rfl rfl rfl K hk2 hn2 R hbd hrb
      · refine g_tabI (off := 349) (tgt := 394) C dL_law_45 (by rw [hj]; decide) (by rw [hj]; decide) (by rw [hj]; rfl) (by decide) ?_
        exact case_callOff C S hin rfl rfl K hk2 hn2 R hbd hrb
      · refine g_tabI (off := 424) (tgt := 469) C dL_law_45 (by rw [hj]; decide) (by rw [hj]; decide) (by rw [hj]; rfl) (by decide) ?_
        exact case_callOffAll C S hin rfl rfl rfl K hk2 hn2 R hbd hrb
      · refine g_tabI (off := 504) (tgt := 549) C dL_law_45 (by rw [hj]; decide) (by rw [hj]; decide) (by rw [hj]; rfl) (by decide) ?_
        exact case_put C S hin rfl rfl rfl K hk2 hn2 R hbd hrb
      · refine g_tabI (off := 584) (tgt := 629) C dL_law_45 (by rw [hj]; decide) (by rw [hj]; decide) (by rw [hj]; rfl) (by decide) ?_
        exact case_join C S hin rfl rfl K hk2 hn2 R hbd hrb
      · refine g_tabI (off := 652) (tgt := 697) C dL_law_45 (by rw [hj]; decide) (by rw [hj]; decide) (by rw [hj]; rfl) (by decide) ?_
        exact case_part C S hin rfl rfl rfl K hk2 hn2 R hbd hrb
      · refine g_tabI (off := 732) (tgt := 777) C dL_law_45 (by rw [hj]; decide) (by rw [hj]; decide) (by rw [hj]; rfl) (by decide) ?_
        exact case_next C S hin rfl K hk2 hn2 R hbd hrb
      · refine g_tabI (off := 788) (tgt := 833) C dL_law_45 (by rw [hj]; decide) (by rw [hj]; decide) (by rw [hj]; rfl) (by decide) ?_
        exact case_run C S hin rfl rfl K hk2 hn2 R hbd hrb
      · refine g_tabI (off := 856) (tgt := 901) C dL_law_45 (by rw [hj]; decide) (by rw [hj]; decide) (by rw [hj]; rfl) (by decide) ?_
        exact case_back C S hin rfl rfl K hk2 hn2 R hbd hrb
      · refine g_tabI (off := 924) (tgt := 969) C dL_law_45 (by rw [hj]; decide) (by rw [hj]; decide) (by rw [hj]; rfl) (by decide) ?_
        exact case_clock C S hin rfl K hk2 hn2 R hbd hrb
      · refine g_tabI (off := 980) (tgt := 1025) C dL_law_45 (by rw [hj]; decide) (by rw [hj]; decide) (by rw [hj]; rfl) (by decide) ?_
        exact case_waiting C S hin rfl K hk2 hn2 R hbd hrb
      · refine g_tabI (off := 1036) (tgt := 1081) C dL_law_45 (by rw [hj]; decide) (by rw [hj]; decide) (by rw [hj]; rfl) (by decide) ?_
        exact case_came C S hin rfl K hk2 hn2 R hbd hrb
      · refine g_tabI (off := 1092) (tgt := 1137) C dL_law_45 (by rw [hj]; decide) (by rw [hj]; decide) (by rw [hj]; rfl) (by decide) ?_
        exact case_waits C S hin rfl rfl K hk2 hn2 R hbd hrb
      · refine g_tabI (off := 1160) (tgt := 1205) C dL_law_45 (by rw [hj]; decide) (by rw [hj]; decide) (by rw [hj]; rfl) (by decide) ?_
        exact case_cameAt C S hin rfl rfl K hk2 hn2 R hbd hrb
      · refine g_tabI (off := 1228) (tgt := 1273) C dL_law_45 (by rw [hj]; decide) (by rw [hj]; decide) (by rw [hj]; rfl) (by decide) ?_
        exact case_nextTime C S hin rfl rfl K hk2 hn2 R hbd hrb
      · refine g_tabI (off := 1296) (tgt := 1341) C dL_law_45 (by rw [hj]; decide) (by rw [hj]; decide) (by rw [hj]; rfl) (by decide) ?_
        exact case_about C S hin rfl rfl K hk2 hn2 R hbd hrb
      · refine g_tabI (off := 1365) (tgt := 1410) C dL_law_45 (by rw [hj]; decide) (by rw [hj]; decide) (by rw [hj]; rfl) (by decide) ?_
        exact case_crowd C S hin rfl rfl K hk2 hn2 R hbd hrb
      · refine g_tabI (off := 1433) (tgt := 1478) C dL_law_45 (by rw [hj]; decide) (by rw [hj]; decide) (by rw [hj]; rfl) (by decide) ?_
        exact case_change C S hin rfl rfl K hk2 hn2 R hbd hrb
      · refine g_tabI (off := 1501) (tgt := 1546) C dL_law_45 (by rw [hj]; decide) (by rw [hj]; decide) (by rw [hj]; rfl) (by decide) ?_
        exact case_greatest C S hin rfl K hk2 hn2 R hbd hrb
      · refine g_tabI (off := 1557) (tgt := 1602) C dL_law_45 (by rw [hj]; decide) (by rw [hj]; decide) (by rw [hj]; rfl) (by decide) ?_
        exact case_greatestFrom C S hin rfl K hk2 hn2 R hbd hrb
      · refine g_tabI (off := 1613) (tgt := 1658) C dL_law_45 (by rw [hj]; decide) (by rw [hj]; decide) (by rw [hj]; rfl) (by decide) ?_
        exact case_busy C S hin rfl rfl rfl K hk2 hn2 R hbd hrb
      · refine g_tabI (off := 1693) (tgt := 1738) C dL_law_45 (by rw [hj]; decide) (by rw [hj]; decide) (by rw [hj]; rfl) (by decide) ?_
        exact case_spans C S hin rfl K hk2 hn2 R hbd hrb
      · refine g_tabI (off := 1749) (tgt := 1794) C dL_law_45 (by rw [hj]; decide) (by rw [hj]; decide) (by rw [hj]; rfl) (by decide) ?_
        exact case_span C S hin rfl rfl rfl K hk2 hn2 R hbd hrb
      · refine g_tabI (off := 1831) (tgt := 1876) C dL_law_45 (by rw [hj]; decide) (by rw [hj]; decide) (by rw [hj]; rfl) (by decide) ?_
        exact case_free C S hin rfl rfl rfl K hk2 hn2 R hbd hrb
      · refine g_tabI (off := 1911) (tgt := 1956) C dL_law_45 (by rw [hj]; decide) (by rw [hj]; decide) (by rw [hj]; rfl) (by decide) ?_
        exact case_load C S hin rfl K hk2 hn2 R hbd hrb
      · refine g_tabI (off := 1966) (tgt := 2011) C dL_law_45 (by rw [hj]; decide) (by rw [hj]; decide) (by rw [hj]; rfl) (by decide) ?_
        exact case_mean C S hin rfl K hk2 hn2 R hbd hrb
      · refine g_tabI (off := 2043) (tgt := 2088) C dL_law_45 (by rw [hj]; decide) (by rw [hj]; decide) (by rw [hj]; rfl) (by decide) ?_
        exact case_share C S hin rfl K hk2 hn2 R hbd hrb
      · refine g_tabI (off := 2121) (tgt := 2166) C dL_law_45 (by rw [hj]; decide) (by rw [hj]; decide) (by rw [hj]; rfl) (by decide) ?_
        exact case_isQuiet C S hin rfl K hk2 hn2 R hbd hrb
      · refine g_tabI (off := 2184) (tgt := 2229) C dL_law_45 (by rw [hj]; decide) (by rw [hj]; decide) (by rw [hj]; rfl) (by decide) ?_
        exact case_sum C K hk2 hn2 R hrb
      · refine g_tabI (off := 2198) (tgt := 2243) C dL_law_45 (by rw [hj]; decide) (by rw [hj]; decide) (by rw [hj]; rfl) (by decide) ?_
        exact case_sound C K hk2 hn2 R hrb
      · refine g_tabO (tgt := 2256) C dL_law_45 (Or.inr (by rw [hj]; decide)) (by decide) ?_
        exact g_room (by omega) (by omega) (K (RL_mono R (by omega)) hrb)
end LP
