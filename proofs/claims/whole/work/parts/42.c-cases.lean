/-! the law's cases, 3 -/
section LC3
variable {E : gE} {X : gX} {ret : Option FieldType} {hh : List ExceptionTableEntry} {sb Ln : Nat} {xs : Nat → Int32} {a b : Nat → Nat} {o1 o2 : Nat} {i5 : Int32} {bd k n : Nat} {fo : Nat → Int64} {fd : Nat → UInt64} {lt ls lw lh lx rt rc : RS} {zf : Nat → Int32} {qf uf tf cf : Nat → RS} {th ma st : Int32} {ti sp we ho sa ca cl : Nat → Int32} {su : Int64} {p1 p2 p3 p4 p5 p6 : Int32}
set_option maxHeartbeats 4000000 in
set_option maxRecDepth 100000 in
theorem tail_clock (C : Cx E X cL_law 9 RL wsL_law room_1 ret hh) (S : Sx X sb Ln xs) (hin : ∀ c : Int32, 1 ≤ c.toInt → c.toInt ≤ 6 → vp_in (i5 + c) Ln) (e1 : xs (i5 + 1).toNatClampNeg = p1) {k1 n1 : Nat} (K : Kont E X a b o1 o2 sb i5 bd k n) (hk : k1 ≤ k + 4) (hn : n1 ≤ n + 24) (hk2 : k + 4 ≤ 603072) (hn2 : n + 24 ≤ 7211114) {κ : Int32} {r : _} (hr : f_X5_clock cl p1 = some r) (hth : r.2 = κ) (hv : κ = 0 → fo (0 : Int32).toNatClampNeg = r.1.toInt64) (hq : RQ (bd + 120) lt ls lw lh lx zf qf uf tf cf ma st ti sp we ho sa ca cl) (hb : rb rt rc) : Gx E X (WW E a b o1 o2 fo fd lt ls lw lh lx rt rc zf qf uf tf cf th ma st ti sp we ho sa ca cl su) 9 (lv0 sb a b o1 o2 i5) [.int κ] 980 k1 n1 := by
  refine g_room hk hn ?_
  refine g_istore C (lv2 := [(6, .int κ), (5, .int i5), (0, .ref sb), (1, .ref (a 0)), (2, .ref (b 0)), (3, .ref o1), (4, .ref o2)]) rfl (by decide) dL_law_980 ?_
  refine g_aload_n C 4 rfl rfl dL_law_982 ?_
  refine g_aload_n C 2 rfl rfl dL_law_983 ?_
  refine g_iload C 1 rfl dL_law_984 ?_
  refine g_iconst C (v := 1) (by decide) dL_law_986 ?_
  refine g_iadd C dL_law_987 ?_
  refine g_sldv C S (hin 1 (by decide) (by decide)) e1 dL_law_988 ?_
  refine g_callVL (As := [.int p1]) (n9 := 1) (st := []) C (c_X5_clock E b th ma st ti sp we ho sa ca cl su p1 r hr) gL_law_X5_clock rfl (by decide +kernel) rfl ⟨by decide, by decide, hk2, hn2, by decide⟩ 0 rfl rfl (List.Perm.refl _) dL_law_989 ?_
  refine g_istore C (lv2 := [(7, .int r.1), (6, .int κ), (5, .int i5), (0, .ref sb), (1, .ref (a 0)), (2, .ref (b 0)), (3, .ref o1), (4, .ref o2)]) rfl (by decide) dL_law_992 ?_
  refine g_aload_n C 5 rfl rfl dL_law_994 ?_
  refine g_callVL (As := []) (n9 := 0) (st := []) C (c_X5_thrown E b r.2 ma st ti sp we ho sa ca cl su r.2 rfl) gL_law_X5_thrown rfl (by decide +kernel) rfl ⟨by decide, by decide, hk2, hn2, by decide⟩ 0 rfl rfl (List.Perm.refl _) dL_law_995 ?_
  refine g_iload C 1 rfl dL_law_998 ?_
  refine g_icmp_eq (tgt := 1005) C dL_law_1000 (by decide) (fun _ => ?_) (fun h9 => absurd hth h9)
  refine g_iload C 1 rfl dL_law_1005 ?_
  refine g_if_ne (tgt := 1022) C dL_law_1007 (by decide) (fun _ => ?_) (fun hz => ?_)
  · refine g_goto (tgt := 2256) C dL_law_1022 (by decide) ?_
    refine g_lvs [2, 3, 4, 5, 6, 7] rfl ?_
    exact K hq hb
  · refine g_aload_n C 6 rfl rfl dL_law_1010 ?_
    refine g_iconst C (v := 0) (by decide) dL_law_1011 ?_
    refine g_lald C 9 rfl (inB_in (by decide +kernel)) dL_law_1012 ?_
    refine g_iload C 0 rfl dL_law_1013 ?_
    refine g_i2l C dL_law_1015 ?_
    refine g_lcmp C dL_law_1016 ?_
    refine g_if_eq (tgt := 1022) C dL_law_1017 (by decide) (fun _ => ?_) (fun h9 => absurd (by rw [hv hz]; exact cmp0 _) h9)
    refine g_goto (tgt := 2256) C dL_law_1022 (by decide) ?_
    refine g_lvs [2, 3, 4, 5, 6, 7] rfl ?_
    exact K hq hb
theorem ex_clock {e : String} {t9 : Int32} (h : (e, t9) ∈ ([("java/lang/IndexOutOfBoundsException", 1)] : List (String × Int32))) : (e = "java/lang/IndexOutOfBoundsException") ∧ t9 = ec_clock e ∧ ec_clock e ≠ 0 := by
  have h2 : (e = "java/lang/IndexOutOfBoundsException" ∧ t9 = 1) := by simpa using h
  rcases h2 with ⟨rfl, h8⟩ <;> subst h8 <;> refine ⟨by simp, by simp [ec_clock], by simp [ec_clock]⟩
set_option maxHeartbeats 4000000 in
set_option maxRecDepth 100000 in
theorem case_clock (C : Cx E X cL_law 9 RL wsL_law room_1 ret hh) (S : Sx X sb Ln xs) (hin : ∀ c : Int32, 1 ≤ c.toInt → c.toInt ≤ 6 → vp_in (i5 + c) Ln) (e1 : xs (i5 + 1).toNatClampNeg = p1) (K : Kont E X a b o1 o2 sb i5 bd k n) (hk2 : k + 4 ≤ 603072) (hn2 : n + 24 ≤ 7211114) (R : RQ bd lt ls lw lh lx zf qf uf tf cf ma st ti sp we ho sa ca cl) (hbd : bd ≤ 900000) (hrb : rb rt rc) : Gx E X (WW E a b o1 o2 fo fd lt ls lw lh lx rt rc zf qf uf tf cf th ma st ti sp we ho sa ca cl su) 9 (lv0 sb a b o1 o2 i5) [] 969 k n := by
  refine g_aload_n C 2 rfl rfl dL_law_969 ?_
  refine g_aload_n C 1 rfl rfl dL_law_970 ?_
  refine g_iload C 0 rfl dL_law_971 ?_
  refine g_iconst C (v := 1) (by decide) dL_law_973 ?_
  refine g_iadd C dL_law_974 ?_
  refine g_sldv C S (hin 1 (by decide) (by decide)) e1 dL_law_975 ?_
  refine g_aload_n C 4 rfl rfl dL_law_976 ?_
  by_cases hv1 : 0 ≤ p1.toInt ∧ p1.toInt < 4
  · obtain ⟨kh, hkp, hkh⟩ : ∃ kh : Nat, p1.toInt = kh ∧ kh < 4 := ⟨p1.toInt.toNat, by omega, by omega⟩
    have eh4 := houseAt_t hkp hkh
    obtain ⟨oc, r, f1, f2, h3⟩ := st_clock R hkp hkh 
    have cx := c_X4_clock E a kh lt ls lw lh lx (nI kh) (zf kh) (qf kh) (uf kh) (tf kh) (cf kh) p1 eh4 oc f1
    rcases h3 with ⟨e, he, hm⟩ | ⟨he, ht⟩
    · subst he
      exact absurd hm List.not_mem_nil
    · subst he
      refine g_callSL (As := [.ref (a 0), .int p1, .ref o1]) (n9 := 3) (st := []) (S := wM E b th ma st ti sp we ho sa ca cl su ++ (O2w E o2 fd ++ (wHl E a zf qf uf tf cf (hO kh) ++ wX0 E a 13 rt rc))) C (c_L_clock E o1 (a 0) fo p1 cx rfl (fun x hx => nomatch hx)) gL_law_L_clock rfl (by decide +kernel) rfl ⟨by decide, by decide, show k + 1 ≤ 603072 from by omega, show n + 6 ≤ 7211114 from by omega, by decide⟩ (by unfold WW; exact pm1 _ _ _ _ _ _ _ _ _ _ (hh_1 hkh)) dL_law_977 ?_
      refine g_perm (ws2 := WW E a b o1 o2 (vp_updL fo 0 (r.1).toInt64) fd lt ls lw lh lx rt rc zf qf uf tf cf th ma st ti sp we ho sa ca cl su) (by unfold WW; exact (pm1 _ _ _ _ _ _ _ _ _ _ (hh_1 hkh)).symm) ?_
      exact tail_clock C S hin e1 K (show k + 1 ≤ k + 4 from by omega) (show n + 6 ≤ n + 24 from by omega) hk2 hn2 f2 ht (fun _ => updL0 _ _) (RL_mono R (by omega)) hrb
  · have hpb : p1.toInt < 0 ∨ 4 ≤ p1.toInt := by omega
    obtain ⟨f1, f2⟩ := bad_clock (cl := cl) hpb 
    have cx := c_X4_clock_bad E a p1 (fun h9 => houseAt_no hpb h9) (.inl "java/lang/IndexOutOfBoundsException") f1
    have hm : ("java/lang/IndexOutOfBoundsException", (1 : Int32)) ∈ ([("java/lang/IndexOutOfBoundsException", 1)] : List (String × Int32)) := by simp
    have he2 := ex_clock hm
    refine g_callSL (As := [.ref (a 0), .int p1, .ref o1]) (n9 := 3) (st := []) (S := wM E b th ma st ti sp we ho sa ca cl su ++ (O2w E o2 fd ++ (wX2 E a 2 lt ls lw lh lx ++ (wHl E a zf qf uf tf cf [0, 1, 2, 3] ++ wX0 E a 13 rt rc)))) C (c_L_clock E o1 (a 0) fo p1 cx rfl (fun x hx => by cases hx; exact he2.1)) gL_law_L_clock rfl (by decide +kernel) rfl ⟨by decide, by decide, show k + 1 ≤ 603072 from by omega, show n + 6 ≤ 7211114 from by omega, by decide⟩ (by unfold WW; exact pm0 _ _ _ _ _ _ _ _) dL_law_977 ?_
    refine g_perm (ws2 := WW E a b o1 o2 fo fd lt ls lw lh lx rt rc zf qf uf tf cf th ma st ti sp we ho sa ca cl su) (by unfold WW; exact (pm0 _ _ _ _ _ _ _ _).symm) ?_
    exact tail_clock C S hin e1 K (show k + 1 ≤ k + 4 from by omega) (show n + 6 ≤ n + 24 from by omega) hk2 hn2 f2 he2.2.1 (fun h9 => absurd h9 he2.2.2) (RL_mono R (by omega)) hrb
set_option maxHeartbeats 4000000 in
set_option maxRecDepth 100000 in
theorem tail_waiting (C : Cx E X cL_law 9 RL wsL_law room_1 ret hh) (S : Sx X sb Ln xs) (hin : ∀ c : Int32, 1 ≤ c.toInt → c.toInt ≤ 6 → vp_in (i5 + c) Ln) (e1 : xs (i5 + 1).toNatClampNeg = p1) {k1 n1 : Nat} (K : Kont E X a b o1 o2 sb i5 bd k n) (hk : k1 ≤ k + 4) (hn : n1 ≤ n + 24) (hk2 : k + 4 ≤ 603072) (hn2 : n + 24 ≤ 7211114) {κ : Int32} {r : _} (hr : f_X5_waiting ma ho sa p1 = some r) (hth : r.2 = κ) (hv : κ = 0 → fo (0 : Int32).toNatClampNeg = r.1.toInt64) (hq : RQ (bd + 120) lt ls lw lh lx zf qf uf tf cf ma st ti sp we ho sa ca cl) (hb : rb rt rc) : Gx E X (WW E a b o1 o2 fo fd lt ls lw lh lx rt rc zf qf uf tf cf th ma st ti sp we ho sa ca cl su) 9 (lv0 sb a b o1 o2 i5) [.int κ] 1036 k1 n1 := by
  refine g_room hk hn ?_
  refine g_istore C (lv2 := [(6, .int κ), (5, .int i5), (0, .ref sb), (1, .ref (a 0)), (2, .ref (b 0)), (3, .ref o1), (4, .ref o2)]) rfl (by decide) dL_law_1036 ?_
  refine g_aload_n C 4 rfl rfl dL_law_1038 ?_
  refine g_aload_n C 2 rfl rfl dL_law_1039 ?_
  refine g_iload C 1 rfl dL_law_1040 ?_
  refine g_iconst C (v := 1) (by decide) dL_law_1042 ?_
  refine g_iadd C dL_law_1043 ?_
  refine g_sldv C S (hin 1 (by decide) (by decide)) e1 dL_law_1044 ?_
  refine g_callVL (As := [.int p1]) (n9 := 1) (st := []) C (c_X5_waiting E b th ma st ti sp we ho sa ca cl su p1 r hr) gL_law_X5_waiting rfl (by decide +kernel) rfl ⟨by decide, by decide, hk2, hn2, by decide⟩ 0 rfl rfl (List.Perm.refl _) dL_law_1045 ?_
  refine g_istore C (lv2 := [(7, .int r.1), (6, .int κ), (5, .int i5), (0, .ref sb), (1, .ref (a 0)), (2, .ref (b 0)), (3, .ref o1), (4, .ref o2)]) rfl (by decide) dL_law_1048 ?_
  refine g_aload_n C 5 rfl rfl dL_law_1050 ?_
  refine g_callVL (As := []) (n9 := 0) (st := []) C (c_X5_thrown E b r.2 ma st ti sp we ho sa ca cl su r.2 rfl) gL_law_X5_thrown rfl (by decide +kernel) rfl ⟨by decide, by decide, hk2, hn2, by decide⟩ 0 rfl rfl (List.Perm.refl _) dL_law_1051 ?_
  refine g_iload C 1 rfl dL_law_1054 ?_
  refine g_icmp_eq (tgt := 1061) C dL_law_1056 (by decide) (fun _ => ?_) (fun h9 => absurd hth h9)
  refine g_iload C 1 rfl dL_law_1061 ?_
  refine g_if_ne (tgt := 1078) C dL_law_1063 (by decide) (fun _ => ?_) (fun hz => ?_)
  · refine g_goto (tgt := 2256) C dL_law_1078 (by decide) ?_
    refine g_lvs [2, 3, 4, 5, 6, 7] rfl ?_
    exact K hq hb
  · refine g_aload_n C 6 rfl rfl dL_law_1066 ?_
    refine g_iconst C (v := 0) (by decide) dL_law_1067 ?_
    refine g_lald C 9 rfl (inB_in (by decide +kernel)) dL_law_1068 ?_
    refine g_iload C 0 rfl dL_law_1069 ?_
    refine g_i2l C dL_law_1071 ?_
    refine g_lcmp C dL_law_1072 ?_
    refine g_if_eq (tgt := 1078) C dL_law_1073 (by decide) (fun _ => ?_) (fun h9 => absurd (by rw [hv hz]; exact cmp0 _) h9)
    refine g_goto (tgt := 2256) C dL_law_1078 (by decide) ?_
    refine g_lvs [2, 3, 4, 5, 6, 7] rfl ?_
    exact K hq hb
theorem ex_waiting {e : String} {t9 : Int32} (h : (e, t9) ∈ ([("java/lang/IndexOutOfBoundsException", 1)] : List (String × Int32))) : (e = "java/lang/IndexOutOfBoundsException") ∧ t9 = ec_waiting e ∧ ec_waiting e ≠ 0 := by
  have h2 : (e = "java/lang/IndexOutOfBoundsException" ∧ t9 = 1) := by simpa using h
  rcases h2 with ⟨rfl, h8⟩ <;> subst h8 <;> refine ⟨by simp, by simp [ec_waiting], by simp [ec_waiting]⟩
set_option maxHeartbeats 4000000 in
set_option maxRecDepth 100000 in
theorem case_waiting (C : Cx E X cL_law 9 RL wsL_law room_1 ret hh) (S : Sx X sb Ln xs) (hin : ∀ c : Int32, 1 ≤ c.toInt → c.toInt ≤ 6 → vp_in (i5 + c) Ln) (e1 : xs (i5 + 1).toNatClampNeg = p1) (K : Kont E X a b o1 o2 sb i5 bd k n) (hk2 : k + 4 ≤ 603072) (hn2 : n + 24 ≤ 7211114) (R : RQ bd lt ls lw lh lx zf qf uf tf cf ma st ti sp we ho sa ca cl) (hbd : bd ≤ 900000) (hrb : rb rt rc) : Gx E X (WW E a b o1 o2 fo fd lt ls lw lh lx rt rc zf qf uf tf cf th ma st ti sp we ho sa ca cl su) 9 (lv0 sb a b o1 o2 i5) [] 1025 k n := by
  refine g_aload_n C 2 rfl rfl dL_law_1025 ?_
  refine g_aload_n C 1 rfl rfl dL_law_1026 ?_
  refine g_iload C 0 rfl dL_law_1027 ?_
  refine g_iconst C (v := 1) (by decide) dL_law_1029 ?_
  refine g_iadd C dL_law_1030 ?_
  refine g_sldv C S (hin 1 (by decide) (by decide)) e1 dL_law_1031 ?_
  refine g_aload_n C 4 rfl rfl dL_law_1032 ?_
  by_cases hv1 : 0 ≤ p1.toInt ∧ p1.toInt < 4
  · obtain ⟨kh, hkp, hkh⟩ : ∃ kh : Nat, p1.toInt = kh ∧ kh < 4 := ⟨p1.toInt.toNat, by omega, by omega⟩
    have eh4 := houseAt_t hkp hkh
    obtain ⟨oc, r, f1, f2, h3⟩ := st_waiting R hkp hkh 
    have cx := c_X4_waiting E a kh lt ls lw lh lx (nI kh) (zf kh) (qf kh) (uf kh) (tf kh) (cf kh) p1 eh4 oc f1
    rcases h3 with ⟨e, he, hm⟩ | ⟨he, ht⟩
    · subst he
      exact absurd hm List.not_mem_nil
    · subst he
      refine g_callSL (As := [.ref (a 0), .int p1, .ref o1]) (n9 := 3) (st := []) (S := wM E b th ma st ti sp we ho sa ca cl su ++ (O2w E o2 fd ++ (wHl E a zf qf uf tf cf (hO kh) ++ wX0 E a 13 rt rc))) C (c_L_waiting E o1 (a 0) fo p1 cx rfl (fun x hx => nomatch hx)) gL_law_L_waiting rfl (by decide +kernel) rfl ⟨by decide, by decide, show k + 1 ≤ 603072 from by omega, show n + 6 ≤ 7211114 from by omega, by decide⟩ (by unfold WW; exact pm1 _ _ _ _ _ _ _ _ _ _ (hh_1 hkh)) dL_law_1033 ?_
      refine g_perm (ws2 := WW E a b o1 o2 (vp_updL fo 0 (r.1).toInt64) fd lt ls lw lh lx rt rc zf qf uf tf cf th ma st ti sp we ho sa ca cl su) (by unfold WW; exact (pm1 _ _ _ _ _ _ _ _ _ _ (hh_1 hkh)).symm) ?_
      exact tail_waiting C S hin e1 K (show k + 1 ≤ k + 4 from by omega) (show n + 6 ≤ n + 24 from by omega) hk2 hn2 f2 ht (fun _ => updL0 _ _) (RL_mono R (by omega)) hrb
  · have hpb : p1.toInt < 0 ∨ 4 ≤ p1.toInt := by omega
    obtain ⟨f1, f2⟩ := bad_waiting (ma := ma) (ho := ho) (sa := sa) hpb 
    have cx := c_X4_waiting_bad E a p1 (fun h9 => houseAt_no hpb h9) (.inl "java/lang/IndexOutOfBoundsException") f1
    have hm : ("java/lang/IndexOutOfBoundsException", (1 : Int32)) ∈ ([("java/lang/IndexOutOfBoundsException", 1)] : List (String × Int32)) := by simp
    have he2 := ex_waiting hm
    refine g_callSL (As := [.ref (a 0), .int p1, .ref o1]) (n9 := 3) (st := []) (S := wM E b th ma st ti sp we ho sa ca cl su ++ (O2w E o2 fd ++ (wX2 E a 2 lt ls lw lh lx ++ (wHl E a zf qf uf tf cf [0, 1, 2, 3] ++ wX0 E a 13 rt rc)))) C (c_L_waiting E o1 (a 0) fo p1 cx rfl (fun x hx => by cases hx; exact he2.1)) gL_law_L_waiting rfl (by decide +kernel) rfl ⟨by decide, by decide, show k + 1 ≤ 603072 from by omega, show n + 6 ≤ 7211114 from by omega, by decide⟩ (by unfold WW; exact pm0 _ _ _ _ _ _ _ _) dL_law_1033 ?_
    refine g_perm (ws2 := WW E a b o1 o2 fo fd lt ls lw lh lx rt rc zf qf uf tf cf th ma st ti sp we ho sa ca cl su) (by unfold WW; exact (pm0 _ _ _ _ _ _ _ _).symm) ?_
    exact tail_waiting C S hin e1 K (show k + 1 ≤ k + 4 from by omega) (show n + 6 ≤ n + 24 from by omega) hk2 hn2 f2 he2.2.1 (fun h9 => absurd h9 he2.2.2) (RL_mono R (by omega)) hrb
set_option maxHeartbeats 4000000 in
set_option maxRecDepth 100000 in
theorem tail_came (C : Cx E X cL_law 9 RL wsL_law room_1 ret hh) (S : Sx X sb Ln xs) (hin : ∀ c : Int32, 1 ≤ c.toInt → c.toInt ≤ 6 → vp_in (i5 + c) Ln) (e1 : xs (i5 + 1).toNatClampNeg = p1) {k1 n1 : Nat} (K : Kont E X a b o1 o2 sb i5 bd k n) (hk : k1 ≤ k + 4) (hn : n1 ≤ n + 24) (hk2 : k + 4 ≤ 603072) (hn2 : n + 24 ≤ 7211114) {κ : Int32} {r : _} (hr : f_X5_came ma ho sa p1 = some r) (hth : r.2 = κ) (hv : κ = 0 → fo (0 : Int32).toNatClampNeg = r.1.toInt64) (hq : RQ (bd + 120) lt ls lw lh lx zf qf uf tf cf ma st ti sp we ho sa ca cl) (hb : rb rt rc) : Gx E X (WW E a b o1 o2 fo fd lt ls lw lh lx rt rc zf qf uf tf cf th ma st ti sp we ho sa ca cl su) 9 (lv0 sb a b o1 o2 i5) [.int κ] 1092 k1 n1 := by
  refine g_room hk hn ?_
  refine g_istore C (lv2 := [(6, .int κ), (5, .int i5), (0, .ref sb), (1, .ref (a 0)), (2, .ref (b 0)), (3, .ref o1), (4, .ref o2)]) rfl (by decide) dL_law_1092 ?_
  refine g_aload_n C 4 rfl rfl dL_law_1094 ?_
  refine g_aload_n C 2 rfl rfl dL_law_1095 ?_
  refine g_iload C 1 rfl dL_law_1096 ?_
  refine g_iconst C (v := 1) (by decide) dL_law_1098 ?_
  refine g_iadd C dL_law_1099 ?_
  refine g_sldv C S (hin 1 (by decide) (by decide)) e1 dL_law_1100 ?_
  refine g_callVL (As := [.int p1]) (n9 := 1) (st := []) C (c_X5_came E b th ma st ti sp we ho sa ca cl su p1 r hr) gL_law_X5_came rfl (by decide +kernel) rfl ⟨by decide, by decide, hk2, hn2, by decide⟩ 0 rfl rfl (List.Perm.refl _) dL_law_1101 ?_
  refine g_istore C (lv2 := [(7, .int r.1), (6, .int κ), (5, .int i5), (0, .ref sb), (1, .ref (a 0)), (2, .ref (b 0)), (3, .ref o1), (4, .ref o2)]) rfl (by decide) dL_law_1104 ?_
  refine g_aload_n C 5 rfl rfl dL_law_1106 ?_
  refine g_callVL (As := []) (n9 := 0) (st := []) C (c_X5_thrown E b r.2 ma st ti sp we ho sa ca cl su r.2 rfl) gL_law_X5_thrown rfl (by decide +kernel) rfl ⟨by decide, by decide, hk2, hn2, by decide⟩ 0 rfl rfl (List.Perm.refl _) dL_law_1107 ?_
  refine g_iload C 1 rfl dL_law_1110 ?_
  refine g_icmp_eq (tgt := 1117) C dL_law_1112 (by decide) (fun _ => ?_) (fun h9 => absurd hth h9)
  refine g_iload C 1 rfl dL_law_1117 ?_
  refine g_if_ne (tgt := 1134) C dL_law_1119 (by decide) (fun _ => ?_) (fun hz => ?_)
  · refine g_goto (tgt := 2256) C dL_law_1134 (by decide) ?_
    refine g_lvs [2, 3, 4, 5, 6, 7] rfl ?_
    exact K hq hb
  · refine g_aload_n C 6 rfl rfl dL_law_1122 ?_
    refine g_iconst C (v := 0) (by decide) dL_law_1123 ?_
    refine g_lald C 9 rfl (inB_in (by decide +kernel)) dL_law_1124 ?_
    refine g_iload C 0 rfl dL_law_1125 ?_
    refine g_i2l C dL_law_1127 ?_
    refine g_lcmp C dL_law_1128 ?_
    refine g_if_eq (tgt := 1134) C dL_law_1129 (by decide) (fun _ => ?_) (fun h9 => absurd (by rw [hv hz]; exact cmp0 _) h9)
    refine g_goto (tgt := 2256) C dL_law_1134 (by decide) ?_
    refine g_lvs [2, 3, 4, 5, 6, 7] rfl ?_
    exact K hq hb
theorem ex_came {e : String} {t9 : Int32} (h : (e, t9) ∈ ([("java/lang/IndexOutOfBoundsException", 1)] : List (String × Int32))) : (e = "java/lang/IndexOutOfBoundsException") ∧ t9 = ec_came e ∧ ec_came e ≠ 0 := by
  have h2 : (e = "java/lang/IndexOutOfBoundsException" ∧ t9 = 1) := by simpa using h
  rcases h2 with ⟨rfl, h8⟩ <;> subst h8 <;> refine ⟨by simp, by simp [ec_came], by simp [ec_came]⟩
set_option maxHeartbeats 4000000 in
set_option maxRecDepth 100000 in
theorem case_came (C : Cx E X cL_law 9 RL wsL_law room_1 ret hh) (S : Sx X sb Ln xs) (hin : ∀ c : Int32, 1 ≤ c.toInt → c.toInt ≤ 6 → vp_in (i5 + c) Ln) (e1 : xs (i5 + 1).toNatClampNeg = p1) (K : Kont E X a b o1 o2 sb i5 bd k n) (hk2 : k + 4 ≤ 603072) (hn2 : n + 24 ≤ 7211114) (R : RQ bd lt ls lw lh lx zf qf uf tf cf ma st ti sp we ho sa ca cl) (hbd : bd ≤ 900000) (hrb : rb rt rc) : Gx E X (WW E a b o1 o2 fo fd lt ls lw lh lx rt rc zf qf uf tf cf th ma st ti sp we ho sa ca cl su) 9 (lv0 sb a b o1 o2 i5) [] 1081 k n := by
  refine g_aload_n C 2 rfl rfl dL_law_1081 ?_
  refine g_aload_n C 1 rfl rfl dL_law_1082 ?_
  refine g_iload C 0 rfl dL_law_1083 ?_
  refine g_iconst C (v := 1) (by decide) dL_law_1085 ?_
  refine g_iadd C dL_law_1086 ?_
  refine g_sldv C S (hin 1 (by decide) (by decide)) e1 dL_law_1087 ?_
  refine g_aload_n C 4 rfl rfl dL_law_1088 ?_
  by_cases hv1 : 0 ≤ p1.toInt ∧ p1.toInt < 4
  · obtain ⟨kh, hkp, hkh⟩ : ∃ kh : Nat, p1.toInt = kh ∧ kh < 4 := ⟨p1.toInt.toNat, by omega, by omega⟩
    have eh4 := houseAt_t hkp hkh
    obtain ⟨oc, r, f1, f2, h3⟩ := st_came R hkp hkh 
    have cx := c_X4_came E a kh lt ls lw lh lx (nI kh) (zf kh) (qf kh) (uf kh) (tf kh) (cf kh) p1 eh4 oc f1
    rcases h3 with ⟨e, he, hm⟩ | ⟨he, ht⟩
    · subst he
      exact absurd hm List.not_mem_nil
    · subst he
      refine g_callSL (As := [.ref (a 0), .int p1, .ref o1]) (n9 := 3) (st := []) (S := wM E b th ma st ti sp we ho sa ca cl su ++ (O2w E o2 fd ++ (wHl E a zf qf uf tf cf (hO kh) ++ wX0 E a 13 rt rc))) C (c_L_came E o1 (a 0) fo p1 cx rfl (fun x hx => nomatch hx)) gL_law_L_came rfl (by decide +kernel) rfl ⟨by decide, by decide, show k + 1 ≤ 603072 from by omega, show n + 6 ≤ 7211114 from by omega, by decide⟩ (by unfold WW; exact pm1 _ _ _ _ _ _ _ _ _ _ (hh_1 hkh)) dL_law_1089 ?_
      refine g_perm (ws2 := WW E a b o1 o2 (vp_updL fo 0 (r.1).toInt64) fd lt ls lw lh lx rt rc zf qf uf tf cf th ma st ti sp we ho sa ca cl su) (by unfold WW; exact (pm1 _ _ _ _ _ _ _ _ _ _ (hh_1 hkh)).symm) ?_
      exact tail_came C S hin e1 K (show k + 1 ≤ k + 4 from by omega) (show n + 6 ≤ n + 24 from by omega) hk2 hn2 f2 ht (fun _ => updL0 _ _) (RL_mono R (by omega)) hrb
  · have hpb : p1.toInt < 0 ∨ 4 ≤ p1.toInt := by omega
    obtain ⟨f1, f2⟩ := bad_came (ma := ma) (ho := ho) (sa := sa) hpb 
    have cx := c_X4_came_bad E a p1 (fun h9 => houseAt_no hpb h9) (.inl "java/lang/IndexOutOfBoundsException") f1
    have hm : ("java/lang/IndexOutOfBoundsException", (1 : Int32)) ∈ ([("java/lang/IndexOutOfBoundsException", 1)] : List (String × Int32)) := by simp
    have he2 := ex_came hm
    refine g_callSL (As := [.ref (a 0), .int p1, .ref o1]) (n9 := 3) (st := []) (S := wM E b th ma st ti sp we ho sa ca cl su ++ (O2w E o2 fd ++ (wX2 E a 2 lt ls lw lh lx ++ (wHl E a zf qf uf tf cf [0, 1, 2, 3] ++ wX0 E a 13 rt rc)))) C (c_L_came E o1 (a 0) fo p1 cx rfl (fun x hx => by cases hx; exact he2.1)) gL_law_L_came rfl (by decide +kernel) rfl ⟨by decide, by decide, show k + 1 ≤ 603072 from by omega, show n + 6 ≤ 7211114 from by omega, by decide⟩ (by unfold WW; exact pm0 _ _ _ _ _ _ _ _) dL_law_1089 ?_
    refine g_perm (ws2 := WW E a b o1 o2 fo fd lt ls lw lh lx rt rc zf qf uf tf cf th ma st ti sp we ho sa ca cl su) (by unfold WW; exact (pm0 _ _ _ _ _ _ _ _).symm) ?_
    exact tail_came C S hin e1 K (show k + 1 ≤ k + 4 from by omega) (show n + 6 ≤ n + 24 from by omega) hk2 hn2 f2 he2.2.1 (fun h9 => absurd h9 he2.2.2) (RL_mono R (by omega)) hrb
set_option maxHeartbeats 4000000 in
set_option maxRecDepth 100000 in
theorem tail_waits (C : Cx E X cL_law 9 RL wsL_law room_1 ret hh) (S : Sx X sb Ln xs) (hin : ∀ c : Int32, 1 ≤ c.toInt → c.toInt ≤ 6 → vp_in (i5 + c) Ln) (e1 : xs (i5 + 1).toNatClampNeg = p1) (e2 : xs (i5 + 2).toNatClampNeg = p2) {k1 n1 : Nat} (K : Kont E X a b o1 o2 sb i5 bd k n) (hk : k1 ≤ k + 4) (hn : n1 ≤ n + 24) (hk2 : k + 4 ≤ 603072) (hn2 : n + 24 ≤ 7211114) {κ : Int32} {r : _} (hr : f_X5_waits ma ti ho sa p1 p2 = some r) (hth : r.2 = κ) (hv : κ = 0 → fo (0 : Int32).toNatClampNeg = r.1.toInt64) (hq : RQ (bd + 120) lt ls lw lh lx zf qf uf tf cf ma st ti sp we ho sa ca cl) (hb : rb rt rc) : Gx E X (WW E a b o1 o2 fo fd lt ls lw lh lx rt rc zf qf uf tf cf th ma st ti sp we ho sa ca cl su) 9 (lv0 sb a b o1 o2 i5) [.int κ] 1154 k1 n1 := by
  refine g_room hk hn ?_
  refine g_istore C (lv2 := [(6, .int κ), (5, .int i5), (0, .ref sb), (1, .ref (a 0)), (2, .ref (b 0)), (3, .ref o1), (4, .ref o2)]) rfl (by decide) dL_law_1154 ?_
  refine g_aload_n C 4 rfl rfl dL_law_1156 ?_
  refine g_aload_n C 2 rfl rfl dL_law_1157 ?_
  refine g_iload C 1 rfl dL_law_1158 ?_
  refine g_iconst C (v := 1) (by decide) dL_law_1160 ?_
  refine g_iadd C dL_law_1161 ?_
  refine g_sldv C S (hin 1 (by decide) (by decide)) e1 dL_law_1162 ?_
  refine g_aload_n C 2 rfl rfl dL_law_1163 ?_
  refine g_iload C 1 rfl dL_law_1164 ?_
  refine g_iconst C (v := 2) (by decide) dL_law_1166 ?_
  refine g_iadd C dL_law_1167 ?_
  refine g_sldv C S (hin 2 (by decide) (by decide)) e2 dL_law_1168 ?_
  refine g_callVL (As := [.int p1, .int p2]) (n9 := 2) (st := []) C (c_X5_waits E b th ma st ti sp we ho sa ca cl su p1 p2 r hr) gL_law_X5_waits rfl (by decide +kernel) rfl ⟨by decide, by decide, hk2, hn2, by decide⟩ 0 rfl rfl (List.Perm.refl _) dL_law_1169 ?_
  refine g_istore C (lv2 := [(7, .int r.1), (6, .int κ), (5, .int i5), (0, .ref sb), (1, .ref (a 0)), (2, .ref (b 0)), (3, .ref o1), (4, .ref o2)]) rfl (by decide) dL_law_1172 ?_
  refine g_aload_n C 5 rfl rfl dL_law_1174 ?_
  refine g_callVL (As := []) (n9 := 0) (st := []) C (c_X5_thrown E b r.2 ma st ti sp we ho sa ca cl su r.2 rfl) gL_law_X5_thrown rfl (by decide +kernel) rfl ⟨by decide, by decide, hk2, hn2, by decide⟩ 0 rfl rfl (List.Perm.refl _) dL_law_1175 ?_
  refine g_iload C 1 rfl dL_law_1178 ?_
  refine g_icmp_eq (tgt := 1185) C dL_law_1180 (by decide) (fun _ => ?_) (fun h9 => absurd hth h9)
  refine g_iload C 1 rfl dL_law_1185 ?_
  refine g_if_ne (tgt := 1202) C dL_law_1187 (by decide) (fun _ => ?_) (fun hz => ?_)
  · refine g_goto (tgt := 2256) C dL_law_1202 (by decide) ?_
    refine g_lvs [2, 3, 4, 5, 6, 7] rfl ?_
    exact K hq hb
  · refine g_aload_n C 6 rfl rfl dL_law_1190 ?_
    refine g_iconst C (v := 0) (by decide) dL_law_1191 ?_
    refine g_lald C 9 rfl (inB_in (by decide +kernel)) dL_law_1192 ?_
    refine g_iload C 0 rfl dL_law_1193 ?_
    refine g_i2l C dL_law_1195 ?_
    refine g_lcmp C dL_law_1196 ?_
    refine g_if_eq (tgt := 1202) C dL_law_1197 (by decide) (fun _ => ?_) (fun h9 => absurd (by rw [hv hz]; exact cmp0 _) h9)
    refine g_goto (tgt := 2256) C dL_law_1202 (by decide) ?_
    refine g_lvs [2, 3, 4, 5, 6, 7] rfl ?_
    exact K hq hb
theorem ex_waits {e : String} {t9 : Int32} (h : (e, t9) ∈ ([("java/lang/IndexOutOfBoundsException", 1), ("java/util/NoSuchElementException", 2)] : List (String × Int32))) : (e = "java/lang/IndexOutOfBoundsException" ∨ e = "java/util/NoSuchElementException") ∧ t9 = ec_waits e ∧ ec_waits e ≠ 0 := by
  have h2 : (e = "java/lang/IndexOutOfBoundsException" ∧ t9 = 1) ∨ (e = "java/util/NoSuchElementException" ∧ t9 = 2) := by simpa using h
  rcases h2 with ⟨rfl, h8⟩ | ⟨rfl, h8⟩ <;> subst h8 <;> refine ⟨by simp, by simp [ec_waits], by simp [ec_waits]⟩
set_option maxHeartbeats 4000000 in
set_option maxRecDepth 100000 in
theorem case_waits (C : Cx E X cL_law 9 RL wsL_law room_1 ret hh) (S : Sx X sb Ln xs) (hin : ∀ c : Int32, 1 ≤ c.toInt → c.toInt ≤ 6 → vp_in (i5 + c) Ln) (e1 : xs (i5 + 1).toNatClampNeg = p1) (e2 : xs (i5 + 2).toNatClampNeg = p2) (K : Kont E X a b o1 o2 sb i5 bd k n) (hk2 : k + 4 ≤ 603072) (hn2 : n + 24 ≤ 7211114) (R : RQ bd lt ls lw lh lx zf qf uf tf cf ma st ti sp we ho sa ca cl) (hbd : bd ≤ 900000) (hrb : rb rt rc) : Gx E X (WW E a b o1 o2 fo fd lt ls lw lh lx rt rc zf qf uf tf cf th ma st ti sp we ho sa ca cl su) 9 (lv0 sb a b o1 o2 i5) [] 1137 k n := by
  refine g_aload_n C 2 rfl rfl dL_law_1137 ?_
  refine g_aload_n C 1 rfl rfl dL_law_1138 ?_
  refine g_iload C 0 rfl dL_law_1139 ?_
  refine g_iconst C (v := 1) (by decide) dL_law_1141 ?_
  refine g_iadd C dL_law_1142 ?_
  refine g_sldv C S (hin 1 (by decide) (by decide)) e1 dL_law_1143 ?_
  refine g_aload_n C 1 rfl rfl dL_law_1144 ?_
  refine g_iload C 0 rfl dL_law_1145 ?_
  refine g_iconst C (v := 2) (by decide) dL_law_1147 ?_
  refine g_iadd C dL_law_1148 ?_
  refine g_sldv C S (hin 2 (by decide) (by decide)) e2 dL_law_1149 ?_
  refine g_aload_n C 4 rfl rfl dL_law_1150 ?_
  by_cases hv1 : 0 ≤ p1.toInt ∧ p1.toInt < 4
  · obtain ⟨kh, hkp, hkh⟩ : ∃ kh : Nat, p1.toInt = kh ∧ kh < 4 := ⟨p1.toInt.toNat, by omega, by omega⟩
    have eh4 := houseAt_t hkp hkh
    obtain ⟨oc, r, f1, f2, h3⟩ := st_waits R hkp hkh p2
    have cx := c_X4_waits E a kh lt ls lw lh lx (nI kh) (zf kh) (qf kh) (uf kh) (tf kh) (cf kh) p1 p2 eh4 oc f1
    rcases h3 with ⟨e, he, hm⟩ | ⟨he, ht⟩
    · subst he
      have hm : (e, r.2) ∈ ([("java/lang/IndexOutOfBoundsException", 1), ("java/util/NoSuchElementException", 2)] : List (String × Int32)) := List.mem_cons_of_mem _ hm
      have he2 := ex_waits hm
      refine g_callSL (As := [.ref (a 0), .int p1, .int p2, .ref o1]) (n9 := 4) (st := []) (S := wM E b th ma st ti sp we ho sa ca cl su ++ (O2w E o2 fd ++ (wHl E a zf qf uf tf cf (hO kh) ++ wX0 E a 13 rt rc))) C (c_L_waits E o1 (a 0) fo p1 p2 cx rfl (fun x hx => by cases hx; exact he2.1)) gL_law_L_waits rfl (by decide +kernel) rfl ⟨by decide, by decide, show k + 2 ≤ 603072 from by omega, show n + 12 ≤ 7211114 from by omega, by decide⟩ (by unfold WW; exact pm1 _ _ _ _ _ _ _ _ _ _ (hh_1 hkh)) dL_law_1151 ?_
      refine g_perm (ws2 := WW E a b o1 o2 fo fd lt ls lw lh lx rt rc zf qf uf tf cf th ma st ti sp we ho sa ca cl su) (by unfold WW; exact (pm1 _ _ _ _ _ _ _ _ _ _ (hh_1 hkh)).symm) ?_
      exact tail_waits C S hin e1 e2 K (show k + 2 ≤ k + 4 from by omega) (show n + 12 ≤ n + 24 from by omega) hk2 hn2 f2 he2.2.1 (fun h9 => absurd h9 he2.2.2) (RL_mono R (by omega)) hrb
    · subst he
      refine g_callSL (As := [.ref (a 0), .int p1, .int p2, .ref o1]) (n9 := 4) (st := []) (S := wM E b th ma st ti sp we ho sa ca cl su ++ (O2w E o2 fd ++ (wHl E a zf qf uf tf cf (hO kh) ++ wX0 E a 13 rt rc))) C (c_L_waits E o1 (a 0) fo p1 p2 cx rfl (fun x hx => nomatch hx)) gL_law_L_waits rfl (by decide +kernel) rfl ⟨by decide, by decide, show k + 2 ≤ 603072 from by omega, show n + 12 ≤ 7211114 from by omega, by decide⟩ (by unfold WW; exact pm1 _ _ _ _ _ _ _ _ _ _ (hh_1 hkh)) dL_law_1151 ?_
      refine g_perm (ws2 := WW E a b o1 o2 (vp_updL fo 0 (r.1).toInt64) fd lt ls lw lh lx rt rc zf qf uf tf cf th ma st ti sp we ho sa ca cl su) (by unfold WW; exact (pm1 _ _ _ _ _ _ _ _ _ _ (hh_1 hkh)).symm) ?_
      exact tail_waits C S hin e1 e2 K (show k + 2 ≤ k + 4 from by omega) (show n + 12 ≤ n + 24 from by omega) hk2 hn2 f2 ht (fun _ => updL0 _ _) (RL_mono R (by omega)) hrb
  · have hpb : p1.toInt < 0 ∨ 4 ≤ p1.toInt := by omega
    obtain ⟨f1, f2⟩ := bad_waits (ma := ma) (ti := ti) (ho := ho) (sa := sa) hpb p2
    have cx := c_X4_waits_bad E a p1 p2 (fun h9 => houseAt_no hpb h9) (.inl "java/lang/IndexOutOfBoundsException") f1
    have hm : ("java/lang/IndexOutOfBoundsException", (1 : Int32)) ∈ ([("java/lang/IndexOutOfBoundsException", 1), ("java/util/NoSuchElementException", 2)] : List (String × Int32)) := by simp
    have he2 := ex_waits hm
    refine g_callSL (As := [.ref (a 0), .int p1, .int p2, .ref o1]) (n9 := 4) (st := []) (S := wM E b th ma st ti sp we ho sa ca cl su ++ (O2w E o2 fd ++ (wX2 E a 2 lt ls lw lh lx ++ (wHl E a zf qf uf tf cf [0, 1, 2, 3] ++ wX0 E a 13 rt rc)))) C (c_L_waits E o1 (a 0) fo p1 p2 cx rfl (fun x hx => by cases hx; exact he2.1)) gL_law_L_waits rfl (by decide +kernel) rfl ⟨by decide, by decide, show k + 2 ≤ 603072 from by omega, show n + 12 ≤ 7211114 from by omega, by decide⟩ (by unfold WW; exact pm0 _ _ _ _ _ _ _ _) dL_law_1151 ?_
    refine g_perm (ws2 := WW E a b o1 o2 fo fd lt ls lw lh lx rt rc zf qf uf tf cf th ma st ti sp we ho sa ca cl su) (by unfold WW; exact (pm0 _ _ _ _ _ _ _ _).symm) ?_
    exact tail_waits C S hin e1 e2 K (show k + 2 ≤ k + 4 from by omega) (show n + 12 ≤ n + 24 from by omega) hk2 hn2 f2 he2.2.1 (fun h9 => absurd h9 he2.2.2) (RL_mono R (by omega)) hrb
set_option maxHeartbeats 4000000 in
set_option maxRecDepth 100000 in
theorem tail_cameAt (C : Cx E X cL_law 9 RL wsL_law room_1 ret hh) (S : Sx X sb Ln xs) (hin : ∀ c : Int32, 1 ≤ c.toInt → c.toInt ≤ 6 → vp_in (i5 + c) Ln) (e1 : xs (i5 + 1).toNatClampNeg = p1) (e2 : xs (i5 + 2).toNatClampNeg = p2) {k1 n1 : Nat} (K : Kont E X a b o1 o2 sb i5 bd k n) (hk : k1 ≤ k + 4) (hn : n1 ≤ n + 24) (hk2 : k + 4 ≤ 603072) (hn2 : n + 24 ≤ 7211114) {κ : Int32} {r : _} (hr : f_X5_cameAt ma ho sa ca p1 p2 = some r) (hth : r.2 = κ) (hv : κ = 0 → fo (0 : Int32).toNatClampNeg = r.1.toInt64) (hq : RQ (bd + 120) lt ls lw lh lx zf qf uf tf cf ma st ti sp we ho sa ca cl) (hb : rb rt rc) : Gx E X (WW E a b o1 o2 fo fd lt ls lw lh lx rt rc zf qf uf tf cf th ma st ti sp we ho sa ca cl su) 9 (lv0 sb a b o1 o2 i5) [.int κ] 1222 k1 n1 := by
  refine g_room hk hn ?_
  refine g_istore C (lv2 := [(6, .int κ), (5, .int i5), (0, .ref sb), (1, .ref (a 0)), (2, .ref (b 0)), (3, .ref o1), (4, .ref o2)]) rfl (by decide) dL_law_1222 ?_
  refine g_aload_n C 4 rfl rfl dL_law_1224 ?_
  refine g_aload_n C 2 rfl rfl dL_law_1225 ?_
  refine g_iload C 1 rfl dL_law_1226 ?_
  refine g_iconst C (v := 1) (by decide) dL_law_1228 ?_
  refine g_iadd C dL_law_1229 ?_
  refine g_sldv C S (hin 1 (by decide) (by decide)) e1 dL_law_1230 ?_
  refine g_aload_n C 2 rfl rfl dL_law_1231 ?_
  refine g_iload C 1 rfl dL_law_1232 ?_
  refine g_iconst C (v := 2) (by decide) dL_law_1234 ?_
  refine g_iadd C dL_law_1235 ?_
  refine g_sldv C S (hin 2 (by decide) (by decide)) e2 dL_law_1236 ?_
  refine g_callVL (As := [.int p1, .int p2]) (n9 := 2) (st := []) C (c_X5_cameAt E b th ma st ti sp we ho sa ca cl su p1 p2 r hr) gL_law_X5_cameAt rfl (by decide +kernel) rfl ⟨by decide, by decide, hk2, hn2, by decide⟩ 0 rfl rfl (List.Perm.refl _) dL_law_1237 ?_
  refine g_istore C (lv2 := [(7, .int r.1), (6, .int κ), (5, .int i5), (0, .ref sb), (1, .ref (a 0)), (2, .ref (b 0)), (3, .ref o1), (4, .ref o2)]) rfl (by decide) dL_law_1240 ?_
  refine g_aload_n C 5 rfl rfl dL_law_1242 ?_
  refine g_callVL (As := []) (n9 := 0) (st := []) C (c_X5_thrown E b r.2 ma st ti sp we ho sa ca cl su r.2 rfl) gL_law_X5_thrown rfl (by decide +kernel) rfl ⟨by decide, by decide, hk2, hn2, by decide⟩ 0 rfl rfl (List.Perm.refl _) dL_law_1243 ?_
  refine g_iload C 1 rfl dL_law_1246 ?_
  refine g_icmp_eq (tgt := 1253) C dL_law_1248 (by decide) (fun _ => ?_) (fun h9 => absurd hth h9)
  refine g_iload C 1 rfl dL_law_1253 ?_
  refine g_if_ne (tgt := 1270) C dL_law_1255 (by decide) (fun _ => ?_) (fun hz => ?_)
  · refine g_goto (tgt := 2256) C dL_law_1270 (by decide) ?_
    refine g_lvs [2, 3, 4, 5, 6, 7] rfl ?_
    exact K hq hb
  · refine g_aload_n C 6 rfl rfl dL_law_1258 ?_
    refine g_iconst C (v := 0) (by decide) dL_law_1259 ?_
    refine g_lald C 9 rfl (inB_in (by decide +kernel)) dL_law_1260 ?_
    refine g_iload C 0 rfl dL_law_1261 ?_
    refine g_i2l C dL_law_1263 ?_
    refine g_lcmp C dL_law_1264 ?_
    refine g_if_eq (tgt := 1270) C dL_law_1265 (by decide) (fun _ => ?_) (fun h9 => absurd (by rw [hv hz]; exact cmp0 _) h9)
    refine g_goto (tgt := 2256) C dL_law_1270 (by decide) ?_
    refine g_lvs [2, 3, 4, 5, 6, 7] rfl ?_
    exact K hq hb
theorem ex_cameAt {e : String} {t9 : Int32} (h : (e, t9) ∈ ([("java/lang/IndexOutOfBoundsException", 1), ("java/util/NoSuchElementException", 2)] : List (String × Int32))) : (e = "java/lang/IndexOutOfBoundsException" ∨ e = "java/util/NoSuchElementException") ∧ t9 = ec_cameAt e ∧ ec_cameAt e ≠ 0 := by
  have h2 : (e = "java/lang/IndexOutOfBoundsException" ∧ t9 = 1) ∨ (e = "java/util/NoSuchElementException" ∧ t9 = 2) := by simpa using h
  rcases h2 with ⟨rfl, h8⟩ | ⟨rfl, h8⟩ <;> subst h8 <;> refine ⟨by simp, by simp [ec_cameAt], by simp [ec_cameAt]⟩
set_option maxHeartbeats 4000000 in
set_option maxRecDepth 100000 in
theorem case_cameAt (C : Cx E X cL_law 9 RL wsL_law room_1 ret hh) (S : Sx X sb Ln xs) (hin : ∀ c : Int32, 1 ≤ c.toInt → c.toInt ≤ 6 → vp_in (i5 + c) Ln) (e1 : xs (i5 + 1).toNatClampNeg = p1) (e2 : xs (i5 + 2).toNatClampNeg = p2) (K : Kont E X a b o1 o2 sb i5 bd k n) (hk2 : k + 4 ≤ 603072) (hn2 : n + 24 ≤ 7211114) (R : RQ bd lt ls lw lh lx zf qf uf tf cf ma st ti sp we ho sa ca cl) (hbd : bd ≤ 900000) (hrb : rb rt rc) : Gx E X (WW E a b o1 o2 fo fd lt ls lw lh lx rt rc zf qf uf tf cf th ma st ti sp we ho sa ca cl su) 9 (lv0 sb a b o1 o2 i5) [] 1205 k n := by
  refine g_aload_n C 2 rfl rfl dL_law_1205 ?_
  refine g_aload_n C 1 rfl rfl dL_law_1206 ?_
  refine g_iload C 0 rfl dL_law_1207 ?_
  refine g_iconst C (v := 1) (by decide) dL_law_1209 ?_
  refine g_iadd C dL_law_1210 ?_
  refine g_sldv C S (hin 1 (by decide) (by decide)) e1 dL_law_1211 ?_
  refine g_aload_n C 1 rfl rfl dL_law_1212 ?_
  refine g_iload C 0 rfl dL_law_1213 ?_
  refine g_iconst C (v := 2) (by decide) dL_law_1215 ?_
  refine g_iadd C dL_law_1216 ?_
  refine g_sldv C S (hin 2 (by decide) (by decide)) e2 dL_law_1217 ?_
  refine g_aload_n C 4 rfl rfl dL_law_1218 ?_
  by_cases hv1 : 0 ≤ p1.toInt ∧ p1.toInt < 4
  · obtain ⟨kh, hkp, hkh⟩ : ∃ kh : Nat, p1.toInt = kh ∧ kh < 4 := ⟨p1.toInt.toNat, by omega, by omega⟩
    have eh4 := houseAt_t hkp hkh
    obtain ⟨oc, r, f1, f2, h3⟩ := st_cameAt R hkp hkh p2
    have cx := c_X4_cameAt E a kh lt ls lw lh lx (nI kh) (zf kh) (qf kh) (uf kh) (tf kh) (cf kh) p1 p2 eh4 oc f1
    rcases h3 with ⟨e, he, hm⟩ | ⟨he, ht⟩
    · subst he
      have hm : (e, r.2) ∈ ([("java/lang/IndexOutOfBoundsException", 1), ("java/util/NoSuchElementException", 2)] : List (String × Int32)) := List.mem_cons_of_mem _ hm
      have he2 := ex_cameAt hm
      refine g_callSL (As := [.ref (a 0), .int p1, .int p2, .ref o1]) (n9 := 4) (st := []) (S := wM E b th ma st ti sp we ho sa ca cl su ++ (O2w E o2 fd ++ (wHl E a zf qf uf tf cf (hO kh) ++ wX0 E a 13 rt rc))) C (c_L_cameAt E o1 (a 0) fo p1 p2 cx rfl (fun x hx => by cases hx; exact he2.1)) gL_law_L_cameAt rfl (by decide +kernel) rfl ⟨by decide, by decide, show k + 2 ≤ 603072 from by omega, show n + 12 ≤ 7211114 from by omega, by decide⟩ (by unfold WW; exact pm1 _ _ _ _ _ _ _ _ _ _ (hh_1 hkh)) dL_law_1219 ?_
      refine g_perm (ws2 := WW E a b o1 o2 fo fd lt ls lw lh lx rt rc zf qf uf tf cf th ma st ti sp we ho sa ca cl su) (by unfold WW; exact (pm1 _ _ _ _ _ _ _ _ _ _ (hh_1 hkh)).symm) ?_
      exact tail_cameAt C S hin e1 e2 K (show k + 2 ≤ k + 4 from by omega) (show n + 12 ≤ n + 24 from by omega) hk2 hn2 f2 he2.2.1 (fun h9 => absurd h9 he2.2.2) (RL_mono R (by omega)) hrb
    · subst he
      refine g_callSL (As := [.ref (a 0), .int p1, .int p2, .ref o1]) (n9 := 4) (st := []) (S := wM E b th ma st ti sp we ho sa ca cl su ++ (O2w E o2 fd ++ (wHl E a zf qf uf tf cf (hO kh) ++ wX0 E a 13 rt rc))) C (c_L_cameAt E o1 (a 0) fo p1 p2 cx rfl (fun x hx => nomatch hx)) gL_law_L_cameAt rfl (by decide +kernel) rfl ⟨by decide, by decide, show k + 2 ≤ 603072 from by omega, show n + 12 ≤ 7211114 from by omega, by decide⟩ (by unfold WW; exact pm1 _ _ _ _ _ _ _ _ _ _ (hh_1 hkh)) dL_law_1219 ?_
      refine g_perm (ws2 := WW E a b o1 o2 (vp_updL fo 0 (r.1).toInt64) fd lt ls lw lh lx rt rc zf qf uf tf cf th ma st ti sp we ho sa ca cl su) (by unfold WW; exact (pm1 _ _ _ _ _ _ _ _ _ _ (hh_1 hkh)).symm) ?_
      exact tail_cameAt C S hin e1 e2 K (show k + 2 ≤ k + 4 from by omega) (show n + 12 ≤ n + 24 from by omega) hk2 hn2 f2 ht (fun _ => updL0 _ _) (RL_mono R (by omega)) hrb
  · have hpb : p1.toInt < 0 ∨ 4 ≤ p1.toInt := by omega
    obtain ⟨f1, f2⟩ := bad_cameAt (ma := ma) (ho := ho) (sa := sa) (ca := ca) hpb p2
    have cx := c_X4_cameAt_bad E a p1 p2 (fun h9 => houseAt_no hpb h9) (.inl "java/lang/IndexOutOfBoundsException") f1
    have hm : ("java/lang/IndexOutOfBoundsException", (1 : Int32)) ∈ ([("java/lang/IndexOutOfBoundsException", 1), ("java/util/NoSuchElementException", 2)] : List (String × Int32)) := by simp
    have he2 := ex_cameAt hm
    refine g_callSL (As := [.ref (a 0), .int p1, .int p2, .ref o1]) (n9 := 4) (st := []) (S := wM E b th ma st ti sp we ho sa ca cl su ++ (O2w E o2 fd ++ (wX2 E a 2 lt ls lw lh lx ++ (wHl E a zf qf uf tf cf [0, 1, 2, 3] ++ wX0 E a 13 rt rc)))) C (c_L_cameAt E o1 (a 0) fo p1 p2 cx rfl (fun x hx => by cases hx; exact he2.1)) gL_law_L_cameAt rfl (by decide +kernel) rfl ⟨by decide, by decide, show k + 2 ≤ 603072 from by omega, show n + 12 ≤ 7211114 from by omega, by decide⟩ (by unfold WW; exact pm0 _ _ _ _ _ _ _ _) dL_law_1219 ?_
    refine g_perm (ws2 := WW E a b o1 o2 fo fd lt ls lw lh lx rt rc zf qf uf tf cf th ma st ti sp we ho sa ca cl su) (by unfold WW; exact (pm0 _ _ _ _ _ _ _ _).symm) ?_
    exact tail_cameAt C S hin e1 e2 K (show k + 2 ≤ k + 4 from by omega) (show n + 12 ≤ n + 24 from by omega) hk2 hn2 f2 he2.2.1 (fun h9 => absurd h9 he2.2.2) (RL_mono R (by omega)) hrb
set_option maxHeartbeats 4000000 in
set_option maxRecDepth 100000 in
theorem tail_nextTime (C : Cx E X cL_law 9 RL wsL_law room_1 ret hh) (S : Sx X sb Ln xs) (hin : ∀ c : Int32, 1 ≤ c.toInt → c.toInt ≤ 6 → vp_in (i5 + c) Ln) (e1 : xs (i5 + 1).toNatClampNeg = p1) (e2 : xs (i5 + 2).toNatClampNeg = p2) {k1 n1 : Nat} (K : Kont E X a b o1 o2 sb i5 bd k n) (hk : k1 ≤ k + 4) (hn : n1 ≤ n + 24) (hk2 : k + 4 ≤ 603072) (hn2 : n + 24 ≤ 7211114) {κ : Int32} {r : _} (hr : f_X5_nextTime ma ti ho sa p1 p2 = some r) (hth : r.2 = κ) (hv : κ = 0 → fo (0 : Int32).toNatClampNeg = r.1.toInt64) (hq : RQ (bd + 120) lt ls lw lh lx zf qf uf tf cf ma st ti sp we ho sa ca cl) (hb : rb rt rc) : Gx E X (WW E a b o1 o2 fo fd lt ls lw lh lx rt rc zf qf uf tf cf th ma st ti sp we ho sa ca cl su) 9 (lv0 sb a b o1 o2 i5) [.int κ] 1290 k1 n1 := by
  refine g_room hk hn ?_
  refine g_istore C (lv2 := [(6, .int κ), (5, .int i5), (0, .ref sb), (1, .ref (a 0)), (2, .ref (b 0)), (3, .ref o1), (4, .ref o2)]) rfl (by decide) dL_law_1290 ?_
  refine g_aload_n C 4 rfl rfl dL_law_1292 ?_
  refine g_aload_n C 2 rfl rfl dL_law_1293 ?_
  refine g_iload C 1 rfl dL_law_1294 ?_
  refine g_iconst C (v := 1) (by decide) dL_law_1296 ?_
  refine g_iadd C dL_law_1297 ?_
  refine g_sldv C S (hin 1 (by decide) (by decide)) e1 dL_law_1298 ?_
  refine g_aload_n C 2 rfl rfl dL_law_1299 ?_
  refine g_iload C 1 rfl dL_law_1300 ?_
  refine g_iconst C (v := 2) (by decide) dL_law_1302 ?_
  refine g_iadd C dL_law_1303 ?_
  refine g_sldv C S (hin 2 (by decide) (by decide)) e2 dL_law_1304 ?_
  refine g_callVL (As := [.int p1, .int p2]) (n9 := 2) (st := []) C (c_X5_nextTime E b th ma st ti sp we ho sa ca cl su p1 p2 r hr) gL_law_X5_nextTime rfl (by decide +kernel) rfl ⟨by decide, by decide, hk2, hn2, by decide⟩ 0 rfl rfl (List.Perm.refl _) dL_law_1305 ?_
  refine g_istore C (lv2 := [(7, .int r.1), (6, .int κ), (5, .int i5), (0, .ref sb), (1, .ref (a 0)), (2, .ref (b 0)), (3, .ref o1), (4, .ref o2)]) rfl (by decide) dL_law_1308 ?_
  refine g_aload_n C 5 rfl rfl dL_law_1310 ?_
  refine g_callVL (As := []) (n9 := 0) (st := []) C (c_X5_thrown E b r.2 ma st ti sp we ho sa ca cl su r.2 rfl) gL_law_X5_thrown rfl (by decide +kernel) rfl ⟨by decide, by decide, hk2, hn2, by decide⟩ 0 rfl rfl (List.Perm.refl _) dL_law_1311 ?_
  refine g_iload C 1 rfl dL_law_1314 ?_
  refine g_icmp_eq (tgt := 1321) C dL_law_1316 (by decide) (fun _ => ?_) (fun h9 => absurd hth h9)
  refine g_iload C 1 rfl dL_law_1321 ?_
  refine g_if_ne (tgt := 1338) C dL_law_1323 (by decide) (fun _ => ?_) (fun hz => ?_)
  · refine g_goto (tgt := 2256) C dL_law_1338 (by decide) ?_
    refine g_lvs [2, 3, 4, 5, 6, 7] rfl ?_
    exact K hq hb
  · refine g_aload_n C 6 rfl rfl dL_law_1326 ?_
    refine g_iconst C (v := 0) (by decide) dL_law_1327 ?_
    refine g_lald C 9 rfl (inB_in (by decide +kernel)) dL_law_1328 ?_
    refine g_iload C 0 rfl dL_law_1329 ?_
    refine g_i2l C dL_law_1331 ?_
    refine g_lcmp C dL_law_1332 ?_
    refine g_if_eq (tgt := 1338) C dL_law_1333 (by decide) (fun _ => ?_) (fun h9 => absurd (by rw [hv hz]; exact cmp0 _) h9)
    refine g_goto (tgt := 2256) C dL_law_1338 (by decide) ?_
    refine g_lvs [2, 3, 4, 5, 6, 7] rfl ?_
    exact K hq hb
theorem ex_nextTime {e : String} {t9 : Int32} (h : (e, t9) ∈ ([("java/lang/IndexOutOfBoundsException", 1), ("java/util/NoSuchElementException", 2)] : List (String × Int32))) : (e = "java/lang/IndexOutOfBoundsException" ∨ e = "java/util/NoSuchElementException") ∧ t9 = ec_nextTime e ∧ ec_nextTime e ≠ 0 := by
  have h2 : (e = "java/lang/IndexOutOfBoundsException" ∧ t9 = 1) ∨ (e = "java/util/NoSuchElementException" ∧ t9 = 2) := by simpa using h
  rcases h2 with ⟨rfl, h8⟩ | ⟨rfl, h8⟩ <;> subst h8 <;> refine ⟨by simp, by simp [ec_nextTime], by simp [ec_nextTime]⟩
set_option maxHeartbeats 4000000 in
set_option maxRecDepth 100000 in
theorem case_nextTime (C : Cx E X cL_law 9 RL wsL_law room_1 ret hh) (S : Sx X sb Ln xs) (hin : ∀ c : Int32, 1 ≤ c.toInt → c.toInt ≤ 6 → vp_in (i5 + c) Ln) (e1 : xs (i5 + 1).toNatClampNeg = p1) (e2 : xs (i5 + 2).toNatClampNeg = p2) (K : Kont E X a b o1 o2 sb i5 bd k n) (hk2 : k + 4 ≤ 603072) (hn2 : n + 24 ≤ 7211114) (R : RQ bd lt ls lw lh lx zf qf uf tf cf ma st ti sp we ho sa ca cl) (hbd : bd ≤ 900000) (hrb : rb rt rc) : Gx E X (WW E a b o1 o2 fo fd lt ls lw lh lx rt rc zf qf uf tf cf th ma st ti sp we ho sa ca cl su) 9 (lv0 sb a b o1 o2 i5) [] 1273 k n := by
  refine g_aload_n C 2 rfl rfl dL_law_1273 ?_
  refine g_aload_n C 1 rfl rfl dL_law_1274 ?_
  refine g_iload C 0 rfl dL_law_1275 ?_
  refine g_iconst C (v := 1) (by decide) dL_law_1277 ?_
  refine g_iadd C dL_law_1278 ?_
  refine g_sldv C S (hin 1 (by decide) (by decide)) e1 dL_law_1279 ?_
  refine g_aload_n C 1 rfl rfl dL_law_1280 ?_
  refine g_iload C 0 rfl dL_law_1281 ?_
  refine g_iconst C (v := 2) (by decide) dL_law_1283 ?_
  refine g_iadd C dL_law_1284 ?_
  refine g_sldv C S (hin 2 (by decide) (by decide)) e2 dL_law_1285 ?_
  refine g_aload_n C 4 rfl rfl dL_law_1286 ?_
  by_cases hv1 : 0 ≤ p1.toInt ∧ p1.toInt < 4
  · obtain ⟨kh, hkp, hkh⟩ : ∃ kh : Nat, p1.toInt = kh ∧ kh < 4 := ⟨p1.toInt.toNat, by omega, by omega⟩
    have eh4 := houseAt_t hkp hkh
    obtain ⟨oc, r, f1, f2, h3⟩ := st_nextTime R hkp hkh p2
    have cx := c_X4_nextTime E a kh lt ls lw lh lx (nI kh) (zf kh) (qf kh) (uf kh) (tf kh) (cf kh) p1 p2 eh4 oc f1
    rcases h3 with ⟨e, he, hm⟩ | ⟨he, ht⟩
    · subst he
      have hm : (e, r.2) ∈ ([("java/lang/IndexOutOfBoundsException", 1), ("java/util/NoSuchElementException", 2)] : List (String × Int32)) := List.mem_cons_of_mem _ hm
      have he2 := ex_nextTime hm
      refine g_callSL (As := [.ref (a 0), .int p1, .int p2, .ref o1]) (n9 := 4) (st := []) (S := wM E b th ma st ti sp we ho sa ca cl su ++ (O2w E o2 fd ++ (wHl E a zf qf uf tf cf (hO kh) ++ wX0 E a 13 rt rc))) C (c_L_nextTime E o1 (a 0) fo p1 p2 cx rfl (fun x hx => by cases hx; exact he2.1)) gL_law_L_nextTime rfl (by decide +kernel) rfl ⟨by decide, by decide, show k + 2 ≤ 603072 from by omega, show n + 12 ≤ 7211114 from by omega, by decide⟩ (by unfold WW; exact pm1 _ _ _ _ _ _ _ _ _ _ (hh_1 hkh)) dL_law_1287 ?_
      refine g_perm (ws2 := WW E a b o1 o2 fo fd lt ls lw lh lx rt rc zf qf uf tf cf th ma st ti sp we ho sa ca cl su) (by unfold WW; exact (pm1 _ _ _ _ _ _ _ _ _ _ (hh_1 hkh)).symm) ?_
      exact tail_nextTime C S hin e1 e2 K (show k + 2 ≤ k + 4 from by omega) (show n + 12 ≤ n + 24 from by omega) hk2 hn2 f2 he2.2.1 (fun h9 => absurd h9 he2.2.2) (RL_mono R (by omega)) hrb
    · subst he
      refine g_callSL (As := [.ref (a 0), .int p1, .int p2, .ref o1]) (n9 := 4) (st := []) (S := wM E b th ma st ti sp we ho sa ca cl su ++ (O2w E o2 fd ++ (wHl E a zf qf uf tf cf (hO kh) ++ wX0 E a 13 rt rc))) C (c_L_nextTime E o1 (a 0) fo p1 p2 cx rfl (fun x hx => nomatch hx)) gL_law_L_nextTime rfl (by decide +kernel) rfl ⟨by decide, by decide, show k + 2 ≤ 603072 from by omega, show n + 12 ≤ 7211114 from by omega, by decide⟩ (by unfold WW; exact pm1 _ _ _ _ _ _ _ _ _ _ (hh_1 hkh)) dL_law_1287 ?_
      refine g_perm (ws2 := WW E a b o1 o2 (vp_updL fo 0 (r.1).toInt64) fd lt ls lw lh lx rt rc zf qf uf tf cf th ma st ti sp we ho sa ca cl su) (by unfold WW; exact (pm1 _ _ _ _ _ _ _ _ _ _ (hh_1 hkh)).symm) ?_
      exact tail_nextTime C S hin e1 e2 K (show k + 2 ≤ k + 4 from by omega) (show n + 12 ≤ n + 24 from by omega) hk2 hn2 f2 ht (fun _ => updL0 _ _) (RL_mono R (by omega)) hrb
  · have hpb : p1.toInt < 0 ∨ 4 ≤ p1.toInt := by omega
    obtain ⟨f1, f2⟩ := bad_nextTime (ma := ma) (ti := ti) (ho := ho) (sa := sa) hpb p2
    have cx := c_X4_nextTime_bad E a p1 p2 (fun h9 => houseAt_no hpb h9) (.inl "java/lang/IndexOutOfBoundsException") f1
    have hm : ("java/lang/IndexOutOfBoundsException", (1 : Int32)) ∈ ([("java/lang/IndexOutOfBoundsException", 1), ("java/util/NoSuchElementException", 2)] : List (String × Int32)) := by simp
    have he2 := ex_nextTime hm
    refine g_callSL (As := [.ref (a 0), .int p1, .int p2, .ref o1]) (n9 := 4) (st := []) (S := wM E b th ma st ti sp we ho sa ca cl su ++ (O2w E o2 fd ++ (wX2 E a 2 lt ls lw lh lx ++ (wHl E a zf qf uf tf cf [0, 1, 2, 3] ++ wX0 E a 13 rt rc)))) C (c_L_nextTime E o1 (a 0) fo p1 p2 cx rfl (fun x hx => by cases hx; exact he2.1)) gL_law_L_nextTime rfl (by decide +kernel) rfl ⟨by decide, by decide, show k + 2 ≤ 603072 from by omega, show n + 12 ≤ 7211114 from by omega, by decide⟩ (by unfold WW; exact pm0 _ _ _ _ _ _ _ _) dL_law_1287 ?_
    refine g_perm (ws2 := WW E a b o1 o2 fo fd lt ls lw lh lx rt rc zf qf uf tf cf th ma st ti sp we ho sa ca cl su) (by unfold WW; exact (pm0 _ _ _ _ _ _ _ _).symm) ?_
    exact tail_nextTime C S hin e1 e2 K (show k + 2 ≤ k + 4 from by omega) (show n + 12 ≤ n + 24 from by omega) hk2 hn2 f2 he2.2.1 (fun h9 => absurd h9 he2.2.2) (RL_mono R (by omega)) hrb
set_option maxHeartbeats 4000000 in
set_option maxRecDepth 100000 in
theorem tail_about (C : Cx E X cL_law 9 RL wsL_law room_1 ret hh) (S : Sx X sb Ln xs) (hin : ∀ c : Int32, 1 ≤ c.toInt → c.toInt ≤ 6 → vp_in (i5 + c) Ln) (e1 : xs (i5 + 1).toNatClampNeg = p1) (e2 : xs (i5 + 2).toNatClampNeg = p2) {k1 n1 : Nat} (K : Kont E X a b o1 o2 sb i5 bd k n) (hk : k1 ≤ k + 4) (hn : n1 ≤ n + 24) (hk2 : k + 4 ≤ 603072) (hn2 : n + 24 ≤ 7211114) {κ : Int32} {r : _} (hr : f_X5_about ma ti sp we ho sa p1 (ch p2) = some r) (hth : r.2 = κ) (hv : κ = 0 → fo (0 : Int32).toNatClampNeg = r.1) (hq : RQ (bd + 120) lt ls lw lh lx zf qf uf tf cf ma st ti sp we ho sa ca cl) (hb : rb rt rc) : Gx E X (WW E a b o1 o2 fo fd lt ls lw lh lx rt rc zf qf uf tf cf th ma st ti sp we ho sa ca cl su) 9 (lv0 sb a b o1 o2 i5) [.int κ] 1359 k1 n1 := by
  refine g_room hk hn ?_
  refine g_istore C (lv2 := [(6, .int κ), (5, .int i5), (0, .ref sb), (1, .ref (a 0)), (2, .ref (b 0)), (3, .ref o1), (4, .ref o2)]) rfl (by decide) dL_law_1359 ?_
  refine g_aload_n C 4 rfl rfl dL_law_1361 ?_
  refine g_aload_n C 2 rfl rfl dL_law_1362 ?_
  refine g_iload C 1 rfl dL_law_1363 ?_
  refine g_iconst C (v := 1) (by decide) dL_law_1365 ?_
  refine g_iadd C dL_law_1366 ?_
  refine g_sldv C S (hin 1 (by decide) (by decide)) e1 dL_law_1367 ?_
  refine g_aload_n C 2 rfl rfl dL_law_1368 ?_
  refine g_iload C 1 rfl dL_law_1369 ?_
  refine g_iconst C (v := 2) (by decide) dL_law_1371 ?_
  refine g_iadd C dL_law_1372 ?_
  refine g_sldv C S (hin 2 (by decide) (by decide)) e2 dL_law_1373 ?_
  refine g_i2c C dL_law_1374 ?_
  refine g_callVL (As := [.int p1, .int (ch p2)]) (n9 := 2) (st := []) C (c_X5_about E b th ma st ti sp we ho sa ca cl su p1 (ch p2) r hr) gL_law_X5_about rfl (by decide +kernel) rfl ⟨by decide, by decide, hk2, hn2, by decide⟩ 0 rfl rfl (List.Perm.refl _) dL_law_1375 ?_
  refine g_lstore C (lv2 := [(7, .long r.1), (6, .int κ), (5, .int i5), (0, .ref sb), (1, .ref (a 0)), (2, .ref (b 0)), (3, .ref o1), (4, .ref o2)]) rfl (by decide) dL_law_1378 ?_
  refine g_aload_n C 5 rfl rfl dL_law_1380 ?_
  refine g_callVL (As := []) (n9 := 0) (st := []) C (c_X5_thrown E b r.2 ma st ti sp we ho sa ca cl su r.2 rfl) gL_law_X5_thrown rfl (by decide +kernel) rfl ⟨by decide, by decide, hk2, hn2, by decide⟩ 0 rfl rfl (List.Perm.refl _) dL_law_1381 ?_
  refine g_iload C 1 rfl dL_law_1384 ?_
  refine g_icmp_eq (tgt := 1391) C dL_law_1386 (by decide) (fun _ => ?_) (fun h9 => absurd hth h9)
  refine g_iload C 1 rfl dL_law_1391 ?_
  refine g_if_ne (tgt := 1407) C dL_law_1393 (by decide) (fun _ => ?_) (fun hz => ?_)
  · refine g_goto (tgt := 2256) C dL_law_1407 (by decide) ?_
    refine g_lvs [2, 3, 4, 5, 6, 7] rfl ?_
    exact K hq hb
  · refine g_aload_n C 6 rfl rfl dL_law_1396 ?_
    refine g_iconst C (v := 0) (by decide) dL_law_1397 ?_
    refine g_lald C 9 rfl (inB_in (by decide +kernel)) dL_law_1398 ?_
    refine g_lload C 0 rfl dL_law_1399 ?_
    refine g_lcmp C dL_law_1401 ?_
    refine g_if_eq (tgt := 1407) C dL_law_1402 (by decide) (fun _ => ?_) (fun h9 => absurd (by rw [hv hz]; exact cmp0 _) h9)
    refine g_goto (tgt := 2256) C dL_law_1407 (by decide) ?_
    refine g_lvs [2, 3, 4, 5, 6, 7] rfl ?_
    exact K hq hb
theorem ex_about {e : String} {t9 : Int32} (h : (e, t9) ∈ ([("java/lang/IndexOutOfBoundsException", 1), ("java/lang/IllegalArgumentException", 2)] : List (String × Int32))) : (e = "java/lang/IndexOutOfBoundsException" ∨ e = "java/lang/IllegalArgumentException") ∧ t9 = ec_about e ∧ ec_about e ≠ 0 := by
  have h2 : (e = "java/lang/IndexOutOfBoundsException" ∧ t9 = 1) ∨ (e = "java/lang/IllegalArgumentException" ∧ t9 = 2) := by simpa using h
  rcases h2 with ⟨rfl, h8⟩ | ⟨rfl, h8⟩ <;> subst h8 <;> refine ⟨by simp, by simp [ec_about], by simp [ec_about]⟩
set_option maxHeartbeats 4000000 in
set_option maxRecDepth 100000 in
theorem case_about (C : Cx E X cL_law 9 RL wsL_law room_1 ret hh) (S : Sx X sb Ln xs) (hin : ∀ c : Int32, 1 ≤ c.toInt → c.toInt ≤ 6 → vp_in (i5 + c) Ln) (e1 : xs (i5 + 1).toNatClampNeg = p1) (e2 : xs (i5 + 2).toNatClampNeg = p2) (K : Kont E X a b o1 o2 sb i5 bd k n) (hk2 : k + 4 ≤ 603072) (hn2 : n + 24 ≤ 7211114) (R : RQ bd lt ls lw lh lx zf qf uf tf cf ma st ti sp we ho sa ca cl) (hbd : bd ≤ 900000) (hrb : rb rt rc) : Gx E X (WW E a b o1 o2 fo fd lt ls lw lh lx rt rc zf qf uf tf cf th ma st ti sp we ho sa ca cl su) 9 (lv0 sb a b o1 o2 i5) [] 1341 k n := by
  refine g_aload_n C 2 rfl rfl dL_law_1341 ?_
  refine g_aload_n C 1 rfl rfl dL_law_1342 ?_
  refine g_iload C 0 rfl dL_law_1343 ?_
  refine g_iconst C (v := 1) (by decide) dL_law_1345 ?_
  refine g_iadd C dL_law_1346 ?_
  refine g_sldv C S (hin 1 (by decide) (by decide)) e1 dL_law_1347 ?_
  refine g_aload_n C 1 rfl rfl dL_law_1348 ?_
  refine g_iload C 0 rfl dL_law_1349 ?_
  refine g_iconst C (v := 2) (by decide) dL_law_1351 ?_
  refine g_iadd C dL_law_1352 ?_
  refine g_sldv C S (hin 2 (by decide) (by decide)) e2 dL_law_1353 ?_
  refine g_i2c C dL_law_1354 ?_
  refine g_aload_n C 4 rfl rfl dL_law_1355 ?_
  obtain ⟨oc, r, f1, f2, h3⟩ := st_about R p1 (ch p2)
  have cx := c_X4_about E a lt ls lw lh lx p1 (ch p2) oc f1
  rcases h3 with ⟨e, he, hm⟩ | ⟨he, ht⟩
  · subst he
    have he2 := ex_about hm
    refine g_callSL (As := [.ref (a 0), .int p1, .int (ch p2), .ref o1]) (n9 := 4) (st := []) (S := wM E b th ma st ti sp we ho sa ca cl su ++ (O2w E o2 fd ++ (wHl E a zf qf uf tf cf [0, 1, 2, 3] ++ wX0 E a 13 rt rc))) C (c_L_about E o1 (a 0) fo p1 (ch p2) cx rfl (fun x hx => by cases hx; exact he2.1)) gL_law_L_about rfl (by decide +kernel) rfl ⟨by decide, by decide, show k + 1 ≤ 603072 from by omega, show n + 6 ≤ 7211114 from by omega, by decide⟩ (by unfold WW; exact pmA _ _ _ _ _ _ _ _) dL_law_1356 ?_
    refine g_perm (ws2 := WW E a b o1 o2 fo fd lt ls lw lh lx rt rc zf qf uf tf cf th ma st ti sp we ho sa ca cl su) (by unfold WW; exact (pmA _ _ _ _ _ _ _ _).symm) ?_
    exact tail_about C S hin e1 e2 K (show k + 1 ≤ k + 4 from by omega) (show n + 6 ≤ n + 24 from by omega) hk2 hn2 f2 he2.2.1 (fun h9 => absurd h9 he2.2.2) (RL_mono R (by omega)) hrb
  · subst he
    refine g_callSL (As := [.ref (a 0), .int p1, .int (ch p2), .ref o1]) (n9 := 4) (st := []) (S := wM E b th ma st ti sp we ho sa ca cl su ++ (O2w E o2 fd ++ (wHl E a zf qf uf tf cf [0, 1, 2, 3] ++ wX0 E a 13 rt rc))) C (c_L_about E o1 (a 0) fo p1 (ch p2) cx rfl (fun x hx => nomatch hx)) gL_law_L_about rfl (by decide +kernel) rfl ⟨by decide, by decide, show k + 1 ≤ 603072 from by omega, show n + 6 ≤ 7211114 from by omega, by decide⟩ (by unfold WW; exact pmA _ _ _ _ _ _ _ _) dL_law_1356 ?_
    refine g_perm (ws2 := WW E a b o1 o2 (vp_updL fo 0 (r.1)) fd lt ls lw lh lx rt rc zf qf uf tf cf th ma st ti sp we ho sa ca cl su) (by unfold WW; exact (pmA _ _ _ _ _ _ _ _).symm) ?_
    exact tail_about C S hin e1 e2 K (show k + 1 ≤ k + 4 from by omega) (show n + 6 ≤ n + 24 from by omega) hk2 hn2 f2 ht (fun _ => updL0 _ _) (RL_mono R (by omega)) hrb
end LC3
