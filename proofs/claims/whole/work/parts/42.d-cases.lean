/-! the law's cases, 4 -/
section LC4
variable {E : gE} {X : gX} {ret : Option FieldType} {hh : List ExceptionTableEntry} {sb Ln : Nat} {xs : Nat → Int32} {a b : Nat → Nat} {o1 o2 : Nat} {i5 : Int32} {bd k n : Nat} {fo : Nat → Int64} {fd : Nat → UInt64} {lt ls lw lh lx rt rc : RS} {zf : Nat → Int32} {qf uf tf cf : Nat → RS} {th ma st : Int32} {ti sp we ho sa ca cl : Nat → Int32} {su : Int64} {p1 p2 p3 p4 p5 p6 : Int32}
set_option maxHeartbeats 4000000 in
set_option maxRecDepth 100000 in
theorem tail_crowd (C : Cx E X cL_law 9 RL wsL_law room_1 ret hh) (S : Sx X sb Ln xs) (hin : ∀ c : Int32, 1 ≤ c.toInt → c.toInt ≤ 6 → vp_in (i5 + c) Ln) (e1 : xs (i5 + 1).toNatClampNeg = p1) (e2 : xs (i5 + 2).toNatClampNeg = p2) {k1 n1 : Nat} (K : Kont E X a b o1 o2 sb i5 bd k n) (hk : k1 ≤ k + 4) (hn : n1 ≤ n + 24) (hk2 : k + 4 ≤ 603072) (hn2 : n + 24 ≤ 7211114) {κ : Int32} {r : _} (hr : f_X5_crowd ma ti sp we ho sa p1 p2 = some r) (hth : r.2 = κ) (hv : κ = 0 → fo (0 : Int32).toNatClampNeg = r.1.toInt64) (hq : RQ (bd + 120) lt ls lw lh lx zf qf uf tf cf ma st ti sp we ho sa ca cl) (hb : rb rt rc) : Gx E X (WW E a b o1 o2 fo fd lt ls lw lh lx rt rc zf qf uf tf cf th ma st ti sp we ho sa ca cl su) 9 (lv0 sb a b o1 o2 i5) [.int κ] 1427 k1 n1 := by
  refine g_room hk hn ?_
  refine g_istore C (lv2 := [(6, .int κ), (5, .int i5), (0, .ref sb), (1, .ref (a 0)), (2, .ref (b 0)), (3, .ref o1), (4, .ref o2)]) rfl (by decide) dL_law_1427 ?_
  refine g_aload_n C 4 rfl rfl dL_law_1429 ?_
  refine g_aload_n C 2 rfl rfl dL_law_1430 ?_
  refine g_iload C 1 rfl dL_law_1431 ?_
  refine g_iconst C (v := 1) (by decide) dL_law_1433 ?_
  refine g_iadd C dL_law_1434 ?_
  refine g_sldv C S (hin 1 (by decide) (by decide)) e1 dL_law_1435 ?_
  refine g_aload_n C 2 rfl rfl dL_law_1436 ?_
  refine g_iload C 1 rfl dL_law_1437 ?_
  refine g_iconst C (v := 2) (by decide) dL_law_1439 ?_
  refine g_iadd C dL_law_1440 ?_
  refine g_sldv C S (hin 2 (by decide) (by decide)) e2 dL_law_1441 ?_
  refine g_callVL (As := [.int p1, .int p2]) (n9 := 2) (st := []) C (c_X5_crowd E b th ma st ti sp we ho sa ca cl su p1 p2 r hr) gL_law_X5_crowd rfl (by decide +kernel) rfl ⟨by decide, by decide, hk2, hn2, by decide⟩ 0 rfl rfl (List.Perm.refl _) dL_law_1442 ?_
  refine g_istore C (lv2 := [(7, .int r.1), (6, .int κ), (5, .int i5), (0, .ref sb), (1, .ref (a 0)), (2, .ref (b 0)), (3, .ref o1), (4, .ref o2)]) rfl (by decide) dL_law_1445 ?_
  refine g_aload_n C 5 rfl rfl dL_law_1447 ?_
  refine g_callVL (As := []) (n9 := 0) (st := []) C (c_X5_thrown E b r.2 ma st ti sp we ho sa ca cl su r.2 rfl) gL_law_X5_thrown rfl (by decide +kernel) rfl ⟨by decide, by decide, hk2, hn2, by decide⟩ 0 rfl rfl (List.Perm.refl _) dL_law_1448 ?_
  refine g_iload C 1 rfl dL_law_1451 ?_
  refine g_icmp_eq (tgt := 1458) C dL_law_1453 (by decide) (fun _ => ?_) (fun h9 => absurd hth h9)
  refine g_iload C 1 rfl dL_law_1458 ?_
  refine g_if_ne (tgt := 1475) C dL_law_1460 (by decide) (fun _ => ?_) (fun hz => ?_)
  · refine g_goto (tgt := 2256) C dL_law_1475 (by decide) ?_
    refine g_lvs [2, 3, 4, 5, 6, 7] rfl ?_
    exact K hq hb
  · refine g_aload_n C 6 rfl rfl dL_law_1463 ?_
    refine g_iconst C (v := 0) (by decide) dL_law_1464 ?_
    refine g_lald C 9 rfl (inB_in (by decide +kernel)) dL_law_1465 ?_
    refine g_iload C 0 rfl dL_law_1466 ?_
    refine g_i2l C dL_law_1468 ?_
    refine g_lcmp C dL_law_1469 ?_
    refine g_if_eq (tgt := 1475) C dL_law_1470 (by decide) (fun _ => ?_) (fun h9 => absurd (by rw [hv hz]; exact cmp0 _) h9)
    refine g_goto (tgt := 2256) C dL_law_1475 (by decide) ?_
    refine g_lvs [2, 3, 4, 5, 6, 7] rfl ?_
    exact K hq hb
theorem ex_crowd {e : String} {t9 : Int32} (h : (e, t9) ∈ ([("java/lang/IndexOutOfBoundsException", 1)] : List (String × Int32))) : (e = "java/lang/IndexOutOfBoundsException") ∧ t9 = ec_crowd e ∧ ec_crowd e ≠ 0 := by
  have h2 : (e = "java/lang/IndexOutOfBoundsException" ∧ t9 = 1) := by simpa using h
  rcases h2 with ⟨rfl, h8⟩ <;> subst h8 <;> refine ⟨by simp, by simp [ec_crowd], by simp [ec_crowd]⟩
set_option maxHeartbeats 4000000 in
set_option maxRecDepth 100000 in
theorem case_crowd (C : Cx E X cL_law 9 RL wsL_law room_1 ret hh) (S : Sx X sb Ln xs) (hin : ∀ c : Int32, 1 ≤ c.toInt → c.toInt ≤ 6 → vp_in (i5 + c) Ln) (e1 : xs (i5 + 1).toNatClampNeg = p1) (e2 : xs (i5 + 2).toNatClampNeg = p2) (K : Kont E X a b o1 o2 sb i5 bd k n) (hk2 : k + 4 ≤ 603072) (hn2 : n + 24 ≤ 7211114) (R : RQ bd lt ls lw lh lx zf qf uf tf cf ma st ti sp we ho sa ca cl) (hbd : bd ≤ 900000) (hrb : rb rt rc) : Gx E X (WW E a b o1 o2 fo fd lt ls lw lh lx rt rc zf qf uf tf cf th ma st ti sp we ho sa ca cl su) 9 (lv0 sb a b o1 o2 i5) [] 1410 k n := by
  refine g_aload_n C 2 rfl rfl dL_law_1410 ?_
  refine g_aload_n C 1 rfl rfl dL_law_1411 ?_
  refine g_iload C 0 rfl dL_law_1412 ?_
  refine g_iconst C (v := 1) (by decide) dL_law_1414 ?_
  refine g_iadd C dL_law_1415 ?_
  refine g_sldv C S (hin 1 (by decide) (by decide)) e1 dL_law_1416 ?_
  refine g_aload_n C 1 rfl rfl dL_law_1417 ?_
  refine g_iload C 0 rfl dL_law_1418 ?_
  refine g_iconst C (v := 2) (by decide) dL_law_1420 ?_
  refine g_iadd C dL_law_1421 ?_
  refine g_sldv C S (hin 2 (by decide) (by decide)) e2 dL_law_1422 ?_
  refine g_aload_n C 4 rfl rfl dL_law_1423 ?_
  by_cases hv1 : 0 ≤ p1.toInt ∧ p1.toInt < 4
  · obtain ⟨kh, hkp, hkh⟩ : ∃ kh : Nat, p1.toInt = kh ∧ kh < 4 := ⟨p1.toInt.toNat, by omega, by omega⟩
    have eh4 := houseAt_t hkp hkh
    obtain ⟨oc, r, f1, f2, h3⟩ := st_crowd R hkp hkh p2
    have cx := c_X4_crowd E a kh lt ls lw lh lx (nI kh) (zf kh) (qf kh) (uf kh) (tf kh) (cf kh) p1 p2 eh4 oc f1
    rcases h3 with ⟨e, he, hm⟩ | ⟨he, ht⟩
    · subst he
      exact absurd hm List.not_mem_nil
    · subst he
      refine g_callSL (As := [.ref (a 0), .int p1, .int p2, .ref o1]) (n9 := 4) (st := []) (S := wM E b th ma st ti sp we ho sa ca cl su ++ (O2w E o2 fd ++ (wHl E a zf qf uf tf cf (hO kh) ++ wX0 E a 13 rt rc))) C (c_L_crowd E o1 (a 0) fo p1 p2 cx rfl (fun x hx => nomatch hx)) gL_law_L_crowd rfl (by decide +kernel) rfl ⟨by decide, by decide, show k + 1 ≤ 603072 from by omega, show n + 6 ≤ 7211114 from by omega, by decide⟩ (by unfold WW; exact pm1 _ _ _ _ _ _ _ _ _ _ (hh_1 hkh)) dL_law_1424 ?_
      refine g_perm (ws2 := WW E a b o1 o2 (vp_updL fo 0 (r.1).toInt64) fd lt ls lw lh lx rt rc zf qf uf tf cf th ma st ti sp we ho sa ca cl su) (by unfold WW; exact (pm1 _ _ _ _ _ _ _ _ _ _ (hh_1 hkh)).symm) ?_
      exact tail_crowd C S hin e1 e2 K (show k + 1 ≤ k + 4 from by omega) (show n + 6 ≤ n + 24 from by omega) hk2 hn2 f2 ht (fun _ => updL0 _ _) (RL_mono R (by omega)) hrb
  · have hpb : p1.toInt < 0 ∨ 4 ≤ p1.toInt := by omega
    obtain ⟨f1, f2⟩ := bad_crowd (ma := ma) (ti := ti) (sp := sp) (we := we) (ho := ho) (sa := sa) hpb p2
    have cx := c_X4_crowd_bad E a p1 p2 (fun h9 => houseAt_no hpb h9) (.inl "java/lang/IndexOutOfBoundsException") f1
    have hm : ("java/lang/IndexOutOfBoundsException", (1 : Int32)) ∈ ([("java/lang/IndexOutOfBoundsException", 1)] : List (String × Int32)) := by simp
    have he2 := ex_crowd hm
    refine g_callSL (As := [.ref (a 0), .int p1, .int p2, .ref o1]) (n9 := 4) (st := []) (S := wM E b th ma st ti sp we ho sa ca cl su ++ (O2w E o2 fd ++ (wX2 E a 2 lt ls lw lh lx ++ (wHl E a zf qf uf tf cf [0, 1, 2, 3] ++ wX0 E a 13 rt rc)))) C (c_L_crowd E o1 (a 0) fo p1 p2 cx rfl (fun x hx => by cases hx; exact he2.1)) gL_law_L_crowd rfl (by decide +kernel) rfl ⟨by decide, by decide, show k + 1 ≤ 603072 from by omega, show n + 6 ≤ 7211114 from by omega, by decide⟩ (by unfold WW; exact pm0 _ _ _ _ _ _ _ _) dL_law_1424 ?_
    refine g_perm (ws2 := WW E a b o1 o2 fo fd lt ls lw lh lx rt rc zf qf uf tf cf th ma st ti sp we ho sa ca cl su) (by unfold WW; exact (pm0 _ _ _ _ _ _ _ _).symm) ?_
    exact tail_crowd C S hin e1 e2 K (show k + 1 ≤ k + 4 from by omega) (show n + 6 ≤ n + 24 from by omega) hk2 hn2 f2 he2.2.1 (fun h9 => absurd h9 he2.2.2) (RL_mono R (by omega)) hrb
set_option maxHeartbeats 4000000 in
set_option maxRecDepth 100000 in
theorem tail_change (C : Cx E X cL_law 9 RL wsL_law room_1 ret hh) (S : Sx X sb Ln xs) (hin : ∀ c : Int32, 1 ≤ c.toInt → c.toInt ≤ 6 → vp_in (i5 + c) Ln) (e1 : xs (i5 + 1).toNatClampNeg = p1) (e2 : xs (i5 + 2).toNatClampNeg = p2) {k1 n1 : Nat} (K : Kont E X a b o1 o2 sb i5 bd k n) (hk : k1 ≤ k + 4) (hn : n1 ≤ n + 24) (hk2 : k + 4 ≤ 603072) (hn2 : n + 24 ≤ 7211114) {κ : Int32} {r : _} (hr : f_X5_change ma ti sp we ho sa p1 p2 = some r) (hth : r.2 = κ) (hv : κ = 0 → fo (0 : Int32).toNatClampNeg = r.1.toInt64) (hq : RQ (bd + 120) lt ls lw lh lx zf qf uf tf cf ma st ti sp we ho sa ca cl) (hb : rb rt rc) : Gx E X (WW E a b o1 o2 fo fd lt ls lw lh lx rt rc zf qf uf tf cf th ma st ti sp we ho sa ca cl su) 9 (lv0 sb a b o1 o2 i5) [.int κ] 1495 k1 n1 := by
  refine g_room hk hn ?_
  refine g_istore C (lv2 := [(6, .int κ), (5, .int i5), (0, .ref sb), (1, .ref (a 0)), (2, .ref (b 0)), (3, .ref o1), (4, .ref o2)]) rfl (by decide) dL_law_1495 ?_
  refine g_aload_n C 4 rfl rfl dL_law_1497 ?_
  refine g_aload_n C 2 rfl rfl dL_law_1498 ?_
  refine g_iload C 1 rfl dL_law_1499 ?_
  refine g_iconst C (v := 1) (by decide) dL_law_1501 ?_
  refine g_iadd C dL_law_1502 ?_
  refine g_sldv C S (hin 1 (by decide) (by decide)) e1 dL_law_1503 ?_
  refine g_aload_n C 2 rfl rfl dL_law_1504 ?_
  refine g_iload C 1 rfl dL_law_1505 ?_
  refine g_iconst C (v := 2) (by decide) dL_law_1507 ?_
  refine g_iadd C dL_law_1508 ?_
  refine g_sldv C S (hin 2 (by decide) (by decide)) e2 dL_law_1509 ?_
  refine g_callVL (As := [.int p1, .int p2]) (n9 := 2) (st := []) C (c_X5_change E b th ma st ti sp we ho sa ca cl su p1 p2 r hr) gL_law_X5_change rfl (by decide +kernel) rfl ⟨by decide, by decide, hk2, hn2, by decide⟩ 0 rfl rfl (List.Perm.refl _) dL_law_1510 ?_
  refine g_istore C (lv2 := [(7, .int r.1), (6, .int κ), (5, .int i5), (0, .ref sb), (1, .ref (a 0)), (2, .ref (b 0)), (3, .ref o1), (4, .ref o2)]) rfl (by decide) dL_law_1513 ?_
  refine g_aload_n C 5 rfl rfl dL_law_1515 ?_
  refine g_callVL (As := []) (n9 := 0) (st := []) C (c_X5_thrown E b r.2 ma st ti sp we ho sa ca cl su r.2 rfl) gL_law_X5_thrown rfl (by decide +kernel) rfl ⟨by decide, by decide, hk2, hn2, by decide⟩ 0 rfl rfl (List.Perm.refl _) dL_law_1516 ?_
  refine g_iload C 1 rfl dL_law_1519 ?_
  refine g_icmp_eq (tgt := 1526) C dL_law_1521 (by decide) (fun _ => ?_) (fun h9 => absurd hth h9)
  refine g_iload C 1 rfl dL_law_1526 ?_
  refine g_if_ne (tgt := 1543) C dL_law_1528 (by decide) (fun _ => ?_) (fun hz => ?_)
  · refine g_goto (tgt := 2256) C dL_law_1543 (by decide) ?_
    refine g_lvs [2, 3, 4, 5, 6, 7] rfl ?_
    exact K hq hb
  · refine g_aload_n C 6 rfl rfl dL_law_1531 ?_
    refine g_iconst C (v := 0) (by decide) dL_law_1532 ?_
    refine g_lald C 9 rfl (inB_in (by decide +kernel)) dL_law_1533 ?_
    refine g_iload C 0 rfl dL_law_1534 ?_
    refine g_i2l C dL_law_1536 ?_
    refine g_lcmp C dL_law_1537 ?_
    refine g_if_eq (tgt := 1543) C dL_law_1538 (by decide) (fun _ => ?_) (fun h9 => absurd (by rw [hv hz]; exact cmp0 _) h9)
    refine g_goto (tgt := 2256) C dL_law_1543 (by decide) ?_
    refine g_lvs [2, 3, 4, 5, 6, 7] rfl ?_
    exact K hq hb
theorem ex_change {e : String} {t9 : Int32} (h : (e, t9) ∈ ([("java/lang/IndexOutOfBoundsException", 1)] : List (String × Int32))) : (e = "java/lang/IndexOutOfBoundsException") ∧ t9 = ec_change e ∧ ec_change e ≠ 0 := by
  have h2 : (e = "java/lang/IndexOutOfBoundsException" ∧ t9 = 1) := by simpa using h
  rcases h2 with ⟨rfl, h8⟩ <;> subst h8 <;> refine ⟨by simp, by simp [ec_change], by simp [ec_change]⟩
set_option maxHeartbeats 4000000 in
set_option maxRecDepth 100000 in
theorem case_change (C : Cx E X cL_law 9 RL wsL_law room_1 ret hh) (S : Sx X sb Ln xs) (hin : ∀ c : Int32, 1 ≤ c.toInt → c.toInt ≤ 6 → vp_in (i5 + c) Ln) (e1 : xs (i5 + 1).toNatClampNeg = p1) (e2 : xs (i5 + 2).toNatClampNeg = p2) (K : Kont E X a b o1 o2 sb i5 bd k n) (hk2 : k + 4 ≤ 603072) (hn2 : n + 24 ≤ 7211114) (R : RQ bd lt ls lw lh lx zf qf uf tf cf ma st ti sp we ho sa ca cl) (hbd : bd ≤ 900000) (hrb : rb rt rc) : Gx E X (WW E a b o1 o2 fo fd lt ls lw lh lx rt rc zf qf uf tf cf th ma st ti sp we ho sa ca cl su) 9 (lv0 sb a b o1 o2 i5) [] 1478 k n := by
  refine g_aload_n C 2 rfl rfl dL_law_1478 ?_
  refine g_aload_n C 1 rfl rfl dL_law_1479 ?_
  refine g_iload C 0 rfl dL_law_1480 ?_
  refine g_iconst C (v := 1) (by decide) dL_law_1482 ?_
  refine g_iadd C dL_law_1483 ?_
  refine g_sldv C S (hin 1 (by decide) (by decide)) e1 dL_law_1484 ?_
  refine g_aload_n C 1 rfl rfl dL_law_1485 ?_
  refine g_iload C 0 rfl dL_law_1486 ?_
  refine g_iconst C (v := 2) (by decide) dL_law_1488 ?_
  refine g_iadd C dL_law_1489 ?_
  refine g_sldv C S (hin 2 (by decide) (by decide)) e2 dL_law_1490 ?_
  refine g_aload_n C 4 rfl rfl dL_law_1491 ?_
  by_cases hv1 : 0 ≤ p1.toInt ∧ p1.toInt < 4
  · obtain ⟨kh, hkp, hkh⟩ : ∃ kh : Nat, p1.toInt = kh ∧ kh < 4 := ⟨p1.toInt.toNat, by omega, by omega⟩
    have eh4 := houseAt_t hkp hkh
    obtain ⟨oc, r, f1, f2, h3⟩ := st_change R hkp hkh p2
    have cx := c_X4_change E a kh lt ls lw lh lx (nI kh) (zf kh) (qf kh) (uf kh) (tf kh) (cf kh) p1 p2 eh4 oc f1
    rcases h3 with ⟨e, he, hm⟩ | ⟨he, ht⟩
    · subst he
      exact absurd hm List.not_mem_nil
    · subst he
      refine g_callSL (As := [.ref (a 0), .int p1, .int p2, .ref o1]) (n9 := 4) (st := []) (S := wM E b th ma st ti sp we ho sa ca cl su ++ (O2w E o2 fd ++ (wHl E a zf qf uf tf cf (hO kh) ++ wX0 E a 13 rt rc))) C (c_L_change E o1 (a 0) fo p1 p2 cx rfl (fun x hx => nomatch hx)) gL_law_L_change rfl (by decide +kernel) rfl ⟨by decide, by decide, show k + 1 ≤ 603072 from by omega, show n + 6 ≤ 7211114 from by omega, by decide⟩ (by unfold WW; exact pm1 _ _ _ _ _ _ _ _ _ _ (hh_1 hkh)) dL_law_1492 ?_
      refine g_perm (ws2 := WW E a b o1 o2 (vp_updL fo 0 (r.1).toInt64) fd lt ls lw lh lx rt rc zf qf uf tf cf th ma st ti sp we ho sa ca cl su) (by unfold WW; exact (pm1 _ _ _ _ _ _ _ _ _ _ (hh_1 hkh)).symm) ?_
      exact tail_change C S hin e1 e2 K (show k + 1 ≤ k + 4 from by omega) (show n + 6 ≤ n + 24 from by omega) hk2 hn2 f2 ht (fun _ => updL0 _ _) (RL_mono R (by omega)) hrb
  · have hpb : p1.toInt < 0 ∨ 4 ≤ p1.toInt := by omega
    obtain ⟨f1, f2⟩ := bad_change (ma := ma) (ti := ti) (sp := sp) (we := we) (ho := ho) (sa := sa) hpb p2
    have cx := c_X4_change_bad E a p1 p2 (fun h9 => houseAt_no hpb h9) (.inl "java/lang/IndexOutOfBoundsException") f1
    have hm : ("java/lang/IndexOutOfBoundsException", (1 : Int32)) ∈ ([("java/lang/IndexOutOfBoundsException", 1)] : List (String × Int32)) := by simp
    have he2 := ex_change hm
    refine g_callSL (As := [.ref (a 0), .int p1, .int p2, .ref o1]) (n9 := 4) (st := []) (S := wM E b th ma st ti sp we ho sa ca cl su ++ (O2w E o2 fd ++ (wX2 E a 2 lt ls lw lh lx ++ (wHl E a zf qf uf tf cf [0, 1, 2, 3] ++ wX0 E a 13 rt rc)))) C (c_L_change E o1 (a 0) fo p1 p2 cx rfl (fun x hx => by cases hx; exact he2.1)) gL_law_L_change rfl (by decide +kernel) rfl ⟨by decide, by decide, show k + 1 ≤ 603072 from by omega, show n + 6 ≤ 7211114 from by omega, by decide⟩ (by unfold WW; exact pm0 _ _ _ _ _ _ _ _) dL_law_1492 ?_
    refine g_perm (ws2 := WW E a b o1 o2 fo fd lt ls lw lh lx rt rc zf qf uf tf cf th ma st ti sp we ho sa ca cl su) (by unfold WW; exact (pm0 _ _ _ _ _ _ _ _).symm) ?_
    exact tail_change C S hin e1 e2 K (show k + 1 ≤ k + 4 from by omega) (show n + 6 ≤ n + 24 from by omega) hk2 hn2 f2 he2.2.1 (fun h9 => absurd h9 he2.2.2) (RL_mono R (by omega)) hrb
set_option maxHeartbeats 4000000 in
set_option maxRecDepth 100000 in
theorem tail_greatest (C : Cx E X cL_law 9 RL wsL_law room_1 ret hh) (S : Sx X sb Ln xs) (hin : ∀ c : Int32, 1 ≤ c.toInt → c.toInt ≤ 6 → vp_in (i5 + c) Ln) (e1 : xs (i5 + 1).toNatClampNeg = p1) {k1 n1 : Nat} (K : Kont E X a b o1 o2 sb i5 bd k n) (hk : k1 ≤ k + 4) (hn : n1 ≤ n + 24) (hk2 : k + 4 ≤ 603072) (hn2 : n + 24 ≤ 7211114) {κ : Int32} {r : _} (hr : f_X5_greatest ma ti sp we ho sa p1 = some r) (hth : r.2 = κ) (hv : κ = 0 → fo (0 : Int32).toNatClampNeg = r.1.toInt64) (hq : RQ (bd + 120) lt ls lw lh lx zf qf uf tf cf ma st ti sp we ho sa ca cl) (hb : rb rt rc) : Gx E X (WW E a b o1 o2 fo fd lt ls lw lh lx rt rc zf qf uf tf cf th ma st ti sp we ho sa ca cl su) 9 (lv0 sb a b o1 o2 i5) [.int κ] 1557 k1 n1 := by
  refine g_room hk hn ?_
  refine g_istore C (lv2 := [(6, .int κ), (5, .int i5), (0, .ref sb), (1, .ref (a 0)), (2, .ref (b 0)), (3, .ref o1), (4, .ref o2)]) rfl (by decide) dL_law_1557 ?_
  refine g_aload_n C 4 rfl rfl dL_law_1559 ?_
  refine g_aload_n C 2 rfl rfl dL_law_1560 ?_
  refine g_iload C 1 rfl dL_law_1561 ?_
  refine g_iconst C (v := 1) (by decide) dL_law_1563 ?_
  refine g_iadd C dL_law_1564 ?_
  refine g_sldv C S (hin 1 (by decide) (by decide)) e1 dL_law_1565 ?_
  refine g_callVL (As := [.int p1]) (n9 := 1) (st := []) C (c_X5_greatest E b th ma st ti sp we ho sa ca cl su p1 r hr) gL_law_X5_greatest rfl (by decide +kernel) rfl ⟨by decide, by decide, hk2, hn2, by decide⟩ 0 rfl rfl (List.Perm.refl _) dL_law_1566 ?_
  refine g_istore C (lv2 := [(7, .int r.1), (6, .int κ), (5, .int i5), (0, .ref sb), (1, .ref (a 0)), (2, .ref (b 0)), (3, .ref o1), (4, .ref o2)]) rfl (by decide) dL_law_1569 ?_
  refine g_aload_n C 5 rfl rfl dL_law_1571 ?_
  refine g_callVL (As := []) (n9 := 0) (st := []) C (c_X5_thrown E b r.2 ma st ti sp we ho sa ca cl su r.2 rfl) gL_law_X5_thrown rfl (by decide +kernel) rfl ⟨by decide, by decide, hk2, hn2, by decide⟩ 0 rfl rfl (List.Perm.refl _) dL_law_1572 ?_
  refine g_iload C 1 rfl dL_law_1575 ?_
  refine g_icmp_eq (tgt := 1582) C dL_law_1577 (by decide) (fun _ => ?_) (fun h9 => absurd hth h9)
  refine g_iload C 1 rfl dL_law_1582 ?_
  refine g_if_ne (tgt := 1599) C dL_law_1584 (by decide) (fun _ => ?_) (fun hz => ?_)
  · refine g_goto (tgt := 2256) C dL_law_1599 (by decide) ?_
    refine g_lvs [2, 3, 4, 5, 6, 7] rfl ?_
    exact K hq hb
  · refine g_aload_n C 6 rfl rfl dL_law_1587 ?_
    refine g_iconst C (v := 0) (by decide) dL_law_1588 ?_
    refine g_lald C 9 rfl (inB_in (by decide +kernel)) dL_law_1589 ?_
    refine g_iload C 0 rfl dL_law_1590 ?_
    refine g_i2l C dL_law_1592 ?_
    refine g_lcmp C dL_law_1593 ?_
    refine g_if_eq (tgt := 1599) C dL_law_1594 (by decide) (fun _ => ?_) (fun h9 => absurd (by rw [hv hz]; exact cmp0 _) h9)
    refine g_goto (tgt := 2256) C dL_law_1599 (by decide) ?_
    refine g_lvs [2, 3, 4, 5, 6, 7] rfl ?_
    exact K hq hb
theorem ex_greatest {e : String} {t9 : Int32} (h : (e, t9) ∈ ([("java/lang/IndexOutOfBoundsException", 1)] : List (String × Int32))) : (e = "java/lang/IndexOutOfBoundsException") ∧ t9 = ec_greatest e ∧ ec_greatest e ≠ 0 := by
  have h2 : (e = "java/lang/IndexOutOfBoundsException" ∧ t9 = 1) := by simpa using h
  rcases h2 with ⟨rfl, h8⟩ <;> subst h8 <;> refine ⟨by simp, by simp [ec_greatest], by simp [ec_greatest]⟩
set_option maxHeartbeats 4000000 in
set_option maxRecDepth 100000 in
theorem case_greatest (C : Cx E X cL_law 9 RL wsL_law room_1 ret hh) (S : Sx X sb Ln xs) (hin : ∀ c : Int32, 1 ≤ c.toInt → c.toInt ≤ 6 → vp_in (i5 + c) Ln) (e1 : xs (i5 + 1).toNatClampNeg = p1) (K : Kont E X a b o1 o2 sb i5 bd k n) (hk2 : k + 4 ≤ 603072) (hn2 : n + 24 ≤ 7211114) (R : RQ bd lt ls lw lh lx zf qf uf tf cf ma st ti sp we ho sa ca cl) (hbd : bd ≤ 900000) (hrb : rb rt rc) : Gx E X (WW E a b o1 o2 fo fd lt ls lw lh lx rt rc zf qf uf tf cf th ma st ti sp we ho sa ca cl su) 9 (lv0 sb a b o1 o2 i5) [] 1546 k n := by
  refine g_aload_n C 2 rfl rfl dL_law_1546 ?_
  refine g_aload_n C 1 rfl rfl dL_law_1547 ?_
  refine g_iload C 0 rfl dL_law_1548 ?_
  refine g_iconst C (v := 1) (by decide) dL_law_1550 ?_
  refine g_iadd C dL_law_1551 ?_
  refine g_sldv C S (hin 1 (by decide) (by decide)) e1 dL_law_1552 ?_
  refine g_aload_n C 4 rfl rfl dL_law_1553 ?_
  by_cases hv1 : 0 ≤ p1.toInt ∧ p1.toInt < 4
  · obtain ⟨kh, hkp, hkh⟩ : ∃ kh : Nat, p1.toInt = kh ∧ kh < 4 := ⟨p1.toInt.toNat, by omega, by omega⟩
    have eh4 := houseAt_t hkp hkh
    obtain ⟨oc, r, f1, f2, h3⟩ := st_greatest R hkp hkh 
    have cx := c_X4_greatest E a kh lt ls lw lh lx (nI kh) (zf kh) (qf kh) (uf kh) (tf kh) (cf kh) p1 eh4 oc f1
    rcases h3 with ⟨e, he, hm⟩ | ⟨he, ht⟩
    · subst he
      exact absurd hm List.not_mem_nil
    · subst he
      refine g_callSL (As := [.ref (a 0), .int p1, .ref o1]) (n9 := 3) (st := []) (S := wM E b th ma st ti sp we ho sa ca cl su ++ (O2w E o2 fd ++ (wHl E a zf qf uf tf cf (hO kh) ++ wX0 E a 13 rt rc))) C (c_L_greatest E o1 (a 0) fo p1 cx rfl (fun x hx => nomatch hx)) gL_law_L_greatest rfl (by decide +kernel) rfl ⟨by decide, by decide, show k + 1 ≤ 603072 from by omega, show n + 6 ≤ 7211114 from by omega, by decide⟩ (by unfold WW; exact pm1 _ _ _ _ _ _ _ _ _ _ (hh_1 hkh)) dL_law_1554 ?_
      refine g_perm (ws2 := WW E a b o1 o2 (vp_updL fo 0 (r.1).toInt64) fd lt ls lw lh lx rt rc zf qf uf tf cf th ma st ti sp we ho sa ca cl su) (by unfold WW; exact (pm1 _ _ _ _ _ _ _ _ _ _ (hh_1 hkh)).symm) ?_
      exact tail_greatest C S hin e1 K (show k + 1 ≤ k + 4 from by omega) (show n + 6 ≤ n + 24 from by omega) hk2 hn2 f2 ht (fun _ => updL0 _ _) (RL_mono R (by omega)) hrb
  · have hpb : p1.toInt < 0 ∨ 4 ≤ p1.toInt := by omega
    obtain ⟨f1, f2⟩ := bad_greatest (ma := ma) (ti := ti) (sp := sp) (we := we) (ho := ho) (sa := sa) hpb 
    have cx := c_X4_greatest_bad E a p1 (fun h9 => houseAt_no hpb h9) (.inl "java/lang/IndexOutOfBoundsException") f1
    have hm : ("java/lang/IndexOutOfBoundsException", (1 : Int32)) ∈ ([("java/lang/IndexOutOfBoundsException", 1)] : List (String × Int32)) := by simp
    have he2 := ex_greatest hm
    refine g_callSL (As := [.ref (a 0), .int p1, .ref o1]) (n9 := 3) (st := []) (S := wM E b th ma st ti sp we ho sa ca cl su ++ (O2w E o2 fd ++ (wX2 E a 2 lt ls lw lh lx ++ (wHl E a zf qf uf tf cf [0, 1, 2, 3] ++ wX0 E a 13 rt rc)))) C (c_L_greatest E o1 (a 0) fo p1 cx rfl (fun x hx => by cases hx; exact he2.1)) gL_law_L_greatest rfl (by decide +kernel) rfl ⟨by decide, by decide, show k + 1 ≤ 603072 from by omega, show n + 6 ≤ 7211114 from by omega, by decide⟩ (by unfold WW; exact pm0 _ _ _ _ _ _ _ _) dL_law_1554 ?_
    refine g_perm (ws2 := WW E a b o1 o2 fo fd lt ls lw lh lx rt rc zf qf uf tf cf th ma st ti sp we ho sa ca cl su) (by unfold WW; exact (pm0 _ _ _ _ _ _ _ _).symm) ?_
    exact tail_greatest C S hin e1 K (show k + 1 ≤ k + 4 from by omega) (show n + 6 ≤ n + 24 from by omega) hk2 hn2 f2 he2.2.1 (fun h9 => absurd h9 he2.2.2) (RL_mono R (by omega)) hrb
set_option maxHeartbeats 4000000 in
set_option maxRecDepth 100000 in
theorem tail_greatestFrom (C : Cx E X cL_law 9 RL wsL_law room_1 ret hh) (S : Sx X sb Ln xs) (hin : ∀ c : Int32, 1 ≤ c.toInt → c.toInt ≤ 6 → vp_in (i5 + c) Ln) (e1 : xs (i5 + 1).toNatClampNeg = p1) {k1 n1 : Nat} (K : Kont E X a b o1 o2 sb i5 bd k n) (hk : k1 ≤ k + 4) (hn : n1 ≤ n + 24) (hk2 : k + 4 ≤ 603072) (hn2 : n + 24 ≤ 7211114) {κ : Int32} {r : _} (hr : f_X5_greatestFrom ma ti sp we ho sa p1 = some r) (hth : r.2 = κ) (hv : κ = 0 → fo (0 : Int32).toNatClampNeg = r.1.toInt64) (hq : RQ (bd + 120) lt ls lw lh lx zf qf uf tf cf ma st ti sp we ho sa ca cl) (hb : rb rt rc) : Gx E X (WW E a b o1 o2 fo fd lt ls lw lh lx rt rc zf qf uf tf cf th ma st ti sp we ho sa ca cl su) 9 (lv0 sb a b o1 o2 i5) [.int κ] 1613 k1 n1 := by
  refine g_room hk hn ?_
  refine g_istore C (lv2 := [(6, .int κ), (5, .int i5), (0, .ref sb), (1, .ref (a 0)), (2, .ref (b 0)), (3, .ref o1), (4, .ref o2)]) rfl (by decide) dL_law_1613 ?_
  refine g_aload_n C 4 rfl rfl dL_law_1615 ?_
  refine g_aload_n C 2 rfl rfl dL_law_1616 ?_
  refine g_iload C 1 rfl dL_law_1617 ?_
  refine g_iconst C (v := 1) (by decide) dL_law_1619 ?_
  refine g_iadd C dL_law_1620 ?_
  refine g_sldv C S (hin 1 (by decide) (by decide)) e1 dL_law_1621 ?_
  refine g_callVL (As := [.int p1]) (n9 := 1) (st := []) C (c_X5_greatestFrom E b th ma st ti sp we ho sa ca cl su p1 r hr) gL_law_X5_greatestFrom rfl (by decide +kernel) rfl ⟨by decide, by decide, hk2, hn2, by decide⟩ 0 rfl rfl (List.Perm.refl _) dL_law_1622 ?_
  refine g_istore C (lv2 := [(7, .int r.1), (6, .int κ), (5, .int i5), (0, .ref sb), (1, .ref (a 0)), (2, .ref (b 0)), (3, .ref o1), (4, .ref o2)]) rfl (by decide) dL_law_1625 ?_
  refine g_aload_n C 5 rfl rfl dL_law_1627 ?_
  refine g_callVL (As := []) (n9 := 0) (st := []) C (c_X5_thrown E b r.2 ma st ti sp we ho sa ca cl su r.2 rfl) gL_law_X5_thrown rfl (by decide +kernel) rfl ⟨by decide, by decide, hk2, hn2, by decide⟩ 0 rfl rfl (List.Perm.refl _) dL_law_1628 ?_
  refine g_iload C 1 rfl dL_law_1631 ?_
  refine g_icmp_eq (tgt := 1638) C dL_law_1633 (by decide) (fun _ => ?_) (fun h9 => absurd hth h9)
  refine g_iload C 1 rfl dL_law_1638 ?_
  refine g_if_ne (tgt := 1655) C dL_law_1640 (by decide) (fun _ => ?_) (fun hz => ?_)
  · refine g_goto (tgt := 2256) C dL_law_1655 (by decide) ?_
    refine g_lvs [2, 3, 4, 5, 6, 7] rfl ?_
    exact K hq hb
  · refine g_aload_n C 6 rfl rfl dL_law_1643 ?_
    refine g_iconst C (v := 0) (by decide) dL_law_1644 ?_
    refine g_lald C 9 rfl (inB_in (by decide +kernel)) dL_law_1645 ?_
    refine g_iload C 0 rfl dL_law_1646 ?_
    refine g_i2l C dL_law_1648 ?_
    refine g_lcmp C dL_law_1649 ?_
    refine g_if_eq (tgt := 1655) C dL_law_1650 (by decide) (fun _ => ?_) (fun h9 => absurd (by rw [hv hz]; exact cmp0 _) h9)
    refine g_goto (tgt := 2256) C dL_law_1655 (by decide) ?_
    refine g_lvs [2, 3, 4, 5, 6, 7] rfl ?_
    exact K hq hb
theorem ex_greatestFrom {e : String} {t9 : Int32} (h : (e, t9) ∈ ([("java/lang/IndexOutOfBoundsException", 1), ("java/util/NoSuchElementException", 2)] : List (String × Int32))) : (e = "java/lang/IndexOutOfBoundsException" ∨ e = "java/util/NoSuchElementException") ∧ t9 = ec_greatestFrom e ∧ ec_greatestFrom e ≠ 0 := by
  have h2 : (e = "java/lang/IndexOutOfBoundsException" ∧ t9 = 1) ∨ (e = "java/util/NoSuchElementException" ∧ t9 = 2) := by simpa using h
  rcases h2 with ⟨rfl, h8⟩ | ⟨rfl, h8⟩ <;> subst h8 <;> refine ⟨by simp, by simp [ec_greatestFrom], by simp [ec_greatestFrom]⟩
set_option maxHeartbeats 4000000 in
set_option maxRecDepth 100000 in
theorem case_greatestFrom (C : Cx E X cL_law 9 RL wsL_law room_1 ret hh) (S : Sx X sb Ln xs) (hin : ∀ c : Int32, 1 ≤ c.toInt → c.toInt ≤ 6 → vp_in (i5 + c) Ln) (e1 : xs (i5 + 1).toNatClampNeg = p1) (K : Kont E X a b o1 o2 sb i5 bd k n) (hk2 : k + 4 ≤ 603072) (hn2 : n + 24 ≤ 7211114) (R : RQ bd lt ls lw lh lx zf qf uf tf cf ma st ti sp we ho sa ca cl) (hbd : bd ≤ 900000) (hrb : rb rt rc) : Gx E X (WW E a b o1 o2 fo fd lt ls lw lh lx rt rc zf qf uf tf cf th ma st ti sp we ho sa ca cl su) 9 (lv0 sb a b o1 o2 i5) [] 1602 k n := by
  refine g_aload_n C 2 rfl rfl dL_law_1602 ?_
  refine g_aload_n C 1 rfl rfl dL_law_1603 ?_
  refine g_iload C 0 rfl dL_law_1604 ?_
  refine g_iconst C (v := 1) (by decide) dL_law_1606 ?_
  refine g_iadd C dL_law_1607 ?_
  refine g_sldv C S (hin 1 (by decide) (by decide)) e1 dL_law_1608 ?_
  refine g_aload_n C 4 rfl rfl dL_law_1609 ?_
  by_cases hv1 : 0 ≤ p1.toInt ∧ p1.toInt < 4
  · obtain ⟨kh, hkp, hkh⟩ : ∃ kh : Nat, p1.toInt = kh ∧ kh < 4 := ⟨p1.toInt.toNat, by omega, by omega⟩
    have eh4 := houseAt_t hkp hkh
    obtain ⟨oc, r, f1, f2, h3⟩ := st_greatestFrom R hkp hkh 
    have cx := c_X4_greatestFrom E a kh lt ls lw lh lx (nI kh) (zf kh) (qf kh) (uf kh) (tf kh) (cf kh) p1 eh4 oc f1
    rcases h3 with ⟨e, he, hm⟩ | ⟨he, ht⟩
    · subst he
      have hm : (e, r.2) ∈ ([("java/lang/IndexOutOfBoundsException", 1), ("java/util/NoSuchElementException", 2)] : List (String × Int32)) := List.mem_cons_of_mem _ hm
      have he2 := ex_greatestFrom hm
      refine g_callSL (As := [.ref (a 0), .int p1, .ref o1]) (n9 := 3) (st := []) (S := wM E b th ma st ti sp we ho sa ca cl su ++ (O2w E o2 fd ++ (wHl E a zf qf uf tf cf (hO kh) ++ wX0 E a 13 rt rc))) C (c_L_greatestFrom E o1 (a 0) fo p1 cx rfl (fun x hx => by cases hx; exact he2.1)) gL_law_L_greatestFrom rfl (by decide +kernel) rfl ⟨by decide, by decide, show k + 2 ≤ 603072 from by omega, show n + 12 ≤ 7211114 from by omega, by decide⟩ (by unfold WW; exact pm1 _ _ _ _ _ _ _ _ _ _ (hh_1 hkh)) dL_law_1610 ?_
      refine g_perm (ws2 := WW E a b o1 o2 fo fd lt ls lw lh lx rt rc zf qf uf tf cf th ma st ti sp we ho sa ca cl su) (by unfold WW; exact (pm1 _ _ _ _ _ _ _ _ _ _ (hh_1 hkh)).symm) ?_
      exact tail_greatestFrom C S hin e1 K (show k + 2 ≤ k + 4 from by omega) (show n + 12 ≤ n + 24 from by omega) hk2 hn2 f2 he2.2.1 (fun h9 => absurd h9 he2.2.2) (RL_mono R (by omega)) hrb
    · subst he
      refine g_callSL (As := [.ref (a 0), .int p1, .ref o1]) (n9 := 3) (st := []) (S := wM E b th ma st ti sp we ho sa ca cl su ++ (O2w E o2 fd ++ (wHl E a zf qf uf tf cf (hO kh) ++ wX0 E a 13 rt rc))) C (c_L_greatestFrom E o1 (a 0) fo p1 cx rfl (fun x hx => nomatch hx)) gL_law_L_greatestFrom rfl (by decide +kernel) rfl ⟨by decide, by decide, show k + 2 ≤ 603072 from by omega, show n + 12 ≤ 7211114 from by omega, by decide⟩ (by unfold WW; exact pm1 _ _ _ _ _ _ _ _ _ _ (hh_1 hkh)) dL_law_1610 ?_
      refine g_perm (ws2 := WW E a b o1 o2 (vp_updL fo 0 (r.1).toInt64) fd lt ls lw lh lx rt rc zf qf uf tf cf th ma st ti sp we ho sa ca cl su) (by unfold WW; exact (pm1 _ _ _ _ _ _ _ _ _ _ (hh_1 hkh)).symm) ?_
      exact tail_greatestFrom C S hin e1 K (show k + 2 ≤ k + 4 from by omega) (show n + 12 ≤ n + 24 from by omega) hk2 hn2 f2 ht (fun _ => updL0 _ _) (RL_mono R (by omega)) hrb
  · have hpb : p1.toInt < 0 ∨ 4 ≤ p1.toInt := by omega
    obtain ⟨f1, f2⟩ := bad_greatestFrom (ma := ma) (ti := ti) (sp := sp) (we := we) (ho := ho) (sa := sa) hpb 
    have cx := c_X4_greatestFrom_bad E a p1 (fun h9 => houseAt_no hpb h9) (.inl "java/lang/IndexOutOfBoundsException") f1
    have hm : ("java/lang/IndexOutOfBoundsException", (1 : Int32)) ∈ ([("java/lang/IndexOutOfBoundsException", 1), ("java/util/NoSuchElementException", 2)] : List (String × Int32)) := by simp
    have he2 := ex_greatestFrom hm
    refine g_callSL (As := [.ref (a 0), .int p1, .ref o1]) (n9 := 3) (st := []) (S := wM E b th ma st ti sp we ho sa ca cl su ++ (O2w E o2 fd ++ (wX2 E a 2 lt ls lw lh lx ++ (wHl E a zf qf uf tf cf [0, 1, 2, 3] ++ wX0 E a 13 rt rc)))) C (c_L_greatestFrom E o1 (a 0) fo p1 cx rfl (fun x hx => by cases hx; exact he2.1)) gL_law_L_greatestFrom rfl (by decide +kernel) rfl ⟨by decide, by decide, show k + 2 ≤ 603072 from by omega, show n + 12 ≤ 7211114 from by omega, by decide⟩ (by unfold WW; exact pm0 _ _ _ _ _ _ _ _) dL_law_1610 ?_
    refine g_perm (ws2 := WW E a b o1 o2 fo fd lt ls lw lh lx rt rc zf qf uf tf cf th ma st ti sp we ho sa ca cl su) (by unfold WW; exact (pm0 _ _ _ _ _ _ _ _).symm) ?_
    exact tail_greatestFrom C S hin e1 K (show k + 2 ≤ k + 4 from by omega) (show n + 12 ≤ n + 24 from by omega) hk2 hn2 f2 he2.2.1 (fun h9 => absurd h9 he2.2.2) (RL_mono R (by omega)) hrb
set_option maxHeartbeats 4000000 in
set_option maxRecDepth 100000 in
theorem tail_busy (C : Cx E X cL_law 9 RL wsL_law room_1 ret hh) (S : Sx X sb Ln xs) (hin : ∀ c : Int32, 1 ≤ c.toInt → c.toInt ≤ 6 → vp_in (i5 + c) Ln) (e1 : xs (i5 + 1).toNatClampNeg = p1) (e2 : xs (i5 + 2).toNatClampNeg = p2) (e3 : xs (i5 + 3).toNatClampNeg = p3) {k1 n1 : Nat} (K : Kont E X a b o1 o2 sb i5 bd k n) (hk : k1 ≤ k + 4) (hn : n1 ≤ n + 24) (hk2 : k + 4 ≤ 603072) (hn2 : n + 24 ≤ 7211114) {κ : Int32} {r : _} (hr : f_X5_busy ma ti sp we ho sa p1 p2 p3 = some r) (hth : r.2 = κ) (hv : κ = 0 → fo (0 : Int32).toNatClampNeg = r.1.toInt64) (hq : RQ (bd + 120) lt ls lw lh lx zf qf uf tf cf ma st ti sp we ho sa ca cl) (hb : rb rt rc) : Gx E X (WW E a b o1 o2 fo fd lt ls lw lh lx rt rc zf qf uf tf cf th ma st ti sp we ho sa ca cl su) 9 (lv0 sb a b o1 o2 i5) [.int κ] 1681 k1 n1 := by
  refine g_room hk hn ?_
  refine g_istore C (lv2 := [(6, .int κ), (5, .int i5), (0, .ref sb), (1, .ref (a 0)), (2, .ref (b 0)), (3, .ref o1), (4, .ref o2)]) rfl (by decide) dL_law_1681 ?_
  refine g_aload_n C 4 rfl rfl dL_law_1683 ?_
  refine g_aload_n C 2 rfl rfl dL_law_1684 ?_
  refine g_iload C 1 rfl dL_law_1685 ?_
  refine g_iconst C (v := 1) (by decide) dL_law_1687 ?_
  refine g_iadd C dL_law_1688 ?_
  refine g_sldv C S (hin 1 (by decide) (by decide)) e1 dL_law_1689 ?_
  refine g_aload_n C 2 rfl rfl dL_law_1690 ?_
  refine g_iload C 1 rfl dL_law_1691 ?_
  refine g_iconst C (v := 2) (by decide) dL_law_1693 ?_
  refine g_iadd C dL_law_1694 ?_
  refine g_sldv C S (hin 2 (by decide) (by decide)) e2 dL_law_1695 ?_
  refine g_aload_n C 2 rfl rfl dL_law_1696 ?_
  refine g_iload C 1 rfl dL_law_1697 ?_
  refine g_iconst C (v := 3) (by decide) dL_law_1699 ?_
  refine g_iadd C dL_law_1700 ?_
  refine g_sldv C S (hin 3 (by decide) (by decide)) e3 dL_law_1701 ?_
  refine g_callVL (As := [.int p1, .int p2, .int p3]) (n9 := 3) (st := []) C (c_X5_busy E b th ma st ti sp we ho sa ca cl su p1 p2 p3 r hr) gL_law_X5_busy rfl (by decide +kernel) rfl ⟨by decide, by decide, hk2, hn2, by decide⟩ 0 rfl rfl (List.Perm.refl _) dL_law_1702 ?_
  refine g_istore C (lv2 := [(7, .int r.1), (6, .int κ), (5, .int i5), (0, .ref sb), (1, .ref (a 0)), (2, .ref (b 0)), (3, .ref o1), (4, .ref o2)]) rfl (by decide) dL_law_1705 ?_
  refine g_aload_n C 5 rfl rfl dL_law_1707 ?_
  refine g_callVL (As := []) (n9 := 0) (st := []) C (c_X5_thrown E b r.2 ma st ti sp we ho sa ca cl su r.2 rfl) gL_law_X5_thrown rfl (by decide +kernel) rfl ⟨by decide, by decide, hk2, hn2, by decide⟩ 0 rfl rfl (List.Perm.refl _) dL_law_1708 ?_
  refine g_iload C 1 rfl dL_law_1711 ?_
  refine g_icmp_eq (tgt := 1718) C dL_law_1713 (by decide) (fun _ => ?_) (fun h9 => absurd hth h9)
  refine g_iload C 1 rfl dL_law_1718 ?_
  refine g_if_ne (tgt := 1735) C dL_law_1720 (by decide) (fun _ => ?_) (fun hz => ?_)
  · refine g_goto (tgt := 2256) C dL_law_1735 (by decide) ?_
    refine g_lvs [2, 3, 4, 5, 6, 7] rfl ?_
    exact K hq hb
  · refine g_aload_n C 6 rfl rfl dL_law_1723 ?_
    refine g_iconst C (v := 0) (by decide) dL_law_1724 ?_
    refine g_lald C 9 rfl (inB_in (by decide +kernel)) dL_law_1725 ?_
    refine g_iload C 0 rfl dL_law_1726 ?_
    refine g_i2l C dL_law_1728 ?_
    refine g_lcmp C dL_law_1729 ?_
    refine g_if_eq (tgt := 1735) C dL_law_1730 (by decide) (fun _ => ?_) (fun h9 => absurd (by rw [hv hz]; exact cmp0 _) h9)
    refine g_goto (tgt := 2256) C dL_law_1735 (by decide) ?_
    refine g_lvs [2, 3, 4, 5, 6, 7] rfl ?_
    exact K hq hb
theorem ex_busy {e : String} {t9 : Int32} (h : (e, t9) ∈ ([("java/lang/IndexOutOfBoundsException", 1), ("java/lang/IllegalArgumentException", 2)] : List (String × Int32))) : (e = "java/lang/IndexOutOfBoundsException" ∨ e = "java/lang/IllegalArgumentException") ∧ t9 = ec_busy e ∧ ec_busy e ≠ 0 := by
  have h2 : (e = "java/lang/IndexOutOfBoundsException" ∧ t9 = 1) ∨ (e = "java/lang/IllegalArgumentException" ∧ t9 = 2) := by simpa using h
  rcases h2 with ⟨rfl, h8⟩ | ⟨rfl, h8⟩ <;> subst h8 <;> refine ⟨by simp, by simp [ec_busy], by simp [ec_busy]⟩
set_option maxHeartbeats 4000000 in
set_option maxRecDepth 100000 in
theorem case_busy (C : Cx E X cL_law 9 RL wsL_law room_1 ret hh) (S : Sx X sb Ln xs) (hin : ∀ c : Int32, 1 ≤ c.toInt → c.toInt ≤ 6 → vp_in (i5 + c) Ln) (e1 : xs (i5 + 1).toNatClampNeg = p1) (e2 : xs (i5 + 2).toNatClampNeg = p2) (e3 : xs (i5 + 3).toNatClampNeg = p3) (K : Kont E X a b o1 o2 sb i5 bd k n) (hk2 : k + 4 ≤ 603072) (hn2 : n + 24 ≤ 7211114) (R : RQ bd lt ls lw lh lx zf qf uf tf cf ma st ti sp we ho sa ca cl) (hbd : bd ≤ 900000) (hrb : rb rt rc) : Gx E X (WW E a b o1 o2 fo fd lt ls lw lh lx rt rc zf qf uf tf cf th ma st ti sp we ho sa ca cl su) 9 (lv0 sb a b o1 o2 i5) [] 1658 k n := by
  refine g_aload_n C 2 rfl rfl dL_law_1658 ?_
  refine g_aload_n C 1 rfl rfl dL_law_1659 ?_
  refine g_iload C 0 rfl dL_law_1660 ?_
  refine g_iconst C (v := 1) (by decide) dL_law_1662 ?_
  refine g_iadd C dL_law_1663 ?_
  refine g_sldv C S (hin 1 (by decide) (by decide)) e1 dL_law_1664 ?_
  refine g_aload_n C 1 rfl rfl dL_law_1665 ?_
  refine g_iload C 0 rfl dL_law_1666 ?_
  refine g_iconst C (v := 2) (by decide) dL_law_1668 ?_
  refine g_iadd C dL_law_1669 ?_
  refine g_sldv C S (hin 2 (by decide) (by decide)) e2 dL_law_1670 ?_
  refine g_aload_n C 1 rfl rfl dL_law_1671 ?_
  refine g_iload C 0 rfl dL_law_1672 ?_
  refine g_iconst C (v := 3) (by decide) dL_law_1674 ?_
  refine g_iadd C dL_law_1675 ?_
  refine g_sldv C S (hin 3 (by decide) (by decide)) e3 dL_law_1676 ?_
  refine g_aload_n C 4 rfl rfl dL_law_1677 ?_
  by_cases hv1 : 0 ≤ p1.toInt ∧ p1.toInt < 4
  · obtain ⟨kh, hkp, hkh⟩ : ∃ kh : Nat, p1.toInt = kh ∧ kh < 4 := ⟨p1.toInt.toNat, by omega, by omega⟩
    have eh4 := houseAt_t hkp hkh
    obtain ⟨oc, r, f1, f2, h3⟩ := st_busy R hkp hkh p2 p3
    have cx := c_X4_busy E a kh lt ls lw lh lx (nI kh) (zf kh) (qf kh) (uf kh) (tf kh) (cf kh) p1 p2 p3 eh4 oc f1
    rcases h3 with ⟨e, he, hm⟩ | ⟨he, ht⟩
    · subst he
      have hm : (e, r.2) ∈ ([("java/lang/IndexOutOfBoundsException", 1), ("java/lang/IllegalArgumentException", 2)] : List (String × Int32)) := List.mem_cons_of_mem _ hm
      have he2 := ex_busy hm
      refine g_callSL (As := [.ref (a 0), .int p1, .int p2, .int p3, .ref o1]) (n9 := 5) (st := []) (S := wM E b th ma st ti sp we ho sa ca cl su ++ (O2w E o2 fd ++ (wHl E a zf qf uf tf cf (hO kh) ++ wX0 E a 13 rt rc))) C (c_L_busy E o1 (a 0) fo p1 p2 p3 cx rfl (fun x hx => by cases hx; exact he2.1)) gL_law_L_busy rfl (by decide +kernel) rfl ⟨by decide, by decide, show k + 2 ≤ 603072 from by omega, show n + 12 ≤ 7211114 from by omega, by decide⟩ (by unfold WW; exact pm1 _ _ _ _ _ _ _ _ _ _ (hh_1 hkh)) dL_law_1678 ?_
      refine g_perm (ws2 := WW E a b o1 o2 fo fd lt ls lw lh lx rt rc zf qf uf tf cf th ma st ti sp we ho sa ca cl su) (by unfold WW; exact (pm1 _ _ _ _ _ _ _ _ _ _ (hh_1 hkh)).symm) ?_
      exact tail_busy C S hin e1 e2 e3 K (show k + 2 ≤ k + 4 from by omega) (show n + 12 ≤ n + 24 from by omega) hk2 hn2 f2 he2.2.1 (fun h9 => absurd h9 he2.2.2) (RL_mono R (by omega)) hrb
    · subst he
      refine g_callSL (As := [.ref (a 0), .int p1, .int p2, .int p3, .ref o1]) (n9 := 5) (st := []) (S := wM E b th ma st ti sp we ho sa ca cl su ++ (O2w E o2 fd ++ (wHl E a zf qf uf tf cf (hO kh) ++ wX0 E a 13 rt rc))) C (c_L_busy E o1 (a 0) fo p1 p2 p3 cx rfl (fun x hx => nomatch hx)) gL_law_L_busy rfl (by decide +kernel) rfl ⟨by decide, by decide, show k + 2 ≤ 603072 from by omega, show n + 12 ≤ 7211114 from by omega, by decide⟩ (by unfold WW; exact pm1 _ _ _ _ _ _ _ _ _ _ (hh_1 hkh)) dL_law_1678 ?_
      refine g_perm (ws2 := WW E a b o1 o2 (vp_updL fo 0 (r.1).toInt64) fd lt ls lw lh lx rt rc zf qf uf tf cf th ma st ti sp we ho sa ca cl su) (by unfold WW; exact (pm1 _ _ _ _ _ _ _ _ _ _ (hh_1 hkh)).symm) ?_
      exact tail_busy C S hin e1 e2 e3 K (show k + 2 ≤ k + 4 from by omega) (show n + 12 ≤ n + 24 from by omega) hk2 hn2 f2 ht (fun _ => updL0 _ _) (RL_mono R (by omega)) hrb
  · have hpb : p1.toInt < 0 ∨ 4 ≤ p1.toInt := by omega
    obtain ⟨f1, f2⟩ := bad_busy (ma := ma) (ti := ti) (sp := sp) (we := we) (ho := ho) (sa := sa) hpb p2 p3
    have cx := c_X4_busy_bad E a p1 p2 p3 (fun h9 => houseAt_no hpb h9) (.inl "java/lang/IndexOutOfBoundsException") f1
    have hm : ("java/lang/IndexOutOfBoundsException", (1 : Int32)) ∈ ([("java/lang/IndexOutOfBoundsException", 1), ("java/lang/IllegalArgumentException", 2)] : List (String × Int32)) := by simp
    have he2 := ex_busy hm
    refine g_callSL (As := [.ref (a 0), .int p1, .int p2, .int p3, .ref o1]) (n9 := 5) (st := []) (S := wM E b th ma st ti sp we ho sa ca cl su ++ (O2w E o2 fd ++ (wX2 E a 2 lt ls lw lh lx ++ (wHl E a zf qf uf tf cf [0, 1, 2, 3] ++ wX0 E a 13 rt rc)))) C (c_L_busy E o1 (a 0) fo p1 p2 p3 cx rfl (fun x hx => by cases hx; exact he2.1)) gL_law_L_busy rfl (by decide +kernel) rfl ⟨by decide, by decide, show k + 2 ≤ 603072 from by omega, show n + 12 ≤ 7211114 from by omega, by decide⟩ (by unfold WW; exact pm0 _ _ _ _ _ _ _ _) dL_law_1678 ?_
    refine g_perm (ws2 := WW E a b o1 o2 fo fd lt ls lw lh lx rt rc zf qf uf tf cf th ma st ti sp we ho sa ca cl su) (by unfold WW; exact (pm0 _ _ _ _ _ _ _ _).symm) ?_
    exact tail_busy C S hin e1 e2 e3 K (show k + 2 ≤ k + 4 from by omega) (show n + 12 ≤ n + 24 from by omega) hk2 hn2 f2 he2.2.1 (fun h9 => absurd h9 he2.2.2) (RL_mono R (by omega)) hrb
set_option maxHeartbeats 4000000 in
set_option maxRecDepth 100000 in
theorem tail_spans (C : Cx E X cL_law 9 RL wsL_law room_1 ret hh) (S : Sx X sb Ln xs) (hin : ∀ c : Int32, 1 ≤ c.toInt → c.toInt ≤ 6 → vp_in (i5 + c) Ln) (e1 : xs (i5 + 1).toNatClampNeg = p1) {k1 n1 : Nat} (K : Kont E X a b o1 o2 sb i5 bd k n) (hk : k1 ≤ k + 4) (hn : n1 ≤ n + 24) (hk2 : k + 4 ≤ 603072) (hn2 : n + 24 ≤ 7211114) {κ : Int32} {r : _} (hr : f_X5_spans ma ti sp we ho sa p1 = some r) (hth : r.2 = κ) (hv : κ = 0 → fo (0 : Int32).toNatClampNeg = r.1.toInt64) (hq : RQ (bd + 120) lt ls lw lh lx zf qf uf tf cf ma st ti sp we ho sa ca cl) (hb : rb rt rc) : Gx E X (WW E a b o1 o2 fo fd lt ls lw lh lx rt rc zf qf uf tf cf th ma st ti sp we ho sa ca cl su) 9 (lv0 sb a b o1 o2 i5) [.int κ] 1749 k1 n1 := by
  refine g_room hk hn ?_
  refine g_istore C (lv2 := [(6, .int κ), (5, .int i5), (0, .ref sb), (1, .ref (a 0)), (2, .ref (b 0)), (3, .ref o1), (4, .ref o2)]) rfl (by decide) dL_law_1749 ?_
  refine g_aload_n C 4 rfl rfl dL_law_1751 ?_
  refine g_aload_n C 2 rfl rfl dL_law_1752 ?_
  refine g_iload C 1 rfl dL_law_1753 ?_
  refine g_iconst C (v := 1) (by decide) dL_law_1755 ?_
  refine g_iadd C dL_law_1756 ?_
  refine g_sldv C S (hin 1 (by decide) (by decide)) e1 dL_law_1757 ?_
  refine g_callVL (As := [.int p1]) (n9 := 1) (st := []) C (c_X5_spans E b th ma st ti sp we ho sa ca cl su p1 r hr) gL_law_X5_spans rfl (by decide +kernel) rfl ⟨by decide, by decide, hk2, hn2, by decide⟩ 0 rfl rfl (List.Perm.refl _) dL_law_1758 ?_
  refine g_istore C (lv2 := [(7, .int r.1), (6, .int κ), (5, .int i5), (0, .ref sb), (1, .ref (a 0)), (2, .ref (b 0)), (3, .ref o1), (4, .ref o2)]) rfl (by decide) dL_law_1761 ?_
  refine g_aload_n C 5 rfl rfl dL_law_1763 ?_
  refine g_callVL (As := []) (n9 := 0) (st := []) C (c_X5_thrown E b r.2 ma st ti sp we ho sa ca cl su r.2 rfl) gL_law_X5_thrown rfl (by decide +kernel) rfl ⟨by decide, by decide, hk2, hn2, by decide⟩ 0 rfl rfl (List.Perm.refl _) dL_law_1764 ?_
  refine g_iload C 1 rfl dL_law_1767 ?_
  refine g_icmp_eq (tgt := 1774) C dL_law_1769 (by decide) (fun _ => ?_) (fun h9 => absurd hth h9)
  refine g_iload C 1 rfl dL_law_1774 ?_
  refine g_if_ne (tgt := 1791) C dL_law_1776 (by decide) (fun _ => ?_) (fun hz => ?_)
  · refine g_goto (tgt := 2256) C dL_law_1791 (by decide) ?_
    refine g_lvs [2, 3, 4, 5, 6, 7] rfl ?_
    exact K hq hb
  · refine g_aload_n C 6 rfl rfl dL_law_1779 ?_
    refine g_iconst C (v := 0) (by decide) dL_law_1780 ?_
    refine g_lald C 9 rfl (inB_in (by decide +kernel)) dL_law_1781 ?_
    refine g_iload C 0 rfl dL_law_1782 ?_
    refine g_i2l C dL_law_1784 ?_
    refine g_lcmp C dL_law_1785 ?_
    refine g_if_eq (tgt := 1791) C dL_law_1786 (by decide) (fun _ => ?_) (fun h9 => absurd (by rw [hv hz]; exact cmp0 _) h9)
    refine g_goto (tgt := 2256) C dL_law_1791 (by decide) ?_
    refine g_lvs [2, 3, 4, 5, 6, 7] rfl ?_
    exact K hq hb
theorem ex_spans {e : String} {t9 : Int32} (h : (e, t9) ∈ ([("java/lang/IndexOutOfBoundsException", 1)] : List (String × Int32))) : (e = "java/lang/IndexOutOfBoundsException") ∧ t9 = ec_spans e ∧ ec_spans e ≠ 0 := by
  have h2 : (e = "java/lang/IndexOutOfBoundsException" ∧ t9 = 1) := by simpa using h
  rcases h2 with ⟨rfl, h8⟩ <;> subst h8 <;> refine ⟨by simp, by simp [ec_spans], by simp [ec_spans]⟩
set_option maxHeartbeats 4000000 in
set_option maxRecDepth 100000 in
theorem case_spans (C : Cx E X cL_law 9 RL wsL_law room_1 ret hh) (S : Sx X sb Ln xs) (hin : ∀ c : Int32, 1 ≤ c.toInt → c.toInt ≤ 6 → vp_in (i5 + c) Ln) (e1 : xs (i5 + 1).toNatClampNeg = p1) (K : Kont E X a b o1 o2 sb i5 bd k n) (hk2 : k + 4 ≤ 603072) (hn2 : n + 24 ≤ 7211114) (R : RQ bd lt ls lw lh lx zf qf uf tf cf ma st ti sp we ho sa ca cl) (hbd : bd ≤ 900000) (hrb : rb rt rc) : Gx E X (WW E a b o1 o2 fo fd lt ls lw lh lx rt rc zf qf uf tf cf th ma st ti sp we ho sa ca cl su) 9 (lv0 sb a b o1 o2 i5) [] 1738 k n := by
  refine g_aload_n C 2 rfl rfl dL_law_1738 ?_
  refine g_aload_n C 1 rfl rfl dL_law_1739 ?_
  refine g_iload C 0 rfl dL_law_1740 ?_
  refine g_iconst C (v := 1) (by decide) dL_law_1742 ?_
  refine g_iadd C dL_law_1743 ?_
  refine g_sldv C S (hin 1 (by decide) (by decide)) e1 dL_law_1744 ?_
  refine g_aload_n C 4 rfl rfl dL_law_1745 ?_
  by_cases hv1 : 0 ≤ p1.toInt ∧ p1.toInt < 4
  · obtain ⟨kh, hkp, hkh⟩ : ∃ kh : Nat, p1.toInt = kh ∧ kh < 4 := ⟨p1.toInt.toNat, by omega, by omega⟩
    have eh4 := houseAt_t hkp hkh
    obtain ⟨oc, r, f1, f2, h3⟩ := st_spans R hkp hkh 
    have cx := c_X4_spans E a kh lt ls lw lh lx (nI kh) (zf kh) (qf kh) (uf kh) (tf kh) (cf kh) p1 eh4 oc f1
    rcases h3 with ⟨e, he, hm⟩ | ⟨he, ht⟩
    · subst he
      exact absurd hm List.not_mem_nil
    · subst he
      refine g_callSL (As := [.ref (a 0), .int p1, .ref o1]) (n9 := 3) (st := []) (S := wM E b th ma st ti sp we ho sa ca cl su ++ (O2w E o2 fd ++ (wHl E a zf qf uf tf cf (hO kh) ++ wX0 E a 13 rt rc))) C (c_L_spans E o1 (a 0) fo p1 cx rfl (fun x hx => nomatch hx)) gL_law_L_spans rfl (by decide +kernel) rfl ⟨by decide, by decide, show k + 1 ≤ 603072 from by omega, show n + 6 ≤ 7211114 from by omega, by decide⟩ (by unfold WW; exact pm1 _ _ _ _ _ _ _ _ _ _ (hh_1 hkh)) dL_law_1746 ?_
      refine g_perm (ws2 := WW E a b o1 o2 (vp_updL fo 0 (r.1).toInt64) fd lt ls lw lh lx rt rc zf qf uf tf cf th ma st ti sp we ho sa ca cl su) (by unfold WW; exact (pm1 _ _ _ _ _ _ _ _ _ _ (hh_1 hkh)).symm) ?_
      exact tail_spans C S hin e1 K (show k + 1 ≤ k + 4 from by omega) (show n + 6 ≤ n + 24 from by omega) hk2 hn2 f2 ht (fun _ => updL0 _ _) (RL_mono R (by omega)) hrb
  · have hpb : p1.toInt < 0 ∨ 4 ≤ p1.toInt := by omega
    obtain ⟨f1, f2⟩ := bad_spans (ma := ma) (ti := ti) (sp := sp) (we := we) (ho := ho) (sa := sa) hpb 
    have cx := c_X4_spans_bad E a p1 (fun h9 => houseAt_no hpb h9) (.inl "java/lang/IndexOutOfBoundsException") f1
    have hm : ("java/lang/IndexOutOfBoundsException", (1 : Int32)) ∈ ([("java/lang/IndexOutOfBoundsException", 1)] : List (String × Int32)) := by simp
    have he2 := ex_spans hm
    refine g_callSL (As := [.ref (a 0), .int p1, .ref o1]) (n9 := 3) (st := []) (S := wM E b th ma st ti sp we ho sa ca cl su ++ (O2w E o2 fd ++ (wX2 E a 2 lt ls lw lh lx ++ (wHl E a zf qf uf tf cf [0, 1, 2, 3] ++ wX0 E a 13 rt rc)))) C (c_L_spans E o1 (a 0) fo p1 cx rfl (fun x hx => by cases hx; exact he2.1)) gL_law_L_spans rfl (by decide +kernel) rfl ⟨by decide, by decide, show k + 1 ≤ 603072 from by omega, show n + 6 ≤ 7211114 from by omega, by decide⟩ (by unfold WW; exact pm0 _ _ _ _ _ _ _ _) dL_law_1746 ?_
    refine g_perm (ws2 := WW E a b o1 o2 fo fd lt ls lw lh lx rt rc zf qf uf tf cf th ma st ti sp we ho sa ca cl su) (by unfold WW; exact (pm0 _ _ _ _ _ _ _ _).symm) ?_
    exact tail_spans C S hin e1 K (show k + 1 ≤ k + 4 from by omega) (show n + 6 ≤ n + 24 from by omega) hk2 hn2 f2 he2.2.1 (fun h9 => absurd h9 he2.2.2) (RL_mono R (by omega)) hrb
end LC4
