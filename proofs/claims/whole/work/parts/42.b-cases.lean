/-! the law's cases, 2 -/
section LC2
variable {E : gE} {X : gX} {ret : Option FieldType} {hh : List ExceptionTableEntry} {sb Ln : Nat} {xs : Nat → Int32} {a b : Nat → Nat} {o1 o2 : Nat} {i5 : Int32} {bd k n : Nat} {fo : Nat → Int64} {fd : Nat → UInt64} {lt ls lw lh lx rt rc : RS} {zf : Nat → Int32} {qf uf tf cf : Nat → RS} {th ma st : Int32} {ti sp we ho sa ca cl : Nat → Int32} {su : Int64} {p1 p2 p3 p4 p5 p6 : Int32}
set_option maxHeartbeats 4000000 in
set_option maxRecDepth 100000 in
theorem tail_join (C : Cx E X cL_law 9 RL wsL_law room_1 ret hh) (S : Sx X sb Ln xs) (hin : ∀ c : Int32, 1 ≤ c.toInt → c.toInt ≤ 6 → vp_in (i5 + c) Ln) (e1 : xs (i5 + 1).toNatClampNeg = p1) (e2 : xs (i5 + 2).toNatClampNeg = p2) {k1 n1 : Nat} (K : Kont E X a b o1 o2 sb i5 bd k n) (hk : k1 ≤ k + 4) (hn : n1 ≤ n + 24) (hk2 : k + 4 ≤ 603072) (hn2 : n + 24 ≤ 7211114) {κ : Int32} {r : _} (hr : f_X5_join ma ti ho sa cl p1 p2 = some r) (hth : r.2.1 = κ) (hv : κ = 0 → fo (0 : Int32).toNatClampNeg = r.1.toInt64) (hq : RQ (bd + 120) lt ls lw lh lx zf qf uf tf cf ma st ti sp we r.2.2 sa ca cl) (hb : rb rt rc) : Gx E X (WW E a b o1 o2 fo fd lt ls lw lh lx rt rc zf qf uf tf cf th ma st ti sp we ho sa ca cl su) 9 (lv0 sb a b o1 o2 i5) [.int κ] 646 k1 n1 := by
  refine g_room hk hn ?_
  refine g_istore C (lv2 := [(6, .int κ), (5, .int i5), (0, .ref sb), (1, .ref (a 0)), (2, .ref (b 0)), (3, .ref o1), (4, .ref o2)]) rfl (by decide) dL_law_646 ?_
  refine g_aload_n C 4 rfl rfl dL_law_648 ?_
  refine g_aload_n C 2 rfl rfl dL_law_649 ?_
  refine g_iload C 1 rfl dL_law_650 ?_
  refine g_iconst C (v := 1) (by decide) dL_law_652 ?_
  refine g_iadd C dL_law_653 ?_
  refine g_sldv C S (hin 1 (by decide) (by decide)) e1 dL_law_654 ?_
  refine g_aload_n C 2 rfl rfl dL_law_655 ?_
  refine g_iload C 1 rfl dL_law_656 ?_
  refine g_iconst C (v := 2) (by decide) dL_law_658 ?_
  refine g_iadd C dL_law_659 ?_
  refine g_sldv C S (hin 2 (by decide) (by decide)) e2 dL_law_660 ?_
  refine g_callVL (As := [.int p1, .int p2]) (n9 := 2) (st := []) C (c_X5_join E b th ma st ti sp we ho sa ca cl su p1 p2 r hr) gL_law_X5_join rfl (by decide +kernel) rfl ⟨by decide, by decide, hk2, hn2, by decide⟩ 0 rfl rfl (List.Perm.refl _) dL_law_661 ?_
  refine g_istore C (lv2 := [(7, .int r.1), (6, .int κ), (5, .int i5), (0, .ref sb), (1, .ref (a 0)), (2, .ref (b 0)), (3, .ref o1), (4, .ref o2)]) rfl (by decide) dL_law_664 ?_
  refine g_aload_n C 5 rfl rfl dL_law_666 ?_
  refine g_callVL (As := []) (n9 := 0) (st := []) C (c_X5_thrown E b r.2.1 ma st ti sp we r.2.2 sa ca cl su r.2.1 rfl) gL_law_X5_thrown rfl (by decide +kernel) rfl ⟨by decide, by decide, hk2, hn2, by decide⟩ 0 rfl rfl (List.Perm.refl _) dL_law_667 ?_
  refine g_iload C 1 rfl dL_law_670 ?_
  refine g_icmp_eq (tgt := 677) C dL_law_672 (by decide) (fun _ => ?_) (fun h9 => absurd hth h9)
  refine g_iload C 1 rfl dL_law_677 ?_
  refine g_if_ne (tgt := 694) C dL_law_679 (by decide) (fun _ => ?_) (fun hz => ?_)
  · refine g_goto (tgt := 2256) C dL_law_694 (by decide) ?_
    refine g_lvs [2, 3, 4, 5, 6, 7] rfl ?_
    exact K hq hb
  · refine g_aload_n C 6 rfl rfl dL_law_682 ?_
    refine g_iconst C (v := 0) (by decide) dL_law_683 ?_
    refine g_lald C 9 rfl (inB_in (by decide +kernel)) dL_law_684 ?_
    refine g_iload C 0 rfl dL_law_685 ?_
    refine g_i2l C dL_law_687 ?_
    refine g_lcmp C dL_law_688 ?_
    refine g_if_eq (tgt := 694) C dL_law_689 (by decide) (fun _ => ?_) (fun h9 => absurd (by rw [hv hz]; exact cmp0 _) h9)
    refine g_goto (tgt := 2256) C dL_law_694 (by decide) ?_
    refine g_lvs [2, 3, 4, 5, 6, 7] rfl ?_
    exact K hq hb
theorem ex_join {e : String} {t9 : Int32} (h : (e, t9) ∈ ([("java/lang/IndexOutOfBoundsException", 1), ("java/lang/IllegalStateException", 2)] : List (String × Int32))) : (e = "java/lang/IndexOutOfBoundsException" ∨ e = "java/lang/IllegalStateException") ∧ t9 = ec_join e ∧ ec_join e ≠ 0 := by
  have h2 : (e = "java/lang/IndexOutOfBoundsException" ∧ t9 = 1) ∨ (e = "java/lang/IllegalStateException" ∧ t9 = 2) := by simpa using h
  rcases h2 with ⟨rfl, h8⟩ | ⟨rfl, h8⟩ <;> subst h8 <;> refine ⟨by simp, by simp [ec_join], by simp [ec_join]⟩
set_option maxHeartbeats 4000000 in
set_option maxRecDepth 100000 in
theorem case_join (C : Cx E X cL_law 9 RL wsL_law room_1 ret hh) (S : Sx X sb Ln xs) (hin : ∀ c : Int32, 1 ≤ c.toInt → c.toInt ≤ 6 → vp_in (i5 + c) Ln) (e1 : xs (i5 + 1).toNatClampNeg = p1) (e2 : xs (i5 + 2).toNatClampNeg = p2) (K : Kont E X a b o1 o2 sb i5 bd k n) (hk2 : k + 4 ≤ 603072) (hn2 : n + 24 ≤ 7211114) (R : RQ bd lt ls lw lh lx zf qf uf tf cf ma st ti sp we ho sa ca cl) (hbd : bd ≤ 900000) (hrb : rb rt rc) : Gx E X (WW E a b o1 o2 fo fd lt ls lw lh lx rt rc zf qf uf tf cf th ma st ti sp we ho sa ca cl su) 9 (lv0 sb a b o1 o2 i5) [] 629 k n := by
  refine g_aload_n C 2 rfl rfl dL_law_629 ?_
  refine g_aload_n C 1 rfl rfl dL_law_630 ?_
  refine g_iload C 0 rfl dL_law_631 ?_
  refine g_iconst C (v := 1) (by decide) dL_law_633 ?_
  refine g_iadd C dL_law_634 ?_
  refine g_sldv C S (hin 1 (by decide) (by decide)) e1 dL_law_635 ?_
  refine g_aload_n C 1 rfl rfl dL_law_636 ?_
  refine g_iload C 0 rfl dL_law_637 ?_
  refine g_iconst C (v := 2) (by decide) dL_law_639 ?_
  refine g_iadd C dL_law_640 ?_
  refine g_sldv C S (hin 2 (by decide) (by decide)) e2 dL_law_641 ?_
  refine g_aload_n C 4 rfl rfl dL_law_642 ?_
  by_cases hv1 : (0 ≤ p1.toInt ∧ p1.toInt < 4) ∧ (0 ≤ p2.toInt ∧ p2.toInt < 4) ∧ p1 ≠ p2
  · obtain ⟨kh, hkp, hkh⟩ : ∃ kh : Nat, p1.toInt = kh ∧ kh < 4 := ⟨p1.toInt.toNat, by omega, by omega⟩
    obtain ⟨kj, hjp, hkj⟩ : ∃ kj : Nat, p2.toInt = kj ∧ kj < 4 := ⟨p2.toInt.toNat, by omega, by omega⟩
    have hne : kh ≠ kj := fun z => hv1.2.2 (eqI2 hkp hjp (by omega))
    have eh4 := houseAt_t hkp hkh
    have eg4 := houseAt_t hjp hkj
    obtain ⟨oc, r, f1, f2, h3⟩ := st_join R hbd hkp hkh hjp hkj hne 
    have cx := c_X4_join E a kh kj lt ls lw lh lx (nI kh) (zf kh) (qf kh) (uf kh) (tf kh) (cf kh) (nI kj) (zf kj) (qf kj) (uf kj) (tf kj) (cf kj) p1 p2 eh4 eg4 oc f1
    rcases h3 with ⟨e, he, hm, hq⟩ | ⟨v, he, ht, hv, hq⟩
    · subst he
      have hm : (e, r.2.1) ∈ ([("java/lang/IndexOutOfBoundsException", 1), ("java/lang/IllegalStateException", 2)] : List (String × Int32)) := List.mem_cons_of_mem _ hm
      have he2 := ex_join hm
      refine g_callSL (As := [.ref (a 0), .int p1, .int p2, .ref o1]) (n9 := 4) (st := []) (S := wM E b th ma st ti sp we ho sa ca cl su ++ (O2w E o2 fd ++ (wHl E a zf qf uf tf cf (hO2 kh kj) ++ wX0 E a 13 rt rc))) C (c_L_join E o1 (a 0) fo p1 p2 cx rfl (fun x hx => by cases hx; exact he2.1)) gL_law_L_join rfl (by decide +kernel) rfl ⟨by decide, by decide, show k + 4 ≤ 603072 from by omega, show n + 24 ≤ 7211114 from by omega, by decide⟩ (by unfold WW; exact pm2 _ _ _ _ _ _ _ _ _ _ _ (hh_2 hkh hkj hne)) dL_law_643 ?_
      refine g_perm (ws2 := WW E a b o1 o2 fo fd lt ls lw lh lx rt rc zf qf uf tf cf th ma st ti sp we ho sa ca cl su) (by unfold WW; exact (pm2 _ _ _ _ _ _ _ _ _ _ _ (hh_2 hkh hkj hne)).symm) ?_
      exact tail_join C S hin e1 e2 K (show k + 4 ≤ k + 4 from by omega) (show n + 24 ≤ n + 24 from by omega) hk2 hn2 f2 he2.2.1 (fun h9 => absurd h9 he2.2.2) hq hrb
    · subst he
      have w1 : (ups (ups qf kj v.2.2.2.2) kh v.2.2.2.1) kj = v.2.2.2.2 := (ups_n _ _ (fun z => hne z.symm)).trans (ups_e _ _ _)
      have w2 : (ups (ups qf kj v.2.2.2.2) kh v.2.2.2.1) kh = v.2.2.2.1 := ups_e _ _ _
      have hu := hh_2u hkh hkj hne (E := E) (a := a) (zf := zf) (qf := qf) (uf := uf) (tf := tf) (cf := cf) (qf' := (ups (ups qf kj v.2.2.2.2) kh v.2.2.2.1)) (fun j h1 h2 => (ups_n _ _ h1).trans (ups_n _ _ h2))
      rw [w1, w2] at hu
      refine g_callSL (As := [.ref (a 0), .int p1, .int p2, .ref o1]) (n9 := 4) (st := []) (S := wM E b th ma st ti sp we ho sa ca cl su ++ (O2w E o2 fd ++ (wHl E a zf qf uf tf cf (hO2 kh kj) ++ wX0 E a 13 rt rc))) C (c_L_join E o1 (a 0) fo p1 p2 cx rfl (fun x hx => nomatch hx)) gL_law_L_join rfl (by decide +kernel) rfl ⟨by decide, by decide, show k + 4 ≤ 603072 from by omega, show n + 24 ≤ 7211114 from by omega, by decide⟩ (by unfold WW; exact pm2 _ _ _ _ _ _ _ _ _ _ _ (hh_2 hkh hkj hne)) dL_law_643 ?_
      refine g_perm (ws2 := WW E a b o1 o2 (vp_updL fo 0 (v.1).toInt64) fd lt ls lw v.2.1 v.2.2.1 rt rc zf (ups (ups qf kj v.2.2.2.2) kh v.2.2.2.1) uf tf cf th ma st ti sp we ho sa ca cl su) (by unfold WW; exact (pm2 _ _ _ _ _ _ _ _ _ _ _ hu.symm).symm) ?_
      exact tail_join C S hin e1 e2 K (show k + 4 ≤ k + 4 from by omega) (show n + 24 ≤ n + 24 from by omega) hk2 hn2 f2 ht (fun _ => (updL0 _ _).trans (congrArg Int32.toInt64 hv)) hq hrb
  · obtain ⟨e, t9, f1, f2, hm⟩ := bad_join (ma := ma) (ti := ti) (ho := ho) (sa := sa) (cl := cl)  hv1
    have cx := c_X4_join_bad E a p1 p2 (fun h1 h2 h3 => hv1 (by
      have g1 : 0 ≤ p1.toInt ∧ p1.toInt < 4 := Classical.byContradiction (fun z => houseAt_no (by omega) h1)
      have g2 : 0 ≤ p2.toInt ∧ p2.toInt < 4 := Classical.byContradiction (fun z => houseAt_no (by omega) h2)
      refine ⟨g1, g2, fun z => ?_⟩
      unfold f_X4_refuseIfSame at h3
      rw [if_pos z] at h3
      cases h3)) (.inl e) f1
    have he2 := ex_join hm
    refine g_callSL (As := [.ref (a 0), .int p1, .int p2, .ref o1]) (n9 := 4) (st := []) (S := wM E b th ma st ti sp we ho sa ca cl su ++ (O2w E o2 fd ++ (wX2 E a 2 lt ls lw lh lx ++ (wHl E a zf qf uf tf cf [0, 1, 2, 3] ++ wX0 E a 13 rt rc)))) C (c_L_join E o1 (a 0) fo p1 p2 cx rfl (fun x hx => by cases hx; exact he2.1)) gL_law_L_join rfl (by decide +kernel) rfl ⟨by decide, by decide, show k + 4 ≤ 603072 from by omega, show n + 24 ≤ 7211114 from by omega, by decide⟩ (by unfold WW; exact pm0 _ _ _ _ _ _ _ _) dL_law_643 ?_
    refine g_perm (ws2 := WW E a b o1 o2 fo fd lt ls lw lh lx rt rc zf qf uf tf cf th ma st ti sp we ho sa ca cl su) (by unfold WW; exact (pm0 _ _ _ _ _ _ _ _).symm) ?_
    exact tail_join C S hin e1 e2 K (show k + 4 ≤ k + 4 from by omega) (show n + 24 ≤ n + 24 from by omega) hk2 hn2 f2 he2.2.1 (fun h9 => absurd h9 he2.2.2) (RL_mono R (by omega)) hrb
set_option maxHeartbeats 4000000 in
set_option maxRecDepth 100000 in
theorem tail_part (C : Cx E X cL_law 9 RL wsL_law room_1 ret hh) (S : Sx X sb Ln xs) (hin : ∀ c : Int32, 1 ≤ c.toInt → c.toInt ≤ 6 → vp_in (i5 + c) Ln) (e1 : xs (i5 + 1).toNatClampNeg = p1) (e2 : xs (i5 + 2).toNatClampNeg = p2) (e3 : xs (i5 + 3).toNatClampNeg = p3) {k1 n1 : Nat} (K : Kont E X a b o1 o2 sb i5 bd k n) (hk : k1 ≤ k + 4) (hn : n1 ≤ n + 24) (hk2 : k + 4 ≤ 603072) (hn2 : n + 24 ≤ 7211114) {κ : Int32} {r : _} (hr : f_X5_part ma ti ho sa cl p1 p2 p3 = some r) (hth : r.2.1 = κ) (hv : κ = 0 → fo (0 : Int32).toNatClampNeg = r.1.toInt64) (hq : RQ (bd + 120) lt ls lw lh lx zf qf uf tf cf ma st ti sp we r.2.2 sa ca cl) (hb : rb rt rc) : Gx E X (WW E a b o1 o2 fo fd lt ls lw lh lx rt rc zf qf uf tf cf th ma st ti sp we ho sa ca cl su) 9 (lv0 sb a b o1 o2 i5) [.int κ] 720 k1 n1 := by
  refine g_room hk hn ?_
  refine g_istore C (lv2 := [(6, .int κ), (5, .int i5), (0, .ref sb), (1, .ref (a 0)), (2, .ref (b 0)), (3, .ref o1), (4, .ref o2)]) rfl (by decide) dL_law_720 ?_
  refine g_aload_n C 4 rfl rfl dL_law_722 ?_
  refine g_aload_n C 2 rfl rfl dL_law_723 ?_
  refine g_iload C 1 rfl dL_law_724 ?_
  refine g_iconst C (v := 1) (by decide) dL_law_726 ?_
  refine g_iadd C dL_law_727 ?_
  refine g_sldv C S (hin 1 (by decide) (by decide)) e1 dL_law_728 ?_
  refine g_aload_n C 2 rfl rfl dL_law_729 ?_
  refine g_iload C 1 rfl dL_law_730 ?_
  refine g_iconst C (v := 2) (by decide) dL_law_732 ?_
  refine g_iadd C dL_law_733 ?_
  refine g_sldv C S (hin 2 (by decide) (by decide)) e2 dL_law_734 ?_
  refine g_aload_n C 2 rfl rfl dL_law_735 ?_
  refine g_iload C 1 rfl dL_law_736 ?_
  refine g_iconst C (v := 3) (by decide) dL_law_738 ?_
  refine g_iadd C dL_law_739 ?_
  refine g_sldv C S (hin 3 (by decide) (by decide)) e3 dL_law_740 ?_
  refine g_callVL (As := [.int p1, .int p2, .int p3]) (n9 := 3) (st := []) C (c_X5_part E b th ma st ti sp we ho sa ca cl su p1 p2 p3 r hr) gL_law_X5_part rfl (by decide +kernel) rfl ⟨by decide, by decide, hk2, hn2, by decide⟩ 0 rfl rfl (List.Perm.refl _) dL_law_741 ?_
  refine g_istore C (lv2 := [(7, .int r.1), (6, .int κ), (5, .int i5), (0, .ref sb), (1, .ref (a 0)), (2, .ref (b 0)), (3, .ref o1), (4, .ref o2)]) rfl (by decide) dL_law_744 ?_
  refine g_aload_n C 5 rfl rfl dL_law_746 ?_
  refine g_callVL (As := []) (n9 := 0) (st := []) C (c_X5_thrown E b r.2.1 ma st ti sp we r.2.2 sa ca cl su r.2.1 rfl) gL_law_X5_thrown rfl (by decide +kernel) rfl ⟨by decide, by decide, hk2, hn2, by decide⟩ 0 rfl rfl (List.Perm.refl _) dL_law_747 ?_
  refine g_iload C 1 rfl dL_law_750 ?_
  refine g_icmp_eq (tgt := 757) C dL_law_752 (by decide) (fun _ => ?_) (fun h9 => absurd hth h9)
  refine g_iload C 1 rfl dL_law_757 ?_
  refine g_if_ne (tgt := 774) C dL_law_759 (by decide) (fun _ => ?_) (fun hz => ?_)
  · refine g_goto (tgt := 2256) C dL_law_774 (by decide) ?_
    refine g_lvs [2, 3, 4, 5, 6, 7] rfl ?_
    exact K hq hb
  · refine g_aload_n C 6 rfl rfl dL_law_762 ?_
    refine g_iconst C (v := 0) (by decide) dL_law_763 ?_
    refine g_lald C 9 rfl (inB_in (by decide +kernel)) dL_law_764 ?_
    refine g_iload C 0 rfl dL_law_765 ?_
    refine g_i2l C dL_law_767 ?_
    refine g_lcmp C dL_law_768 ?_
    refine g_if_eq (tgt := 774) C dL_law_769 (by decide) (fun _ => ?_) (fun h9 => absurd (by rw [hv hz]; exact cmp0 _) h9)
    refine g_goto (tgt := 2256) C dL_law_774 (by decide) ?_
    refine g_lvs [2, 3, 4, 5, 6, 7] rfl ?_
    exact K hq hb
theorem ex_part {e : String} {t9 : Int32} (h : (e, t9) ∈ ([("java/lang/IndexOutOfBoundsException", 1), ("java/lang/IllegalStateException", 2)] : List (String × Int32))) : (e = "java/lang/IndexOutOfBoundsException" ∨ e = "java/lang/IllegalStateException") ∧ t9 = ec_part e ∧ ec_part e ≠ 0 := by
  have h2 : (e = "java/lang/IndexOutOfBoundsException" ∧ t9 = 1) ∨ (e = "java/lang/IllegalStateException" ∧ t9 = 2) := by simpa using h
  rcases h2 with ⟨rfl, h8⟩ | ⟨rfl, h8⟩ <;> subst h8 <;> refine ⟨by simp, by simp [ec_part], by simp [ec_part]⟩
set_option maxHeartbeats 4000000 in
set_option maxRecDepth 100000 in
theorem case_part (C : Cx E X cL_law 9 RL wsL_law room_1 ret hh) (S : Sx X sb Ln xs) (hin : ∀ c : Int32, 1 ≤ c.toInt → c.toInt ≤ 6 → vp_in (i5 + c) Ln) (e1 : xs (i5 + 1).toNatClampNeg = p1) (e2 : xs (i5 + 2).toNatClampNeg = p2) (e3 : xs (i5 + 3).toNatClampNeg = p3) (K : Kont E X a b o1 o2 sb i5 bd k n) (hk2 : k + 4 ≤ 603072) (hn2 : n + 24 ≤ 7211114) (R : RQ bd lt ls lw lh lx zf qf uf tf cf ma st ti sp we ho sa ca cl) (hbd : bd ≤ 900000) (hrb : rb rt rc) : Gx E X (WW E a b o1 o2 fo fd lt ls lw lh lx rt rc zf qf uf tf cf th ma st ti sp we ho sa ca cl su) 9 (lv0 sb a b o1 o2 i5) [] 697 k n := by
  refine g_aload_n C 2 rfl rfl dL_law_697 ?_
  refine g_aload_n C 1 rfl rfl dL_law_698 ?_
  refine g_iload C 0 rfl dL_law_699 ?_
  refine g_iconst C (v := 1) (by decide) dL_law_701 ?_
  refine g_iadd C dL_law_702 ?_
  refine g_sldv C S (hin 1 (by decide) (by decide)) e1 dL_law_703 ?_
  refine g_aload_n C 1 rfl rfl dL_law_704 ?_
  refine g_iload C 0 rfl dL_law_705 ?_
  refine g_iconst C (v := 2) (by decide) dL_law_707 ?_
  refine g_iadd C dL_law_708 ?_
  refine g_sldv C S (hin 2 (by decide) (by decide)) e2 dL_law_709 ?_
  refine g_aload_n C 1 rfl rfl dL_law_710 ?_
  refine g_iload C 0 rfl dL_law_711 ?_
  refine g_iconst C (v := 3) (by decide) dL_law_713 ?_
  refine g_iadd C dL_law_714 ?_
  refine g_sldv C S (hin 3 (by decide) (by decide)) e3 dL_law_715 ?_
  refine g_aload_n C 4 rfl rfl dL_law_716 ?_
  by_cases hv1 : (0 ≤ p1.toInt ∧ p1.toInt < 4) ∧ (0 ≤ p2.toInt ∧ p2.toInt < 4) ∧ p1 ≠ p2
  · obtain ⟨kh, hkp, hkh⟩ : ∃ kh : Nat, p1.toInt = kh ∧ kh < 4 := ⟨p1.toInt.toNat, by omega, by omega⟩
    obtain ⟨kj, hjp, hkj⟩ : ∃ kj : Nat, p2.toInt = kj ∧ kj < 4 := ⟨p2.toInt.toNat, by omega, by omega⟩
    have hne : kh ≠ kj := fun z => hv1.2.2 (eqI2 hkp hjp (by omega))
    have eh4 := houseAt_t hkp hkh
    have eg4 := houseAt_t hjp hkj
    obtain ⟨oc, r, f1, f2, h3⟩ := st_part R hbd hkp hkh hjp hkj hne p3
    have cx := c_X4_part E a kh kj lt ls lw lh lx (nI kh) (zf kh) (qf kh) (uf kh) (tf kh) (cf kh) (nI kj) (zf kj) (qf kj) (uf kj) (tf kj) (cf kj) p1 p2 p3 eh4 eg4 oc f1
    rcases h3 with ⟨e, he, hm, hq⟩ | ⟨v, he, ht, hv, hq⟩
    · subst he
      have hm : (e, r.2.1) ∈ ([("java/lang/IndexOutOfBoundsException", 1), ("java/lang/IllegalStateException", 2)] : List (String × Int32)) := List.mem_cons_of_mem _ hm
      have he2 := ex_part hm
      refine g_callSL (As := [.ref (a 0), .int p1, .int p2, .int p3, .ref o1]) (n9 := 5) (st := []) (S := wM E b th ma st ti sp we ho sa ca cl su ++ (O2w E o2 fd ++ (wHl E a zf qf uf tf cf (hO2 kj kh) ++ wX0 E a 13 rt rc))) C (c_L_part E o1 (a 0) fo p1 p2 p3 cx rfl (fun x hx => by cases hx; exact he2.1)) gL_law_L_part rfl (by decide +kernel) rfl ⟨by decide, by decide, show k + 4 ≤ 603072 from by omega, show n + 24 ≤ 7211114 from by omega, by decide⟩ (by unfold WW; exact pm2 _ _ _ _ _ _ _ _ _ _ _ (hh_2 hkj hkh (fun z => hne z.symm))) dL_law_717 ?_
      refine g_perm (ws2 := WW E a b o1 o2 fo fd lt ls lw lh lx rt rc zf qf uf tf cf th ma st ti sp we ho sa ca cl su) (by unfold WW; exact (pm2 _ _ _ _ _ _ _ _ _ _ _ (hh_2 hkj hkh (fun z => hne z.symm))).symm) ?_
      exact tail_part C S hin e1 e2 e3 K (show k + 4 ≤ k + 4 from by omega) (show n + 24 ≤ n + 24 from by omega) hk2 hn2 f2 he2.2.1 (fun h9 => absurd h9 he2.2.2) hq hrb
    · subst he
      have w1 : (ups (ups qf kh v.2.2.2.2) kj v.2.2.2.1) kh = v.2.2.2.2 := (ups_n _ _ hne).trans (ups_e _ _ _)
      have w2 : (ups (ups qf kh v.2.2.2.2) kj v.2.2.2.1) kj = v.2.2.2.1 := ups_e _ _ _
      have hu := hh_2u hkj hkh (fun z => hne z.symm) (E := E) (a := a) (zf := zf) (qf := qf) (uf := uf) (tf := tf) (cf := cf) (qf' := (ups (ups qf kh v.2.2.2.2) kj v.2.2.2.1)) (fun j h1 h2 => (ups_n _ _ h1).trans (ups_n _ _ h2))
      rw [w1, w2] at hu
      refine g_callSL (As := [.ref (a 0), .int p1, .int p2, .int p3, .ref o1]) (n9 := 5) (st := []) (S := wM E b th ma st ti sp we ho sa ca cl su ++ (O2w E o2 fd ++ (wHl E a zf qf uf tf cf (hO2 kj kh) ++ wX0 E a 13 rt rc))) C (c_L_part E o1 (a 0) fo p1 p2 p3 cx rfl (fun x hx => nomatch hx)) gL_law_L_part rfl (by decide +kernel) rfl ⟨by decide, by decide, show k + 4 ≤ 603072 from by omega, show n + 24 ≤ 7211114 from by omega, by decide⟩ (by unfold WW; exact pm2 _ _ _ _ _ _ _ _ _ _ _ (hh_2 hkj hkh (fun z => hne z.symm))) dL_law_717 ?_
      refine g_perm (ws2 := WW E a b o1 o2 (vp_updL fo 0 (v.1).toInt64) fd lt ls lw v.2.1 v.2.2.1 rt rc zf (ups (ups qf kh v.2.2.2.2) kj v.2.2.2.1) uf tf cf th ma st ti sp we ho sa ca cl su) (by unfold WW; exact (pm2 _ _ _ _ _ _ _ _ _ _ _ hu.symm).symm) ?_
      exact tail_part C S hin e1 e2 e3 K (show k + 4 ≤ k + 4 from by omega) (show n + 24 ≤ n + 24 from by omega) hk2 hn2 f2 ht (fun _ => (updL0 _ _).trans (congrArg Int32.toInt64 hv)) hq hrb
  · obtain ⟨e, t9, f1, f2, hm⟩ := bad_part (ma := ma) (ti := ti) (ho := ho) (sa := sa) (cl := cl) p3 hv1
    have cx := c_X4_part_bad E a p1 p2 p3 (fun h1 h2 h3 => hv1 (by
      have g1 : 0 ≤ p1.toInt ∧ p1.toInt < 4 := Classical.byContradiction (fun z => houseAt_no (by omega) h1)
      have g2 : 0 ≤ p2.toInt ∧ p2.toInt < 4 := Classical.byContradiction (fun z => houseAt_no (by omega) h2)
      refine ⟨g1, g2, fun z => ?_⟩
      unfold f_X4_refuseIfSame at h3
      rw [if_pos z] at h3
      cases h3)) (.inl e) f1
    have he2 := ex_part hm
    refine g_callSL (As := [.ref (a 0), .int p1, .int p2, .int p3, .ref o1]) (n9 := 5) (st := []) (S := wM E b th ma st ti sp we ho sa ca cl su ++ (O2w E o2 fd ++ (wX2 E a 2 lt ls lw lh lx ++ (wHl E a zf qf uf tf cf [0, 1, 2, 3] ++ wX0 E a 13 rt rc)))) C (c_L_part E o1 (a 0) fo p1 p2 p3 cx rfl (fun x hx => by cases hx; exact he2.1)) gL_law_L_part rfl (by decide +kernel) rfl ⟨by decide, by decide, show k + 4 ≤ 603072 from by omega, show n + 24 ≤ 7211114 from by omega, by decide⟩ (by unfold WW; exact pm0 _ _ _ _ _ _ _ _) dL_law_717 ?_
    refine g_perm (ws2 := WW E a b o1 o2 fo fd lt ls lw lh lx rt rc zf qf uf tf cf th ma st ti sp we ho sa ca cl su) (by unfold WW; exact (pm0 _ _ _ _ _ _ _ _).symm) ?_
    exact tail_part C S hin e1 e2 e3 K (show k + 4 ≤ k + 4 from by omega) (show n + 24 ≤ n + 24 from by omega) hk2 hn2 f2 he2.2.1 (fun h9 => absurd h9 he2.2.2) (RL_mono R (by omega)) hrb
set_option maxHeartbeats 4000000 in
set_option maxRecDepth 100000 in
theorem tail_next (C : Cx E X cL_law 9 RL wsL_law room_1 ret hh) (S : Sx X sb Ln xs) (hin : ∀ c : Int32, 1 ≤ c.toInt → c.toInt ≤ 6 → vp_in (i5 + c) Ln) (e1 : xs (i5 + 1).toNatClampNeg = p1) {k1 n1 : Nat} (K : Kont E X a b o1 o2 sb i5 bd k n) (hk : k1 ≤ k + 4) (hn : n1 ≤ n + 24) (hk2 : k + 4 ≤ 603072) (hn2 : n + 24 ≤ 7211114) {κ : Int32} {r : _} (hr : f_X5_next ma st ti ho sa ca cl p1 = some r) (hth : r.2.1 = κ) (hv : κ = 0 → fo (0 : Int32).toNatClampNeg = r.1.toInt64) (hq : RQ (bd + 120) lt ls lw lh lx zf qf uf tf cf ma r.2.2.1 ti sp we ho r.2.2.2.1 r.2.2.2.2.1 r.2.2.2.2.2) (hb : rb rt rc) : Gx E X (WW E a b o1 o2 fo fd lt ls lw lh lx rt rc zf qf uf tf cf th ma st ti sp we ho sa ca cl su) 9 (lv0 sb a b o1 o2 i5) [.int κ] 788 k1 n1 := by
  refine g_room hk hn ?_
  refine g_istore C (lv2 := [(6, .int κ), (5, .int i5), (0, .ref sb), (1, .ref (a 0)), (2, .ref (b 0)), (3, .ref o1), (4, .ref o2)]) rfl (by decide) dL_law_788 ?_
  refine g_aload_n C 4 rfl rfl dL_law_790 ?_
  refine g_aload_n C 2 rfl rfl dL_law_791 ?_
  refine g_iload C 1 rfl dL_law_792 ?_
  refine g_iconst C (v := 1) (by decide) dL_law_794 ?_
  refine g_iadd C dL_law_795 ?_
  refine g_sldv C S (hin 1 (by decide) (by decide)) e1 dL_law_796 ?_
  refine g_callVL (As := [.int p1]) (n9 := 1) (st := []) C (c_X5_next E b th ma st ti sp we ho sa ca cl su p1 r hr) gL_law_X5_next rfl (by decide +kernel) rfl ⟨by decide, by decide, hk2, hn2, by decide⟩ 0 rfl rfl (List.Perm.refl _) dL_law_797 ?_
  refine g_istore C (lv2 := [(7, .int r.1), (6, .int κ), (5, .int i5), (0, .ref sb), (1, .ref (a 0)), (2, .ref (b 0)), (3, .ref o1), (4, .ref o2)]) rfl (by decide) dL_law_800 ?_
  refine g_aload_n C 5 rfl rfl dL_law_802 ?_
  refine g_callVL (As := []) (n9 := 0) (st := []) C (c_X5_thrown E b r.2.1 ma r.2.2.1 ti sp we ho r.2.2.2.1 r.2.2.2.2.1 r.2.2.2.2.2 su r.2.1 rfl) gL_law_X5_thrown rfl (by decide +kernel) rfl ⟨by decide, by decide, hk2, hn2, by decide⟩ 0 rfl rfl (List.Perm.refl _) dL_law_803 ?_
  refine g_iload C 1 rfl dL_law_806 ?_
  refine g_icmp_eq (tgt := 813) C dL_law_808 (by decide) (fun _ => ?_) (fun h9 => absurd hth h9)
  refine g_iload C 1 rfl dL_law_813 ?_
  refine g_if_ne (tgt := 830) C dL_law_815 (by decide) (fun _ => ?_) (fun hz => ?_)
  · refine g_goto (tgt := 2256) C dL_law_830 (by decide) ?_
    refine g_lvs [2, 3, 4, 5, 6, 7] rfl ?_
    exact K hq hb
  · refine g_aload_n C 6 rfl rfl dL_law_818 ?_
    refine g_iconst C (v := 0) (by decide) dL_law_819 ?_
    refine g_lald C 9 rfl (inB_in (by decide +kernel)) dL_law_820 ?_
    refine g_iload C 0 rfl dL_law_821 ?_
    refine g_i2l C dL_law_823 ?_
    refine g_lcmp C dL_law_824 ?_
    refine g_if_eq (tgt := 830) C dL_law_825 (by decide) (fun _ => ?_) (fun h9 => absurd (by rw [hv hz]; exact cmp0 _) h9)
    refine g_goto (tgt := 2256) C dL_law_830 (by decide) ?_
    refine g_lvs [2, 3, 4, 5, 6, 7] rfl ?_
    exact K hq hb
theorem ex_next {e : String} {t9 : Int32} (h : (e, t9) ∈ ([("java/lang/IndexOutOfBoundsException", 1), ("java/util/NoSuchElementException", 2)] : List (String × Int32))) : (e = "java/lang/IndexOutOfBoundsException" ∨ e = "java/util/NoSuchElementException") ∧ t9 = ec_next e ∧ ec_next e ≠ 0 := by
  have h2 : (e = "java/lang/IndexOutOfBoundsException" ∧ t9 = 1) ∨ (e = "java/util/NoSuchElementException" ∧ t9 = 2) := by simpa using h
  rcases h2 with ⟨rfl, h8⟩ | ⟨rfl, h8⟩ <;> subst h8 <;> refine ⟨by simp, by simp [ec_next], by simp [ec_next]⟩
set_option maxHeartbeats 4000000 in
set_option maxRecDepth 100000 in
theorem case_next (C : Cx E X cL_law 9 RL wsL_law room_1 ret hh) (S : Sx X sb Ln xs) (hin : ∀ c : Int32, 1 ≤ c.toInt → c.toInt ≤ 6 → vp_in (i5 + c) Ln) (e1 : xs (i5 + 1).toNatClampNeg = p1) (K : Kont E X a b o1 o2 sb i5 bd k n) (hk2 : k + 4 ≤ 603072) (hn2 : n + 24 ≤ 7211114) (R : RQ bd lt ls lw lh lx zf qf uf tf cf ma st ti sp we ho sa ca cl) (hbd : bd ≤ 900000) (hrb : rb rt rc) : Gx E X (WW E a b o1 o2 fo fd lt ls lw lh lx rt rc zf qf uf tf cf th ma st ti sp we ho sa ca cl su) 9 (lv0 sb a b o1 o2 i5) [] 777 k n := by
  refine g_aload_n C 2 rfl rfl dL_law_777 ?_
  refine g_aload_n C 1 rfl rfl dL_law_778 ?_
  refine g_iload C 0 rfl dL_law_779 ?_
  refine g_iconst C (v := 1) (by decide) dL_law_781 ?_
  refine g_iadd C dL_law_782 ?_
  refine g_sldv C S (hin 1 (by decide) (by decide)) e1 dL_law_783 ?_
  refine g_aload_n C 4 rfl rfl dL_law_784 ?_
  by_cases hv1 : 0 ≤ p1.toInt ∧ p1.toInt < 4
  · obtain ⟨kh, hkp, hkh⟩ : ∃ kh : Nat, p1.toInt = kh ∧ kh < 4 := ⟨p1.toInt.toNat, by omega, by omega⟩
    have eh4 := houseAt_t hkp hkh
    obtain ⟨oc, r, f1, f2, h3⟩ := st_next R hbd hkp hkh 
    have cx := c_X4_next E a kh lt ls lw lh lx (nI kh) (zf kh) (qf kh) (uf kh) (tf kh) (cf kh) p1 eh4 oc f1
    rcases h3 with ⟨e, he, hm, hq⟩ | ⟨v, he, ht, hv, hq⟩
    · subst he
      have hm : (e, r.2.1) ∈ ([("java/lang/IndexOutOfBoundsException", 1), ("java/util/NoSuchElementException", 2)] : List (String × Int32)) := List.mem_cons_of_mem _ hm
      have he2 := ex_next hm
      refine g_callSL (As := [.ref (a 0), .int p1, .ref o1]) (n9 := 3) (st := []) (S := wM E b th ma st ti sp we ho sa ca cl su ++ (O2w E o2 fd ++ (wHl E a zf qf uf tf cf (hO kh) ++ wX0 E a 13 rt rc))) C (c_L_next E o1 (a 0) fo p1 cx rfl (fun x hx => by cases hx; exact he2.1)) gL_law_L_next rfl (by decide +kernel) rfl ⟨by decide, by decide, show k + 2 ≤ 603072 from by omega, show n + 12 ≤ 7211114 from by omega, by decide⟩ (by unfold WW; exact pm1 _ _ _ _ _ _ _ _ _ _ (hh_1 hkh)) dL_law_785 ?_
      refine g_perm (ws2 := WW E a b o1 o2 fo fd lt ls lw lh lx rt rc zf qf uf tf cf th ma st ti sp we ho sa ca cl su) (by unfold WW; exact (pm1 _ _ _ _ _ _ _ _ _ _ (hh_1 hkh)).symm) ?_
      exact tail_next C S hin e1 K (show k + 2 ≤ k + 4 from by omega) (show n + 12 ≤ n + 24 from by omega) hk2 hn2 f2 he2.2.1 (fun h9 => absurd h9 he2.2.2) hq hrb
    · subst he
      refine g_callSL (As := [.ref (a 0), .int p1, .ref o1]) (n9 := 3) (st := []) (S := wM E b th ma st ti sp we ho sa ca cl su ++ (O2w E o2 fd ++ (wHl E a zf qf uf tf cf (hO kh) ++ wX0 E a 13 rt rc))) C (c_L_next E o1 (a 0) fo p1 cx rfl (fun x hx => nomatch hx)) gL_law_L_next rfl (by decide +kernel) rfl ⟨by decide, by decide, show k + 2 ≤ 603072 from by omega, show n + 12 ≤ 7211114 from by omega, by decide⟩ (by unfold WW; exact pm1 _ _ _ _ _ _ _ _ _ _ (hh_1 hkh)) dL_law_785 ?_
      refine g_perm (ws2 := WW E a b o1 o2 (vp_updL fo 0 (v.1).toInt64) fd lt ls lw lh v.2.1 rt rc (ups zf kh v.2.2.1) (ups qf kh v.2.2.2.1) (ups uf kh v.2.2.2.2.1) (ups tf kh v.2.2.2.2.2.1) (ups cf kh v.2.2.2.2.2.2) th ma st ti sp we ho sa ca cl su) (by unfold WW; exact (pm1 _ _ _ _ _ _ _ _ _ _ (hh_1u hkh).symm).symm) ?_
      exact tail_next C S hin e1 K (show k + 2 ≤ k + 4 from by omega) (show n + 12 ≤ n + 24 from by omega) hk2 hn2 f2 ht (fun _ => (updL0 _ _).trans (congrArg Int32.toInt64 hv)) hq hrb
  · have hpb : p1.toInt < 0 ∨ 4 ≤ p1.toInt := by omega
    obtain ⟨f1, f2⟩ := bad_next (ma := ma) (st := st) (ti := ti) (ho := ho) (sa := sa) (ca := ca) (cl := cl) hpb 
    have cx := c_X4_next_bad E a p1 (fun h9 => houseAt_no hpb h9) (.inl "java/lang/IndexOutOfBoundsException") f1
    have hm : ("java/lang/IndexOutOfBoundsException", (1 : Int32)) ∈ ([("java/lang/IndexOutOfBoundsException", 1), ("java/util/NoSuchElementException", 2)] : List (String × Int32)) := by simp
    have he2 := ex_next hm
    refine g_callSL (As := [.ref (a 0), .int p1, .ref o1]) (n9 := 3) (st := []) (S := wM E b th ma st ti sp we ho sa ca cl su ++ (O2w E o2 fd ++ (wX2 E a 2 lt ls lw lh lx ++ (wHl E a zf qf uf tf cf [0, 1, 2, 3] ++ wX0 E a 13 rt rc)))) C (c_L_next E o1 (a 0) fo p1 cx rfl (fun x hx => by cases hx; exact he2.1)) gL_law_L_next rfl (by decide +kernel) rfl ⟨by decide, by decide, show k + 2 ≤ 603072 from by omega, show n + 12 ≤ 7211114 from by omega, by decide⟩ (by unfold WW; exact pm0 _ _ _ _ _ _ _ _) dL_law_785 ?_
    refine g_perm (ws2 := WW E a b o1 o2 fo fd lt ls lw lh lx rt rc zf qf uf tf cf th ma st ti sp we ho sa ca cl su) (by unfold WW; exact (pm0 _ _ _ _ _ _ _ _).symm) ?_
    exact tail_next C S hin e1 K (show k + 2 ≤ k + 4 from by omega) (show n + 12 ≤ n + 24 from by omega) hk2 hn2 f2 he2.2.1 (fun h9 => absurd h9 he2.2.2) (RL_mono R (by omega)) hrb
set_option maxHeartbeats 4000000 in
set_option maxRecDepth 100000 in
theorem tail_run (C : Cx E X cL_law 9 RL wsL_law room_1 ret hh) (S : Sx X sb Ln xs) (hin : ∀ c : Int32, 1 ≤ c.toInt → c.toInt ≤ 6 → vp_in (i5 + c) Ln) (e1 : xs (i5 + 1).toNatClampNeg = p1) (e2 : xs (i5 + 2).toNatClampNeg = p2) {k1 n1 : Nat} (K : Kont E X a b o1 o2 sb i5 bd k n) (hk : k1 ≤ k + 4) (hn : n1 ≤ n + 24) (hk2 : k + 4 ≤ 603072) (hn2 : n + 24 ≤ 7211114) {κ : Int32} {r : _} (hr : f_X5_run ma st ti ho sa ca cl p1 p2 = some r) (hth : r.2.1 = κ) (hv : κ = 0 → fo (0 : Int32).toNatClampNeg = r.1.toInt64) (hq : RQ (bd + 120) lt ls lw lh lx zf qf uf tf cf ma r.2.2.1 ti sp we ho r.2.2.2.1 r.2.2.2.2.1 r.2.2.2.2.2) (hb : rb rt rc) : Gx E X (WW E a b o1 o2 fo fd lt ls lw lh lx rt rc zf qf uf tf cf th ma st ti sp we ho sa ca cl su) 9 (lv0 sb a b o1 o2 i5) [.int κ] 850 k1 n1 := by
  refine g_room hk hn ?_
  refine g_istore C (lv2 := [(6, .int κ), (5, .int i5), (0, .ref sb), (1, .ref (a 0)), (2, .ref (b 0)), (3, .ref o1), (4, .ref o2)]) rfl (by decide) dL_law_850 ?_
  refine g_aload_n C 4 rfl rfl dL_law_852 ?_
  refine g_aload_n C 2 rfl rfl dL_law_853 ?_
  refine g_iload C 1 rfl dL_law_854 ?_
  refine g_iconst C (v := 1) (by decide) dL_law_856 ?_
  refine g_iadd C dL_law_857 ?_
  refine g_sldv C S (hin 1 (by decide) (by decide)) e1 dL_law_858 ?_
  refine g_aload_n C 2 rfl rfl dL_law_859 ?_
  refine g_iload C 1 rfl dL_law_860 ?_
  refine g_iconst C (v := 2) (by decide) dL_law_862 ?_
  refine g_iadd C dL_law_863 ?_
  refine g_sldv C S (hin 2 (by decide) (by decide)) e2 dL_law_864 ?_
  refine g_callVL (As := [.int p1, .int p2]) (n9 := 2) (st := []) C (c_X5_run E b th ma st ti sp we ho sa ca cl su p1 p2 r hr) gL_law_X5_run rfl (by decide +kernel) rfl ⟨by decide, by decide, hk2, hn2, by decide⟩ 0 rfl rfl (List.Perm.refl _) dL_law_865 ?_
  refine g_istore C (lv2 := [(7, .int r.1), (6, .int κ), (5, .int i5), (0, .ref sb), (1, .ref (a 0)), (2, .ref (b 0)), (3, .ref o1), (4, .ref o2)]) rfl (by decide) dL_law_868 ?_
  refine g_aload_n C 5 rfl rfl dL_law_870 ?_
  refine g_callVL (As := []) (n9 := 0) (st := []) C (c_X5_thrown E b r.2.1 ma r.2.2.1 ti sp we ho r.2.2.2.1 r.2.2.2.2.1 r.2.2.2.2.2 su r.2.1 rfl) gL_law_X5_thrown rfl (by decide +kernel) rfl ⟨by decide, by decide, hk2, hn2, by decide⟩ 0 rfl rfl (List.Perm.refl _) dL_law_871 ?_
  refine g_iload C 1 rfl dL_law_874 ?_
  refine g_icmp_eq (tgt := 881) C dL_law_876 (by decide) (fun _ => ?_) (fun h9 => absurd hth h9)
  refine g_iload C 1 rfl dL_law_881 ?_
  refine g_if_ne (tgt := 898) C dL_law_883 (by decide) (fun _ => ?_) (fun hz => ?_)
  · refine g_goto (tgt := 2256) C dL_law_898 (by decide) ?_
    refine g_lvs [2, 3, 4, 5, 6, 7] rfl ?_
    exact K hq hb
  · refine g_aload_n C 6 rfl rfl dL_law_886 ?_
    refine g_iconst C (v := 0) (by decide) dL_law_887 ?_
    refine g_lald C 9 rfl (inB_in (by decide +kernel)) dL_law_888 ?_
    refine g_iload C 0 rfl dL_law_889 ?_
    refine g_i2l C dL_law_891 ?_
    refine g_lcmp C dL_law_892 ?_
    refine g_if_eq (tgt := 898) C dL_law_893 (by decide) (fun _ => ?_) (fun h9 => absurd (by rw [hv hz]; exact cmp0 _) h9)
    refine g_goto (tgt := 2256) C dL_law_898 (by decide) ?_
    refine g_lvs [2, 3, 4, 5, 6, 7] rfl ?_
    exact K hq hb
theorem ex_run {e : String} {t9 : Int32} (h : (e, t9) ∈ ([("java/lang/IndexOutOfBoundsException", 1), ("java/lang/IllegalArgumentException", 2), ("java/lang/IllegalStateException", 3)] : List (String × Int32))) : (e = "java/lang/IndexOutOfBoundsException" ∨ e = "java/lang/IllegalArgumentException" ∨ e = "java/lang/IllegalStateException") ∧ t9 = ec_run e ∧ ec_run e ≠ 0 := by
  have h2 : (e = "java/lang/IndexOutOfBoundsException" ∧ t9 = 1) ∨ (e = "java/lang/IllegalArgumentException" ∧ t9 = 2) ∨ (e = "java/lang/IllegalStateException" ∧ t9 = 3) := by simpa using h
  rcases h2 with ⟨rfl, h8⟩ | ⟨rfl, h8⟩ | ⟨rfl, h8⟩ <;> subst h8 <;> refine ⟨by simp, by simp [ec_run], by simp [ec_run]⟩
set_option maxHeartbeats 4000000 in
set_option maxRecDepth 100000 in
theorem case_run (C : Cx E X cL_law 9 RL wsL_law room_1 ret hh) (S : Sx X sb Ln xs) (hin : ∀ c : Int32, 1 ≤ c.toInt → c.toInt ≤ 6 → vp_in (i5 + c) Ln) (e1 : xs (i5 + 1).toNatClampNeg = p1) (e2 : xs (i5 + 2).toNatClampNeg = p2) (K : Kont E X a b o1 o2 sb i5 bd k n) (hk2 : k + 4 ≤ 603072) (hn2 : n + 24 ≤ 7211114) (R : RQ bd lt ls lw lh lx zf qf uf tf cf ma st ti sp we ho sa ca cl) (hbd : bd ≤ 900000) (hrb : rb rt rc) : Gx E X (WW E a b o1 o2 fo fd lt ls lw lh lx rt rc zf qf uf tf cf th ma st ti sp we ho sa ca cl su) 9 (lv0 sb a b o1 o2 i5) [] 833 k n := by
  refine g_aload_n C 2 rfl rfl dL_law_833 ?_
  refine g_aload_n C 1 rfl rfl dL_law_834 ?_
  refine g_iload C 0 rfl dL_law_835 ?_
  refine g_iconst C (v := 1) (by decide) dL_law_837 ?_
  refine g_iadd C dL_law_838 ?_
  refine g_sldv C S (hin 1 (by decide) (by decide)) e1 dL_law_839 ?_
  refine g_aload_n C 1 rfl rfl dL_law_840 ?_
  refine g_iload C 0 rfl dL_law_841 ?_
  refine g_iconst C (v := 2) (by decide) dL_law_843 ?_
  refine g_iadd C dL_law_844 ?_
  refine g_sldv C S (hin 2 (by decide) (by decide)) e2 dL_law_845 ?_
  refine g_aload_n C 4 rfl rfl dL_law_846 ?_
  by_cases hv1 : 0 ≤ p1.toInt ∧ p1.toInt < 4
  · obtain ⟨kh, hkp, hkh⟩ : ∃ kh : Nat, p1.toInt = kh ∧ kh < 4 := ⟨p1.toInt.toNat, by omega, by omega⟩
    have eh4 := houseAt_t hkp hkh
    obtain ⟨oc, r, f1, f2, h3⟩ := st_run R hbd hkp hkh p2
    have cx := c_X4_run E a kh lt ls lw lh lx (nI kh) (zf kh) (qf kh) (uf kh) (tf kh) (cf kh) p1 p2 eh4 oc f1
    rcases h3 with ⟨e, he, hm, hq⟩ | ⟨v, he, ht, hv, hq⟩
    · subst he
      have hm : (e, r.2.1) ∈ ([("java/lang/IndexOutOfBoundsException", 1), ("java/lang/IllegalArgumentException", 2), ("java/lang/IllegalStateException", 3)] : List (String × Int32)) := List.mem_cons_of_mem _ hm
      have he2 := ex_run hm
      refine g_callSL (As := [.ref (a 0), .int p1, .int p2, .ref o1]) (n9 := 4) (st := []) (S := wM E b th ma st ti sp we ho sa ca cl su ++ (O2w E o2 fd ++ (wHl E a zf qf uf tf cf (hO kh) ++ wX0 E a 13 rt rc))) C (c_L_run E o1 (a 0) fo p1 p2 cx rfl (fun x hx => by cases hx; exact he2.1)) gL_law_L_run rfl (by decide +kernel) rfl ⟨by decide, by decide, show k + 3 ≤ 603072 from by omega, show n + 18 ≤ 7211114 from by omega, by decide⟩ (by unfold WW; exact pm1 _ _ _ _ _ _ _ _ _ _ (hh_1 hkh)) dL_law_847 ?_
      refine g_perm (ws2 := WW E a b o1 o2 fo fd lt ls lw lh lx rt rc zf qf uf tf cf th ma st ti sp we ho sa ca cl su) (by unfold WW; exact (pm1 _ _ _ _ _ _ _ _ _ _ (hh_1 hkh)).symm) ?_
      exact tail_run C S hin e1 e2 K (show k + 3 ≤ k + 4 from by omega) (show n + 18 ≤ n + 24 from by omega) hk2 hn2 f2 he2.2.1 (fun h9 => absurd h9 he2.2.2) hq hrb
    · subst he
      refine g_callSL (As := [.ref (a 0), .int p1, .int p2, .ref o1]) (n9 := 4) (st := []) (S := wM E b th ma st ti sp we ho sa ca cl su ++ (O2w E o2 fd ++ (wHl E a zf qf uf tf cf (hO kh) ++ wX0 E a 13 rt rc))) C (c_L_run E o1 (a 0) fo p1 p2 cx rfl (fun x hx => nomatch hx)) gL_law_L_run rfl (by decide +kernel) rfl ⟨by decide, by decide, show k + 3 ≤ 603072 from by omega, show n + 18 ≤ 7211114 from by omega, by decide⟩ (by unfold WW; exact pm1 _ _ _ _ _ _ _ _ _ _ (hh_1 hkh)) dL_law_847 ?_
      refine g_perm (ws2 := WW E a b o1 o2 (vp_updL fo 0 (v.1).toInt64) fd lt ls lw lh v.2.1 rt rc (ups zf kh v.2.2.1) (ups qf kh v.2.2.2.1) (ups uf kh v.2.2.2.2.1) (ups tf kh v.2.2.2.2.2.1) (ups cf kh v.2.2.2.2.2.2) th ma st ti sp we ho sa ca cl su) (by unfold WW; exact (pm1 _ _ _ _ _ _ _ _ _ _ (hh_1u hkh).symm).symm) ?_
      exact tail_run C S hin e1 e2 K (show k + 3 ≤ k + 4 from by omega) (show n + 18 ≤ n + 24 from by omega) hk2 hn2 f2 ht (fun _ => (updL0 _ _).trans (congrArg Int32.toInt64 hv)) hq hrb
  · have hpb : p1.toInt < 0 ∨ 4 ≤ p1.toInt := by omega
    obtain ⟨f1, f2⟩ := bad_run (ma := ma) (st := st) (ti := ti) (ho := ho) (sa := sa) (ca := ca) (cl := cl) hpb p2
    have cx := c_X4_run_bad E a p1 p2 (fun h9 => houseAt_no hpb h9) (.inl "java/lang/IndexOutOfBoundsException") f1
    have hm : ("java/lang/IndexOutOfBoundsException", (1 : Int32)) ∈ ([("java/lang/IndexOutOfBoundsException", 1), ("java/lang/IllegalArgumentException", 2), ("java/lang/IllegalStateException", 3)] : List (String × Int32)) := by simp
    have he2 := ex_run hm
    refine g_callSL (As := [.ref (a 0), .int p1, .int p2, .ref o1]) (n9 := 4) (st := []) (S := wM E b th ma st ti sp we ho sa ca cl su ++ (O2w E o2 fd ++ (wX2 E a 2 lt ls lw lh lx ++ (wHl E a zf qf uf tf cf [0, 1, 2, 3] ++ wX0 E a 13 rt rc)))) C (c_L_run E o1 (a 0) fo p1 p2 cx rfl (fun x hx => by cases hx; exact he2.1)) gL_law_L_run rfl (by decide +kernel) rfl ⟨by decide, by decide, show k + 3 ≤ 603072 from by omega, show n + 18 ≤ 7211114 from by omega, by decide⟩ (by unfold WW; exact pm0 _ _ _ _ _ _ _ _) dL_law_847 ?_
    refine g_perm (ws2 := WW E a b o1 o2 fo fd lt ls lw lh lx rt rc zf qf uf tf cf th ma st ti sp we ho sa ca cl su) (by unfold WW; exact (pm0 _ _ _ _ _ _ _ _).symm) ?_
    exact tail_run C S hin e1 e2 K (show k + 3 ≤ k + 4 from by omega) (show n + 18 ≤ n + 24 from by omega) hk2 hn2 f2 he2.2.1 (fun h9 => absurd h9 he2.2.2) (RL_mono R (by omega)) hrb
set_option maxHeartbeats 4000000 in
set_option maxRecDepth 100000 in
theorem tail_back (C : Cx E X cL_law 9 RL wsL_law room_1 ret hh) (S : Sx X sb Ln xs) (hin : ∀ c : Int32, 1 ≤ c.toInt → c.toInt ≤ 6 → vp_in (i5 + c) Ln) (e1 : xs (i5 + 1).toNatClampNeg = p1) (e2 : xs (i5 + 2).toNatClampNeg = p2) {k1 n1 : Nat} (K : Kont E X a b o1 o2 sb i5 bd k n) (hk : k1 ≤ k + 4) (hn : n1 ≤ n + 24) (hk2 : k + 4 ≤ 603072) (hn2 : n + 24 ≤ 7211114) {κ : Int32} {r : _} (hr : f_X5_back ma ti ho sa cl p1 p2 = some r) (hth : r.2.1 = κ) (hv : κ = 0 → fo (0 : Int32).toNatClampNeg = r.1.toInt64) (hq : RQ (bd + 120) lt ls lw lh lx zf qf uf tf cf ma st ti sp we ho r.2.2.1 ca r.2.2.2) (hb : rb rt rc) : Gx E X (WW E a b o1 o2 fo fd lt ls lw lh lx rt rc zf qf uf tf cf th ma st ti sp we ho sa ca cl su) 9 (lv0 sb a b o1 o2 i5) [.int κ] 918 k1 n1 := by
  refine g_room hk hn ?_
  refine g_istore C (lv2 := [(6, .int κ), (5, .int i5), (0, .ref sb), (1, .ref (a 0)), (2, .ref (b 0)), (3, .ref o1), (4, .ref o2)]) rfl (by decide) dL_law_918 ?_
  refine g_aload_n C 4 rfl rfl dL_law_920 ?_
  refine g_aload_n C 2 rfl rfl dL_law_921 ?_
  refine g_iload C 1 rfl dL_law_922 ?_
  refine g_iconst C (v := 1) (by decide) dL_law_924 ?_
  refine g_iadd C dL_law_925 ?_
  refine g_sldv C S (hin 1 (by decide) (by decide)) e1 dL_law_926 ?_
  refine g_aload_n C 2 rfl rfl dL_law_927 ?_
  refine g_iload C 1 rfl dL_law_928 ?_
  refine g_iconst C (v := 2) (by decide) dL_law_930 ?_
  refine g_iadd C dL_law_931 ?_
  refine g_sldv C S (hin 2 (by decide) (by decide)) e2 dL_law_932 ?_
  refine g_callVL (As := [.int p1, .int p2]) (n9 := 2) (st := []) C (c_X5_back E b th ma st ti sp we ho sa ca cl su p1 p2 r hr) gL_law_X5_back rfl (by decide +kernel) rfl ⟨by decide, by decide, hk2, hn2, by decide⟩ 0 rfl rfl (List.Perm.refl _) dL_law_933 ?_
  refine g_istore C (lv2 := [(7, .int r.1), (6, .int κ), (5, .int i5), (0, .ref sb), (1, .ref (a 0)), (2, .ref (b 0)), (3, .ref o1), (4, .ref o2)]) rfl (by decide) dL_law_936 ?_
  refine g_aload_n C 5 rfl rfl dL_law_938 ?_
  refine g_callVL (As := []) (n9 := 0) (st := []) C (c_X5_thrown E b r.2.1 ma st ti sp we ho r.2.2.1 ca r.2.2.2 su r.2.1 rfl) gL_law_X5_thrown rfl (by decide +kernel) rfl ⟨by decide, by decide, hk2, hn2, by decide⟩ 0 rfl rfl (List.Perm.refl _) dL_law_939 ?_
  refine g_iload C 1 rfl dL_law_942 ?_
  refine g_icmp_eq (tgt := 949) C dL_law_944 (by decide) (fun _ => ?_) (fun h9 => absurd hth h9)
  refine g_iload C 1 rfl dL_law_949 ?_
  refine g_if_ne (tgt := 966) C dL_law_951 (by decide) (fun _ => ?_) (fun hz => ?_)
  · refine g_goto (tgt := 2256) C dL_law_966 (by decide) ?_
    refine g_lvs [2, 3, 4, 5, 6, 7] rfl ?_
    exact K hq hb
  · refine g_aload_n C 6 rfl rfl dL_law_954 ?_
    refine g_iconst C (v := 0) (by decide) dL_law_955 ?_
    refine g_lald C 9 rfl (inB_in (by decide +kernel)) dL_law_956 ?_
    refine g_iload C 0 rfl dL_law_957 ?_
    refine g_i2l C dL_law_959 ?_
    refine g_lcmp C dL_law_960 ?_
    refine g_if_eq (tgt := 966) C dL_law_961 (by decide) (fun _ => ?_) (fun h9 => absurd (by rw [hv hz]; exact cmp0 _) h9)
    refine g_goto (tgt := 2256) C dL_law_966 (by decide) ?_
    refine g_lvs [2, 3, 4, 5, 6, 7] rfl ?_
    exact K hq hb
theorem ex_back {e : String} {t9 : Int32} (h : (e, t9) ∈ ([("java/lang/IndexOutOfBoundsException", 1), ("java/lang/IllegalArgumentException", 2), ("java/lang/IllegalStateException", 3)] : List (String × Int32))) : (e = "java/lang/IndexOutOfBoundsException" ∨ e = "java/lang/IllegalArgumentException" ∨ e = "java/lang/IllegalStateException") ∧ t9 = ec_back e ∧ ec_back e ≠ 0 := by
  have h2 : (e = "java/lang/IndexOutOfBoundsException" ∧ t9 = 1) ∨ (e = "java/lang/IllegalArgumentException" ∧ t9 = 2) ∨ (e = "java/lang/IllegalStateException" ∧ t9 = 3) := by simpa using h
  rcases h2 with ⟨rfl, h8⟩ | ⟨rfl, h8⟩ | ⟨rfl, h8⟩ <;> subst h8 <;> refine ⟨by simp, by simp [ec_back], by simp [ec_back]⟩
set_option maxHeartbeats 4000000 in
set_option maxRecDepth 100000 in
theorem case_back (C : Cx E X cL_law 9 RL wsL_law room_1 ret hh) (S : Sx X sb Ln xs) (hin : ∀ c : Int32, 1 ≤ c.toInt → c.toInt ≤ 6 → vp_in (i5 + c) Ln) (e1 : xs (i5 + 1).toNatClampNeg = p1) (e2 : xs (i5 + 2).toNatClampNeg = p2) (K : Kont E X a b o1 o2 sb i5 bd k n) (hk2 : k + 4 ≤ 603072) (hn2 : n + 24 ≤ 7211114) (R : RQ bd lt ls lw lh lx zf qf uf tf cf ma st ti sp we ho sa ca cl) (hbd : bd ≤ 900000) (hrb : rb rt rc) : Gx E X (WW E a b o1 o2 fo fd lt ls lw lh lx rt rc zf qf uf tf cf th ma st ti sp we ho sa ca cl su) 9 (lv0 sb a b o1 o2 i5) [] 901 k n := by
  refine g_aload_n C 2 rfl rfl dL_law_901 ?_
  refine g_aload_n C 1 rfl rfl dL_law_902 ?_
  refine g_iload C 0 rfl dL_law_903 ?_
  refine g_iconst C (v := 1) (by decide) dL_law_905 ?_
  refine g_iadd C dL_law_906 ?_
  refine g_sldv C S (hin 1 (by decide) (by decide)) e1 dL_law_907 ?_
  refine g_aload_n C 1 rfl rfl dL_law_908 ?_
  refine g_iload C 0 rfl dL_law_909 ?_
  refine g_iconst C (v := 2) (by decide) dL_law_911 ?_
  refine g_iadd C dL_law_912 ?_
  refine g_sldv C S (hin 2 (by decide) (by decide)) e2 dL_law_913 ?_
  refine g_aload_n C 4 rfl rfl dL_law_914 ?_
  by_cases hv1 : 0 ≤ p1.toInt ∧ p1.toInt < 4
  · obtain ⟨kh, hkp, hkh⟩ : ∃ kh : Nat, p1.toInt = kh ∧ kh < 4 := ⟨p1.toInt.toNat, by omega, by omega⟩
    have eh4 := houseAt_t hkp hkh
    obtain ⟨oc, r, f1, f2, h3⟩ := st_back R hbd hkp hkh p2
    have cx := c_X4_back E a kh lt ls lw lh lx (nI kh) (zf kh) (qf kh) (uf kh) (tf kh) (cf kh) p1 p2 eh4 oc f1
    rcases h3 with ⟨e, he, hm, hq⟩ | ⟨v, he, ht, hv, hq⟩
    · subst he
      have hm : (e, r.2.1) ∈ ([("java/lang/IndexOutOfBoundsException", 1), ("java/lang/IllegalArgumentException", 2), ("java/lang/IllegalStateException", 3)] : List (String × Int32)) := List.mem_cons_of_mem _ hm
      have he2 := ex_back hm
      refine g_callSL (As := [.ref (a 0), .int p1, .int p2, .ref o1]) (n9 := 4) (st := []) (S := wM E b th ma st ti sp we ho sa ca cl su ++ (O2w E o2 fd ++ (wHl E a zf qf uf tf cf (hO kh) ++ wX0 E a 13 rt rc))) C (c_L_back E o1 (a 0) fo p1 p2 cx rfl (fun x hx => by cases hx; exact he2.1)) gL_law_L_back rfl (by decide +kernel) rfl ⟨by decide, by decide, show k + 3 ≤ 603072 from by omega, show n + 18 ≤ 7211114 from by omega, by decide⟩ (by unfold WW; exact pm1 _ _ _ _ _ _ _ _ _ _ (hh_1 hkh)) dL_law_915 ?_
      refine g_perm (ws2 := WW E a b o1 o2 fo fd lt ls lw lh lx rt rc zf qf uf tf cf th ma st ti sp we ho sa ca cl su) (by unfold WW; exact (pm1 _ _ _ _ _ _ _ _ _ _ (hh_1 hkh)).symm) ?_
      exact tail_back C S hin e1 e2 K (show k + 3 ≤ k + 4 from by omega) (show n + 18 ≤ n + 24 from by omega) hk2 hn2 f2 he2.2.1 (fun h9 => absurd h9 he2.2.2) hq hrb
    · subst he
      refine g_callSL (As := [.ref (a 0), .int p1, .int p2, .ref o1]) (n9 := 4) (st := []) (S := wM E b th ma st ti sp we ho sa ca cl su ++ (O2w E o2 fd ++ (wHl E a zf qf uf tf cf (hO kh) ++ wX0 E a 13 rt rc))) C (c_L_back E o1 (a 0) fo p1 p2 cx rfl (fun x hx => nomatch hx)) gL_law_L_back rfl (by decide +kernel) rfl ⟨by decide, by decide, show k + 3 ≤ 603072 from by omega, show n + 18 ≤ 7211114 from by omega, by decide⟩ (by unfold WW; exact pm1 _ _ _ _ _ _ _ _ _ _ (hh_1 hkh)) dL_law_915 ?_
      refine g_perm (ws2 := WW E a b o1 o2 (vp_updL fo 0 (v.1).toInt64) fd lt ls lw v.2.1 v.2.2.1 rt rc (ups zf kh v.2.2.2.1) (ups qf kh v.2.2.2.2.1) (ups uf kh v.2.2.2.2.2.1) (ups tf kh v.2.2.2.2.2.2.1) (ups cf kh v.2.2.2.2.2.2.2) th ma st ti sp we ho sa ca cl su) (by unfold WW; exact (pm1 _ _ _ _ _ _ _ _ _ _ (hh_1u hkh).symm).symm) ?_
      exact tail_back C S hin e1 e2 K (show k + 3 ≤ k + 4 from by omega) (show n + 18 ≤ n + 24 from by omega) hk2 hn2 f2 ht (fun _ => (updL0 _ _).trans (congrArg Int32.toInt64 hv)) hq hrb
  · have hpb : p1.toInt < 0 ∨ 4 ≤ p1.toInt := by omega
    obtain ⟨f1, f2⟩ := bad_back (ma := ma) (ti := ti) (ho := ho) (sa := sa) (cl := cl) hpb p2
    have cx := c_X4_back_bad E a p1 p2 (fun h9 => houseAt_no hpb h9) (.inl "java/lang/IndexOutOfBoundsException") f1
    have hm : ("java/lang/IndexOutOfBoundsException", (1 : Int32)) ∈ ([("java/lang/IndexOutOfBoundsException", 1), ("java/lang/IllegalArgumentException", 2), ("java/lang/IllegalStateException", 3)] : List (String × Int32)) := by simp
    have he2 := ex_back hm
    refine g_callSL (As := [.ref (a 0), .int p1, .int p2, .ref o1]) (n9 := 4) (st := []) (S := wM E b th ma st ti sp we ho sa ca cl su ++ (O2w E o2 fd ++ (wX2 E a 2 lt ls lw lh lx ++ (wHl E a zf qf uf tf cf [0, 1, 2, 3] ++ wX0 E a 13 rt rc)))) C (c_L_back E o1 (a 0) fo p1 p2 cx rfl (fun x hx => by cases hx; exact he2.1)) gL_law_L_back rfl (by decide +kernel) rfl ⟨by decide, by decide, show k + 3 ≤ 603072 from by omega, show n + 18 ≤ 7211114 from by omega, by decide⟩ (by unfold WW; exact pm0 _ _ _ _ _ _ _ _) dL_law_915 ?_
    refine g_perm (ws2 := WW E a b o1 o2 fo fd lt ls lw lh lx rt rc zf qf uf tf cf th ma st ti sp we ho sa ca cl su) (by unfold WW; exact (pm0 _ _ _ _ _ _ _ _).symm) ?_
    exact tail_back C S hin e1 e2 K (show k + 3 ≤ k + 4 from by omega) (show n + 18 ≤ n + 24 from by omega) hk2 hn2 f2 he2.2.1 (fun h9 => absurd h9 he2.2.2) (RL_mono R (by omega)) hrb
end LC2
