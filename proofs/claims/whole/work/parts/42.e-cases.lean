/-! the law's cases, 5 -/
section LC5
variable {E : gE} {X : gX} {ret : Option FieldType} {hh : List ExceptionTableEntry} {sb Ln : Nat} {xs : Nat → Int32} {a b : Nat → Nat} {o1 o2 : Nat} {i5 : Int32} {bd k n : Nat} {fo : Nat → Int64} {fd : Nat → UInt64} {lt ls lw lh lx rt rc : RS} {zf : Nat → Int32} {qf uf tf cf : Nat → RS} {th ma st : Int32} {ti sp we ho sa ca cl : Nat → Int32} {su : Int64} {p1 p2 p3 p4 p5 p6 : Int32}
theorem dcmp_9 {x : UInt64} (h : n64 x = true) (op : CmpOp) : Op.cmpValue (FP.dcmp x x) op = 0 := by
  have e : FP.dcmp x x = some .eq := by
    have h2 := dec64 (n64_i.mp h)
    show FP.Core.order (FP.Core.decode FP.Core.b64 x.toNat) (FP.Core.decode FP.Core.b64 x.toNat) = some .eq
    generalize FP.Core.decode FP.Core.b64 x.toNat = d at h2
    cases d with
    | nan => exact absurd rfl h2
    | inf s => cases s <;> rfl
    | fin s c q => simp [FP.Core.order]
  rw [e]
  cases op <;> rfl
set_option maxHeartbeats 4000000 in
set_option maxRecDepth 100000 in
theorem tail_span (C : Cx E X cL_law 9 RL wsL_law room_1 ret hh) (S : Sx X sb Ln xs) (hin : ∀ c : Int32, 1 ≤ c.toInt → c.toInt ≤ 6 → vp_in (i5 + c) Ln) (e1 : xs (i5 + 1).toNatClampNeg = p1) (e2 : xs (i5 + 2).toNatClampNeg = p2) (e3 : xs (i5 + 3).toNatClampNeg = p3) {k1 n1 : Nat} (K : Kont E X a b o1 o2 sb i5 bd k n) (hk : k1 ≤ k + 4) (hn : n1 ≤ n + 24) (hk2 : k + 4 ≤ 603072) (hn2 : n + 24 ≤ 7211114) {κ : Int32} {r : _} (hr : f_X5_span ma ti sp we ho sa p1 p2 (ch p3) = some r) (hth : r.2 = κ) (hv : κ = 0 → fo (0 : Int32).toNatClampNeg = r.1.toInt64) (hq : RQ (bd + 120) lt ls lw lh lx zf qf uf tf cf ma st ti sp we ho sa ca cl) (hb : rb rt rc) : Gx E X (WW E a b o1 o2 fo fd lt ls lw lh lx rt rc zf qf uf tf cf th ma st ti sp we ho sa ca cl su) 9 (lv0 sb a b o1 o2 i5) [.int κ] 1818 k1 n1 := by
  refine g_room hk hn ?_
  refine g_istore C (lv2 := [(6, .int κ), (5, .int i5), (0, .ref sb), (1, .ref (a 0)), (2, .ref (b 0)), (3, .ref o1), (4, .ref o2)]) rfl (by decide) dL_law_1818 ?_
  refine g_aload_n C 4 rfl rfl dL_law_1820 ?_
  refine g_aload_n C 2 rfl rfl dL_law_1821 ?_
  refine g_iload C 1 rfl dL_law_1822 ?_
  refine g_iconst C (v := 1) (by decide) dL_law_1824 ?_
  refine g_iadd C dL_law_1825 ?_
  refine g_sldv C S (hin 1 (by decide) (by decide)) e1 dL_law_1826 ?_
  refine g_aload_n C 2 rfl rfl dL_law_1827 ?_
  refine g_iload C 1 rfl dL_law_1828 ?_
  refine g_iconst C (v := 2) (by decide) dL_law_1830 ?_
  refine g_iadd C dL_law_1831 ?_
  refine g_sldv C S (hin 2 (by decide) (by decide)) e2 dL_law_1832 ?_
  refine g_aload_n C 2 rfl rfl dL_law_1833 ?_
  refine g_iload C 1 rfl dL_law_1834 ?_
  refine g_iconst C (v := 3) (by decide) dL_law_1836 ?_
  refine g_iadd C dL_law_1837 ?_
  refine g_sldv C S (hin 3 (by decide) (by decide)) e3 dL_law_1838 ?_
  refine g_i2c C dL_law_1839 ?_
  refine g_callVL (As := [.int p1, .int p2, .int (ch p3)]) (n9 := 3) (st := []) C (c_X5_span E b th ma st ti sp we ho sa ca cl su p1 p2 (ch p3) r hr) gL_law_X5_span rfl (by decide +kernel) rfl ⟨by decide, by decide, hk2, hn2, by decide⟩ 0 rfl rfl (List.Perm.refl _) dL_law_1840 ?_
  refine g_istore C (lv2 := [(7, .int r.1), (6, .int κ), (5, .int i5), (0, .ref sb), (1, .ref (a 0)), (2, .ref (b 0)), (3, .ref o1), (4, .ref o2)]) rfl (by decide) dL_law_1843 ?_
  refine g_aload_n C 5 rfl rfl dL_law_1845 ?_
  refine g_callVL (As := []) (n9 := 0) (st := []) C (c_X5_thrown E b r.2 ma st ti sp we ho sa ca cl su r.2 rfl) gL_law_X5_thrown rfl (by decide +kernel) rfl ⟨by decide, by decide, hk2, hn2, by decide⟩ 0 rfl rfl (List.Perm.refl _) dL_law_1846 ?_
  refine g_iload C 1 rfl dL_law_1849 ?_
  refine g_icmp_eq (tgt := 1856) C dL_law_1851 (by decide) (fun _ => ?_) (fun h9 => absurd hth h9)
  refine g_iload C 1 rfl dL_law_1856 ?_
  refine g_if_ne (tgt := 1873) C dL_law_1858 (by decide) (fun _ => ?_) (fun hz => ?_)
  · refine g_goto (tgt := 2256) C dL_law_1873 (by decide) ?_
    refine g_lvs [2, 3, 4, 5, 6, 7] rfl ?_
    exact K hq hb
  · refine g_aload_n C 6 rfl rfl dL_law_1861 ?_
    refine g_iconst C (v := 0) (by decide) dL_law_1862 ?_
    refine g_lald C 9 rfl (inB_in (by decide +kernel)) dL_law_1863 ?_
    refine g_iload C 0 rfl dL_law_1864 ?_
    refine g_i2l C dL_law_1866 ?_
    refine g_lcmp C dL_law_1867 ?_
    refine g_if_eq (tgt := 1873) C dL_law_1868 (by decide) (fun _ => ?_) (fun h9 => absurd (by rw [hv hz]; exact cmp0 _) h9)
    refine g_goto (tgt := 2256) C dL_law_1873 (by decide) ?_
    refine g_lvs [2, 3, 4, 5, 6, 7] rfl ?_
    exact K hq hb
theorem ex_span {e : String} {t9 : Int32} (h : (e, t9) ∈ ([("java/lang/IndexOutOfBoundsException", 1), ("java/lang/IllegalArgumentException", 2), ("java/util/NoSuchElementException", 3)] : List (String × Int32))) : (e = "java/lang/IndexOutOfBoundsException" ∨ e = "java/lang/IllegalArgumentException" ∨ e = "java/util/NoSuchElementException") ∧ t9 = ec_span e ∧ ec_span e ≠ 0 := by
  have h2 : (e = "java/lang/IndexOutOfBoundsException" ∧ t9 = 1) ∨ (e = "java/lang/IllegalArgumentException" ∧ t9 = 2) ∨ (e = "java/util/NoSuchElementException" ∧ t9 = 3) := by simpa using h
  rcases h2 with ⟨rfl, h8⟩ | ⟨rfl, h8⟩ | ⟨rfl, h8⟩ <;> subst h8 <;> refine ⟨by simp, by simp [ec_span], by simp [ec_span]⟩
set_option maxHeartbeats 4000000 in
set_option maxRecDepth 100000 in
theorem case_span (C : Cx E X cL_law 9 RL wsL_law room_1 ret hh) (S : Sx X sb Ln xs) (hin : ∀ c : Int32, 1 ≤ c.toInt → c.toInt ≤ 6 → vp_in (i5 + c) Ln) (e1 : xs (i5 + 1).toNatClampNeg = p1) (e2 : xs (i5 + 2).toNatClampNeg = p2) (e3 : xs (i5 + 3).toNatClampNeg = p3) (K : Kont E X a b o1 o2 sb i5 bd k n) (hk2 : k + 4 ≤ 603072) (hn2 : n + 24 ≤ 7211114) (R : RQ bd lt ls lw lh lx zf qf uf tf cf ma st ti sp we ho sa ca cl) (hbd : bd ≤ 900000) (hrb : rb rt rc) : Gx E X (WW E a b o1 o2 fo fd lt ls lw lh lx rt rc zf qf uf tf cf th ma st ti sp we ho sa ca cl su) 9 (lv0 sb a b o1 o2 i5) [] 1794 k n := by
  refine g_aload_n C 2 rfl rfl dL_law_1794 ?_
  refine g_aload_n C 1 rfl rfl dL_law_1795 ?_
  refine g_iload C 0 rfl dL_law_1796 ?_
  refine g_iconst C (v := 1) (by decide) dL_law_1798 ?_
  refine g_iadd C dL_law_1799 ?_
  refine g_sldv C S (hin 1 (by decide) (by decide)) e1 dL_law_1800 ?_
  refine g_aload_n C 1 rfl rfl dL_law_1801 ?_
  refine g_iload C 0 rfl dL_law_1802 ?_
  refine g_iconst C (v := 2) (by decide) dL_law_1804 ?_
  refine g_iadd C dL_law_1805 ?_
  refine g_sldv C S (hin 2 (by decide) (by decide)) e2 dL_law_1806 ?_
  refine g_aload_n C 1 rfl rfl dL_law_1807 ?_
  refine g_iload C 0 rfl dL_law_1808 ?_
  refine g_iconst C (v := 3) (by decide) dL_law_1810 ?_
  refine g_iadd C dL_law_1811 ?_
  refine g_sldv C S (hin 3 (by decide) (by decide)) e3 dL_law_1812 ?_
  refine g_i2c C dL_law_1813 ?_
  refine g_aload_n C 4 rfl rfl dL_law_1814 ?_
  by_cases hv1 : 0 ≤ p1.toInt ∧ p1.toInt < 4
  · obtain ⟨kh, hkp, hkh⟩ : ∃ kh : Nat, p1.toInt = kh ∧ kh < 4 := ⟨p1.toInt.toNat, by omega, by omega⟩
    have eh4 := houseAt_t hkp hkh
    obtain ⟨oc, r, f1, f2, h3⟩ := st_span R hkp hkh p2 (ch p3)
    have cx := c_X4_span E a kh lt ls lw lh lx (nI kh) (zf kh) (qf kh) (uf kh) (tf kh) (cf kh) p1 p2 (ch p3) eh4 oc f1
    rcases h3 with ⟨e, he, hm⟩ | ⟨he, ht⟩
    · subst he
      have hm : (e, r.2) ∈ ([("java/lang/IndexOutOfBoundsException", 1), ("java/lang/IllegalArgumentException", 2), ("java/util/NoSuchElementException", 3)] : List (String × Int32)) := List.mem_cons_of_mem _ hm
      have he2 := ex_span hm
      refine g_callSL (As := [.ref (a 0), .int p1, .int p2, .int (ch p3), .ref o1]) (n9 := 5) (st := []) (S := wM E b th ma st ti sp we ho sa ca cl su ++ (O2w E o2 fd ++ (wHl E a zf qf uf tf cf (hO kh) ++ wX0 E a 13 rt rc))) C (c_L_span E o1 (a 0) fo p1 p2 (ch p3) cx rfl (fun x hx => by cases hx; exact he2.1)) gL_law_L_span rfl (by decide +kernel) rfl ⟨by decide, by decide, show k + 2 ≤ 603072 from by omega, show n + 12 ≤ 7211114 from by omega, by decide⟩ (by unfold WW; exact pm1 _ _ _ _ _ _ _ _ _ _ (hh_1 hkh)) dL_law_1815 ?_
      refine g_perm (ws2 := WW E a b o1 o2 fo fd lt ls lw lh lx rt rc zf qf uf tf cf th ma st ti sp we ho sa ca cl su) (by unfold WW; exact (pm1 _ _ _ _ _ _ _ _ _ _ (hh_1 hkh)).symm) ?_
      exact tail_span C S hin e1 e2 e3 K (show k + 2 ≤ k + 4 from by omega) (show n + 12 ≤ n + 24 from by omega) hk2 hn2 f2 he2.2.1 (fun h9 => absurd h9 he2.2.2) (RL_mono R (by omega)) hrb
    · subst he
      refine g_callSL (As := [.ref (a 0), .int p1, .int p2, .int (ch p3), .ref o1]) (n9 := 5) (st := []) (S := wM E b th ma st ti sp we ho sa ca cl su ++ (O2w E o2 fd ++ (wHl E a zf qf uf tf cf (hO kh) ++ wX0 E a 13 rt rc))) C (c_L_span E o1 (a 0) fo p1 p2 (ch p3) cx rfl (fun x hx => nomatch hx)) gL_law_L_span rfl (by decide +kernel) rfl ⟨by decide, by decide, show k + 2 ≤ 603072 from by omega, show n + 12 ≤ 7211114 from by omega, by decide⟩ (by unfold WW; exact pm1 _ _ _ _ _ _ _ _ _ _ (hh_1 hkh)) dL_law_1815 ?_
      refine g_perm (ws2 := WW E a b o1 o2 (vp_updL fo 0 (r.1).toInt64) fd lt ls lw lh lx rt rc zf qf uf tf cf th ma st ti sp we ho sa ca cl su) (by unfold WW; exact (pm1 _ _ _ _ _ _ _ _ _ _ (hh_1 hkh)).symm) ?_
      exact tail_span C S hin e1 e2 e3 K (show k + 2 ≤ k + 4 from by omega) (show n + 12 ≤ n + 24 from by omega) hk2 hn2 f2 ht (fun _ => updL0 _ _) (RL_mono R (by omega)) hrb
  · have hpb : p1.toInt < 0 ∨ 4 ≤ p1.toInt := by omega
    obtain ⟨f1, f2⟩ := bad_span (ma := ma) (ti := ti) (sp := sp) (we := we) (ho := ho) (sa := sa) hpb p2 (ch p3)
    have cx := c_X4_span_bad E a p1 p2 (ch p3) (fun h9 => houseAt_no hpb h9) (.inl "java/lang/IndexOutOfBoundsException") f1
    have hm : ("java/lang/IndexOutOfBoundsException", (1 : Int32)) ∈ ([("java/lang/IndexOutOfBoundsException", 1), ("java/lang/IllegalArgumentException", 2), ("java/util/NoSuchElementException", 3)] : List (String × Int32)) := by simp
    have he2 := ex_span hm
    refine g_callSL (As := [.ref (a 0), .int p1, .int p2, .int (ch p3), .ref o1]) (n9 := 5) (st := []) (S := wM E b th ma st ti sp we ho sa ca cl su ++ (O2w E o2 fd ++ (wX2 E a 2 lt ls lw lh lx ++ (wHl E a zf qf uf tf cf [0, 1, 2, 3] ++ wX0 E a 13 rt rc)))) C (c_L_span E o1 (a 0) fo p1 p2 (ch p3) cx rfl (fun x hx => by cases hx; exact he2.1)) gL_law_L_span rfl (by decide +kernel) rfl ⟨by decide, by decide, show k + 2 ≤ 603072 from by omega, show n + 12 ≤ 7211114 from by omega, by decide⟩ (by unfold WW; exact pm0 _ _ _ _ _ _ _ _) dL_law_1815 ?_
    refine g_perm (ws2 := WW E a b o1 o2 fo fd lt ls lw lh lx rt rc zf qf uf tf cf th ma st ti sp we ho sa ca cl su) (by unfold WW; exact (pm0 _ _ _ _ _ _ _ _).symm) ?_
    exact tail_span C S hin e1 e2 e3 K (show k + 2 ≤ k + 4 from by omega) (show n + 12 ≤ n + 24 from by omega) hk2 hn2 f2 he2.2.1 (fun h9 => absurd h9 he2.2.2) (RL_mono R (by omega)) hrb
set_option maxHeartbeats 4000000 in
set_option maxRecDepth 100000 in
theorem tail_free (C : Cx E X cL_law 9 RL wsL_law room_1 ret hh) (S : Sx X sb Ln xs) (hin : ∀ c : Int32, 1 ≤ c.toInt → c.toInt ≤ 6 → vp_in (i5 + c) Ln) (e1 : xs (i5 + 1).toNatClampNeg = p1) (e2 : xs (i5 + 2).toNatClampNeg = p2) (e3 : xs (i5 + 3).toNatClampNeg = p3) {k1 n1 : Nat} (K : Kont E X a b o1 o2 sb i5 bd k n) (hk : k1 ≤ k + 4) (hn : n1 ≤ n + 24) (hk2 : k + 4 ≤ 603072) (hn2 : n + 24 ≤ 7211114) {κ : Int32} {r : _} (hr : f_X5_free ma ti sp we ho sa p1 p2 p3 = some r) (hth : r.2 = κ) (hv : κ = 0 → fo (0 : Int32).toNatClampNeg = r.1.toInt64) (hq : RQ (bd + 120) lt ls lw lh lx zf qf uf tf cf ma st ti sp we ho sa ca cl) (hb : rb rt rc) : Gx E X (WW E a b o1 o2 fo fd lt ls lw lh lx rt rc zf qf uf tf cf th ma st ti sp we ho sa ca cl su) 9 (lv0 sb a b o1 o2 i5) [.int κ] 1899 k1 n1 := by
  refine g_room hk hn ?_
  refine g_istore C (lv2 := [(6, .int κ), (5, .int i5), (0, .ref sb), (1, .ref (a 0)), (2, .ref (b 0)), (3, .ref o1), (4, .ref o2)]) rfl (by decide) dL_law_1899 ?_
  refine g_aload_n C 4 rfl rfl dL_law_1901 ?_
  refine g_aload_n C 2 rfl rfl dL_law_1902 ?_
  refine g_iload C 1 rfl dL_law_1903 ?_
  refine g_iconst C (v := 1) (by decide) dL_law_1905 ?_
  refine g_iadd C dL_law_1906 ?_
  refine g_sldv C S (hin 1 (by decide) (by decide)) e1 dL_law_1907 ?_
  refine g_aload_n C 2 rfl rfl dL_law_1908 ?_
  refine g_iload C 1 rfl dL_law_1909 ?_
  refine g_iconst C (v := 2) (by decide) dL_law_1911 ?_
  refine g_iadd C dL_law_1912 ?_
  refine g_sldv C S (hin 2 (by decide) (by decide)) e2 dL_law_1913 ?_
  refine g_aload_n C 2 rfl rfl dL_law_1914 ?_
  refine g_iload C 1 rfl dL_law_1915 ?_
  refine g_iconst C (v := 3) (by decide) dL_law_1917 ?_
  refine g_iadd C dL_law_1918 ?_
  refine g_sldv C S (hin 3 (by decide) (by decide)) e3 dL_law_1919 ?_
  refine g_callVL (As := [.int p1, .int p2, .int p3]) (n9 := 3) (st := []) C (c_X5_free E b th ma st ti sp we ho sa ca cl su p1 p2 p3 r hr) gL_law_X5_free rfl (by decide +kernel) rfl ⟨by decide, by decide, hk2, hn2, by decide⟩ 0 rfl rfl (List.Perm.refl _) dL_law_1920 ?_
  refine g_istore C (lv2 := [(7, .int r.1), (6, .int κ), (5, .int i5), (0, .ref sb), (1, .ref (a 0)), (2, .ref (b 0)), (3, .ref o1), (4, .ref o2)]) rfl (by decide) dL_law_1923 ?_
  refine g_aload_n C 5 rfl rfl dL_law_1925 ?_
  refine g_callVL (As := []) (n9 := 0) (st := []) C (c_X5_thrown E b r.2 ma st ti sp we ho sa ca cl su r.2 rfl) gL_law_X5_thrown rfl (by decide +kernel) rfl ⟨by decide, by decide, hk2, hn2, by decide⟩ 0 rfl rfl (List.Perm.refl _) dL_law_1926 ?_
  refine g_iload C 1 rfl dL_law_1929 ?_
  refine g_icmp_eq (tgt := 1936) C dL_law_1931 (by decide) (fun _ => ?_) (fun h9 => absurd hth h9)
  refine g_iload C 1 rfl dL_law_1936 ?_
  refine g_if_ne (tgt := 1953) C dL_law_1938 (by decide) (fun _ => ?_) (fun hz => ?_)
  · refine g_goto (tgt := 2256) C dL_law_1953 (by decide) ?_
    refine g_lvs [2, 3, 4, 5, 6, 7] rfl ?_
    exact K hq hb
  · refine g_aload_n C 6 rfl rfl dL_law_1941 ?_
    refine g_iconst C (v := 0) (by decide) dL_law_1942 ?_
    refine g_lald C 9 rfl (inB_in (by decide +kernel)) dL_law_1943 ?_
    refine g_iload C 0 rfl dL_law_1944 ?_
    refine g_i2l C dL_law_1946 ?_
    refine g_lcmp C dL_law_1947 ?_
    refine g_if_eq (tgt := 1953) C dL_law_1948 (by decide) (fun _ => ?_) (fun h9 => absurd (by rw [hv hz]; exact cmp0 _) h9)
    refine g_goto (tgt := 2256) C dL_law_1953 (by decide) ?_
    refine g_lvs [2, 3, 4, 5, 6, 7] rfl ?_
    exact K hq hb
theorem ex_free {e : String} {t9 : Int32} (h : (e, t9) ∈ ([("java/lang/IndexOutOfBoundsException", 1), ("java/lang/IllegalArgumentException", 2)] : List (String × Int32))) : (e = "java/lang/IndexOutOfBoundsException" ∨ e = "java/lang/IllegalArgumentException") ∧ t9 = ec_free e ∧ ec_free e ≠ 0 := by
  have h2 : (e = "java/lang/IndexOutOfBoundsException" ∧ t9 = 1) ∨ (e = "java/lang/IllegalArgumentException" ∧ t9 = 2) := by simpa using h
  rcases h2 with ⟨rfl, h8⟩ | ⟨rfl, h8⟩ <;> subst h8 <;> refine ⟨by simp, by simp [ec_free], by simp [ec_free]⟩
set_option maxHeartbeats 4000000 in
set_option maxRecDepth 100000 in
theorem case_free (C : Cx E X cL_law 9 RL wsL_law room_1 ret hh) (S : Sx X sb Ln xs) (hin : ∀ c : Int32, 1 ≤ c.toInt → c.toInt ≤ 6 → vp_in (i5 + c) Ln) (e1 : xs (i5 + 1).toNatClampNeg = p1) (e2 : xs (i5 + 2).toNatClampNeg = p2) (e3 : xs (i5 + 3).toNatClampNeg = p3) (K : Kont E X a b o1 o2 sb i5 bd k n) (hk2 : k + 4 ≤ 603072) (hn2 : n + 24 ≤ 7211114) (R : RQ bd lt ls lw lh lx zf qf uf tf cf ma st ti sp we ho sa ca cl) (hbd : bd ≤ 900000) (hrb : rb rt rc) : Gx E X (WW E a b o1 o2 fo fd lt ls lw lh lx rt rc zf qf uf tf cf th ma st ti sp we ho sa ca cl su) 9 (lv0 sb a b o1 o2 i5) [] 1876 k n := by
  refine g_aload_n C 2 rfl rfl dL_law_1876 ?_
  refine g_aload_n C 1 rfl rfl dL_law_1877 ?_
  refine g_iload C 0 rfl dL_law_1878 ?_
  refine g_iconst C (v := 1) (by decide) dL_law_1880 ?_
  refine g_iadd C dL_law_1881 ?_
  refine g_sldv C S (hin 1 (by decide) (by decide)) e1 dL_law_1882 ?_
  refine g_aload_n C 1 rfl rfl dL_law_1883 ?_
  refine g_iload C 0 rfl dL_law_1884 ?_
  refine g_iconst C (v := 2) (by decide) dL_law_1886 ?_
  refine g_iadd C dL_law_1887 ?_
  refine g_sldv C S (hin 2 (by decide) (by decide)) e2 dL_law_1888 ?_
  refine g_aload_n C 1 rfl rfl dL_law_1889 ?_
  refine g_iload C 0 rfl dL_law_1890 ?_
  refine g_iconst C (v := 3) (by decide) dL_law_1892 ?_
  refine g_iadd C dL_law_1893 ?_
  refine g_sldv C S (hin 3 (by decide) (by decide)) e3 dL_law_1894 ?_
  refine g_aload_n C 4 rfl rfl dL_law_1895 ?_
  by_cases hv1 : 0 ≤ p1.toInt ∧ p1.toInt < 4
  · obtain ⟨kh, hkp, hkh⟩ : ∃ kh : Nat, p1.toInt = kh ∧ kh < 4 := ⟨p1.toInt.toNat, by omega, by omega⟩
    have eh4 := houseAt_t hkp hkh
    obtain ⟨oc, r, f1, f2, h3⟩ := st_free R hkp hkh p2 p3
    have cx := c_X4_free E a kh lt ls lw lh lx (nI kh) (zf kh) (qf kh) (uf kh) (tf kh) (cf kh) p1 p2 p3 eh4 oc f1
    rcases h3 with ⟨e, he, hm⟩ | ⟨he, ht⟩
    · subst he
      have hm : (e, r.2) ∈ ([("java/lang/IndexOutOfBoundsException", 1), ("java/lang/IllegalArgumentException", 2)] : List (String × Int32)) := List.mem_cons_of_mem _ hm
      have he2 := ex_free hm
      refine g_callSL (As := [.ref (a 0), .int p1, .int p2, .int p3, .ref o1]) (n9 := 5) (st := []) (S := wM E b th ma st ti sp we ho sa ca cl su ++ (O2w E o2 fd ++ (wHl E a zf qf uf tf cf (hO kh) ++ wX0 E a 13 rt rc))) C (c_L_free E o1 (a 0) fo p1 p2 p3 cx rfl (fun x hx => by cases hx; exact he2.1)) gL_law_L_free rfl (by decide +kernel) rfl ⟨by decide, by decide, show k + 2 ≤ 603072 from by omega, show n + 12 ≤ 7211114 from by omega, by decide⟩ (by unfold WW; exact pm1 _ _ _ _ _ _ _ _ _ _ (hh_1 hkh)) dL_law_1896 ?_
      refine g_perm (ws2 := WW E a b o1 o2 fo fd lt ls lw lh lx rt rc zf qf uf tf cf th ma st ti sp we ho sa ca cl su) (by unfold WW; exact (pm1 _ _ _ _ _ _ _ _ _ _ (hh_1 hkh)).symm) ?_
      exact tail_free C S hin e1 e2 e3 K (show k + 2 ≤ k + 4 from by omega) (show n + 12 ≤ n + 24 from by omega) hk2 hn2 f2 he2.2.1 (fun h9 => absurd h9 he2.2.2) (RL_mono R (by omega)) hrb
    · subst he
      refine g_callSL (As := [.ref (a 0), .int p1, .int p2, .int p3, .ref o1]) (n9 := 5) (st := []) (S := wM E b th ma st ti sp we ho sa ca cl su ++ (O2w E o2 fd ++ (wHl E a zf qf uf tf cf (hO kh) ++ wX0 E a 13 rt rc))) C (c_L_free E o1 (a 0) fo p1 p2 p3 cx rfl (fun x hx => nomatch hx)) gL_law_L_free rfl (by decide +kernel) rfl ⟨by decide, by decide, show k + 2 ≤ 603072 from by omega, show n + 12 ≤ 7211114 from by omega, by decide⟩ (by unfold WW; exact pm1 _ _ _ _ _ _ _ _ _ _ (hh_1 hkh)) dL_law_1896 ?_
      refine g_perm (ws2 := WW E a b o1 o2 (vp_updL fo 0 (r.1).toInt64) fd lt ls lw lh lx rt rc zf qf uf tf cf th ma st ti sp we ho sa ca cl su) (by unfold WW; exact (pm1 _ _ _ _ _ _ _ _ _ _ (hh_1 hkh)).symm) ?_
      exact tail_free C S hin e1 e2 e3 K (show k + 2 ≤ k + 4 from by omega) (show n + 12 ≤ n + 24 from by omega) hk2 hn2 f2 ht (fun _ => updL0 _ _) (RL_mono R (by omega)) hrb
  · have hpb : p1.toInt < 0 ∨ 4 ≤ p1.toInt := by omega
    obtain ⟨f1, f2⟩ := bad_free (ma := ma) (ti := ti) (sp := sp) (we := we) (ho := ho) (sa := sa) hpb p2 p3
    have cx := c_X4_free_bad E a p1 p2 p3 (fun h9 => houseAt_no hpb h9) (.inl "java/lang/IndexOutOfBoundsException") f1
    have hm : ("java/lang/IndexOutOfBoundsException", (1 : Int32)) ∈ ([("java/lang/IndexOutOfBoundsException", 1), ("java/lang/IllegalArgumentException", 2)] : List (String × Int32)) := by simp
    have he2 := ex_free hm
    refine g_callSL (As := [.ref (a 0), .int p1, .int p2, .int p3, .ref o1]) (n9 := 5) (st := []) (S := wM E b th ma st ti sp we ho sa ca cl su ++ (O2w E o2 fd ++ (wX2 E a 2 lt ls lw lh lx ++ (wHl E a zf qf uf tf cf [0, 1, 2, 3] ++ wX0 E a 13 rt rc)))) C (c_L_free E o1 (a 0) fo p1 p2 p3 cx rfl (fun x hx => by cases hx; exact he2.1)) gL_law_L_free rfl (by decide +kernel) rfl ⟨by decide, by decide, show k + 2 ≤ 603072 from by omega, show n + 12 ≤ 7211114 from by omega, by decide⟩ (by unfold WW; exact pm0 _ _ _ _ _ _ _ _) dL_law_1896 ?_
    refine g_perm (ws2 := WW E a b o1 o2 fo fd lt ls lw lh lx rt rc zf qf uf tf cf th ma st ti sp we ho sa ca cl su) (by unfold WW; exact (pm0 _ _ _ _ _ _ _ _).symm) ?_
    exact tail_free C S hin e1 e2 e3 K (show k + 2 ≤ k + 4 from by omega) (show n + 12 ≤ n + 24 from by omega) hk2 hn2 f2 he2.2.1 (fun h9 => absurd h9 he2.2.2) (RL_mono R (by omega)) hrb
set_option maxHeartbeats 4000000 in
set_option maxRecDepth 100000 in
theorem tail_load (C : Cx E X cL_law 9 RL wsL_law room_1 ret hh) (S : Sx X sb Ln xs) (hin : ∀ c : Int32, 1 ≤ c.toInt → c.toInt ≤ 6 → vp_in (i5 + c) Ln) (e1 : xs (i5 + 1).toNatClampNeg = p1) {k1 n1 : Nat} (K : Kont E X a b o1 o2 sb i5 bd k n) (hk : k1 ≤ k + 4) (hn : n1 ≤ n + 24) (hk2 : k + 4 ≤ 603072) (hn2 : n + 24 ≤ 7211114) {κ : Int32} {r : _} (hr : f_X5_load ma sp we ho sa p1 = some r) (hth : r.2 = κ) (hv : κ = 0 → fo (0 : Int32).toNatClampNeg = r.1) (hq : RQ (bd + 120) lt ls lw lh lx zf qf uf tf cf ma st ti sp we ho sa ca cl) (hb : rb rt rc) : Gx E X (WW E a b o1 o2 fo fd lt ls lw lh lx rt rc zf qf uf tf cf th ma st ti sp we ho sa ca cl su) 9 (lv0 sb a b o1 o2 i5) [.int κ] 1967 k1 n1 := by
  refine g_room hk hn ?_
  refine g_istore C (lv2 := [(6, .int κ), (5, .int i5), (0, .ref sb), (1, .ref (a 0)), (2, .ref (b 0)), (3, .ref o1), (4, .ref o2)]) rfl (by decide) dL_law_1967 ?_
  refine g_aload_n C 4 rfl rfl dL_law_1969 ?_
  refine g_aload_n C 2 rfl rfl dL_law_1970 ?_
  refine g_iload C 1 rfl dL_law_1971 ?_
  refine g_iconst C (v := 1) (by decide) dL_law_1973 ?_
  refine g_iadd C dL_law_1974 ?_
  refine g_sldv C S (hin 1 (by decide) (by decide)) e1 dL_law_1975 ?_
  refine g_callVL (As := [.int p1]) (n9 := 1) (st := []) C (c_X5_load E b th ma st ti sp we ho sa ca cl su p1 r hr) gL_law_X5_load rfl (by decide +kernel) rfl ⟨by decide, by decide, hk2, hn2, by decide⟩ 0 rfl rfl (List.Perm.refl _) dL_law_1976 ?_
  refine g_lstore C (lv2 := [(7, .long r.1), (6, .int κ), (5, .int i5), (0, .ref sb), (1, .ref (a 0)), (2, .ref (b 0)), (3, .ref o1), (4, .ref o2)]) rfl (by decide) dL_law_1979 ?_
  refine g_aload_n C 5 rfl rfl dL_law_1981 ?_
  refine g_callVL (As := []) (n9 := 0) (st := []) C (c_X5_thrown E b r.2 ma st ti sp we ho sa ca cl su r.2 rfl) gL_law_X5_thrown rfl (by decide +kernel) rfl ⟨by decide, by decide, hk2, hn2, by decide⟩ 0 rfl rfl (List.Perm.refl _) dL_law_1982 ?_
  refine g_iload C 1 rfl dL_law_1985 ?_
  refine g_icmp_eq (tgt := 1992) C dL_law_1987 (by decide) (fun _ => ?_) (fun h9 => absurd hth h9)
  refine g_iload C 1 rfl dL_law_1992 ?_
  refine g_if_ne (tgt := 2008) C dL_law_1994 (by decide) (fun _ => ?_) (fun hz => ?_)
  · refine g_goto (tgt := 2256) C dL_law_2008 (by decide) ?_
    refine g_lvs [2, 3, 4, 5, 6, 7] rfl ?_
    exact K hq hb
  · refine g_aload_n C 6 rfl rfl dL_law_1997 ?_
    refine g_iconst C (v := 0) (by decide) dL_law_1998 ?_
    refine g_lald C 9 rfl (inB_in (by decide +kernel)) dL_law_1999 ?_
    refine g_lload C 0 rfl dL_law_2000 ?_
    refine g_lcmp C dL_law_2002 ?_
    refine g_if_eq (tgt := 2008) C dL_law_2003 (by decide) (fun _ => ?_) (fun h9 => absurd (by rw [hv hz]; exact cmp0 _) h9)
    refine g_goto (tgt := 2256) C dL_law_2008 (by decide) ?_
    refine g_lvs [2, 3, 4, 5, 6, 7] rfl ?_
    exact K hq hb
theorem ex_load {e : String} {t9 : Int32} (h : (e, t9) ∈ ([("java/lang/IndexOutOfBoundsException", 1)] : List (String × Int32))) : (e = "java/lang/IndexOutOfBoundsException") ∧ t9 = ec_load e ∧ ec_load e ≠ 0 := by
  have h2 : (e = "java/lang/IndexOutOfBoundsException" ∧ t9 = 1) := by simpa using h
  rcases h2 with ⟨rfl, h8⟩ <;> subst h8 <;> refine ⟨by simp, by simp [ec_load], by simp [ec_load]⟩
set_option maxHeartbeats 4000000 in
set_option maxRecDepth 100000 in
theorem case_load (C : Cx E X cL_law 9 RL wsL_law room_1 ret hh) (S : Sx X sb Ln xs) (hin : ∀ c : Int32, 1 ≤ c.toInt → c.toInt ≤ 6 → vp_in (i5 + c) Ln) (e1 : xs (i5 + 1).toNatClampNeg = p1) (K : Kont E X a b o1 o2 sb i5 bd k n) (hk2 : k + 4 ≤ 603072) (hn2 : n + 24 ≤ 7211114) (R : RQ bd lt ls lw lh lx zf qf uf tf cf ma st ti sp we ho sa ca cl) (hbd : bd ≤ 900000) (hrb : rb rt rc) : Gx E X (WW E a b o1 o2 fo fd lt ls lw lh lx rt rc zf qf uf tf cf th ma st ti sp we ho sa ca cl su) 9 (lv0 sb a b o1 o2 i5) [] 1956 k n := by
  refine g_aload_n C 2 rfl rfl dL_law_1956 ?_
  refine g_aload_n C 1 rfl rfl dL_law_1957 ?_
  refine g_iload C 0 rfl dL_law_1958 ?_
  refine g_iconst C (v := 1) (by decide) dL_law_1960 ?_
  refine g_iadd C dL_law_1961 ?_
  refine g_sldv C S (hin 1 (by decide) (by decide)) e1 dL_law_1962 ?_
  refine g_aload_n C 4 rfl rfl dL_law_1963 ?_
  by_cases hv1 : 0 ≤ p1.toInt ∧ p1.toInt < 4
  · obtain ⟨kh, hkp, hkh⟩ : ∃ kh : Nat, p1.toInt = kh ∧ kh < 4 := ⟨p1.toInt.toNat, by omega, by omega⟩
    have eh4 := houseAt_t hkp hkh
    obtain ⟨oc, r, f1, f2, h3⟩ := st_load R hkp hkh 
    have cx := c_X4_load E a kh lt ls lw lh lx (nI kh) (zf kh) (qf kh) (uf kh) (tf kh) (cf kh) p1 eh4 oc f1
    rcases h3 with ⟨e, he, hm⟩ | ⟨he, ht⟩
    · subst he
      exact absurd hm List.not_mem_nil
    · subst he
      refine g_callSL (As := [.ref (a 0), .int p1, .ref o1]) (n9 := 3) (st := []) (S := wM E b th ma st ti sp we ho sa ca cl su ++ (O2w E o2 fd ++ (wHl E a zf qf uf tf cf (hO kh) ++ wX0 E a 13 rt rc))) C (c_L_load E o1 (a 0) fo p1 cx rfl (fun x hx => nomatch hx)) gL_law_L_load rfl (by decide +kernel) rfl ⟨by decide, by decide, show k + 1 ≤ 603072 from by omega, show n + 6 ≤ 7211114 from by omega, by decide⟩ (by unfold WW; exact pm1 _ _ _ _ _ _ _ _ _ _ (hh_1 hkh)) dL_law_1964 ?_
      refine g_perm (ws2 := WW E a b o1 o2 (vp_updL fo 0 (r.1)) fd lt ls lw lh lx rt rc zf qf uf tf cf th ma st ti sp we ho sa ca cl su) (by unfold WW; exact (pm1 _ _ _ _ _ _ _ _ _ _ (hh_1 hkh)).symm) ?_
      exact tail_load C S hin e1 K (show k + 1 ≤ k + 4 from by omega) (show n + 6 ≤ n + 24 from by omega) hk2 hn2 f2 ht (fun _ => updL0 _ _) (RL_mono R (by omega)) hrb
  · have hpb : p1.toInt < 0 ∨ 4 ≤ p1.toInt := by omega
    obtain ⟨f1, f2⟩ := bad_load (ma := ma) (sp := sp) (we := we) (ho := ho) (sa := sa) hpb 
    have cx := c_X4_load_bad E a p1 (fun h9 => houseAt_no hpb h9) (.inl "java/lang/IndexOutOfBoundsException") f1
    have hm : ("java/lang/IndexOutOfBoundsException", (1 : Int32)) ∈ ([("java/lang/IndexOutOfBoundsException", 1)] : List (String × Int32)) := by simp
    have he2 := ex_load hm
    refine g_callSL (As := [.ref (a 0), .int p1, .ref o1]) (n9 := 3) (st := []) (S := wM E b th ma st ti sp we ho sa ca cl su ++ (O2w E o2 fd ++ (wX2 E a 2 lt ls lw lh lx ++ (wHl E a zf qf uf tf cf [0, 1, 2, 3] ++ wX0 E a 13 rt rc)))) C (c_L_load E o1 (a 0) fo p1 cx rfl (fun x hx => by cases hx; exact he2.1)) gL_law_L_load rfl (by decide +kernel) rfl ⟨by decide, by decide, show k + 1 ≤ 603072 from by omega, show n + 6 ≤ 7211114 from by omega, by decide⟩ (by unfold WW; exact pm0 _ _ _ _ _ _ _ _) dL_law_1964 ?_
    refine g_perm (ws2 := WW E a b o1 o2 fo fd lt ls lw lh lx rt rc zf qf uf tf cf th ma st ti sp we ho sa ca cl su) (by unfold WW; exact (pm0 _ _ _ _ _ _ _ _).symm) ?_
    exact tail_load C S hin e1 K (show k + 1 ≤ k + 4 from by omega) (show n + 6 ≤ n + 24 from by omega) hk2 hn2 f2 he2.2.1 (fun h9 => absurd h9 he2.2.2) (RL_mono R (by omega)) hrb
set_option maxHeartbeats 4000000 in
set_option maxRecDepth 100000 in
theorem tail_mean (C : Cx E X cL_law 9 RL wsL_law room_1 ret hh) (S : Sx X sb Ln xs) (hin : ∀ c : Int32, 1 ≤ c.toInt → c.toInt ≤ 6 → vp_in (i5 + c) Ln) (e1 : xs (i5 + 1).toNatClampNeg = p1) {k1 n1 : Nat} (K : Kont E X a b o1 o2 sb i5 bd k n) (hk : k1 ≤ k + 4) (hn : n1 ≤ n + 24) (hk2 : k + 4 ≤ 603072) (hn2 : n + 24 ≤ 7211114) {κ : Int32} {r : _} (hr : f_X5_mean ma ti sp we ho sa p1 = some r) (hth : r.2 = κ) (hv : κ = 0 → fd (0 : Int32).toNatClampNeg = r.1) (hq : RQ (bd + 120) lt ls lw lh lx zf qf uf tf cf ma st ti sp we ho sa ca cl) (hb : rb rt rc) : Gx E X (WW E a b o1 o2 fo fd lt ls lw lh lx rt rc zf qf uf tf cf th ma st ti sp we ho sa ca cl su) 9 (lv0 sb a b o1 o2 i5) [.int κ] 2023 k1 n1 := by
  refine g_room hk hn ?_
  refine g_istore C (lv2 := [(6, .int κ), (5, .int i5), (0, .ref sb), (1, .ref (a 0)), (2, .ref (b 0)), (3, .ref o1), (4, .ref o2)]) rfl (by decide) dL_law_2023 ?_
  refine g_aload_n C 4 rfl rfl dL_law_2025 ?_
  refine g_aload_n C 2 rfl rfl dL_law_2026 ?_
  refine g_iload C 1 rfl dL_law_2027 ?_
  refine g_iconst C (v := 1) (by decide) dL_law_2029 ?_
  refine g_iadd C dL_law_2030 ?_
  refine g_sldv C S (hin 1 (by decide) (by decide)) e1 dL_law_2031 ?_
  refine g_callVL (As := [.int p1]) (n9 := 1) (st := []) C (c_X5_mean E b th ma st ti sp we ho sa ca cl su p1 r hr) gL_law_X5_mean rfl (by decide +kernel) rfl ⟨by decide, by decide, hk2, hn2, by decide⟩ 0 rfl rfl (List.Perm.refl _) dL_law_2032 ?_
  refine g_dstore C (lv2 := [(7, .double r.1), (6, .int κ), (5, .int i5), (0, .ref sb), (1, .ref (a 0)), (2, .ref (b 0)), (3, .ref o1), (4, .ref o2)]) rfl (by decide) dL_law_2035 ?_
  refine g_aload_n C 5 rfl rfl dL_law_2037 ?_
  refine g_callVL (As := []) (n9 := 0) (st := []) C (c_X5_thrown E b r.2 ma st ti sp we ho sa ca cl su r.2 rfl) gL_law_X5_thrown rfl (by decide +kernel) rfl ⟨by decide, by decide, hk2, hn2, by decide⟩ 0 rfl rfl (List.Perm.refl _) dL_law_2038 ?_
  refine g_iload C 1 rfl dL_law_2041 ?_
  refine g_icmp_eq (tgt := 2048) C dL_law_2043 (by decide) (fun _ => ?_) (fun h9 => absurd hth h9)
  refine g_iload C 1 rfl dL_law_2048 ?_
  refine g_if_ne (tgt := 2085) C dL_law_2050 (by decide) (fun _ => ?_) (fun hz => ?_)
  · refine g_goto (tgt := 2256) C dL_law_2085 (by decide) ?_
    refine g_lvs [2, 3, 4, 5, 6, 7] rfl ?_
    exact K hq hb
  · refine g_aload C 7 rfl dL_law_2053 ?_
    refine g_iconst C (v := 0) (by decide) dL_law_2055 ?_
    refine g_dald C 8 rfl (inB_in (by decide +kernel)) dL_law_2056 ?_
    refine g_dload C 0 rfl dL_law_2057 ?_
    refine g_dcmp C dL_law_2059 ?_
    refine g_if_eq (tgt := 2085) C dL_law_2060 (by decide) (fun _ => ?_) (fun h9 => ?_)
    · refine g_goto (tgt := 2256) C dL_law_2085 (by decide) ?_
      refine g_lvs [2, 3, 4, 5, 6, 7] rfl ?_
      exact K hq hb
    · refine g_aload C 7 rfl dL_law_2063 ?_
      refine g_iconst C (v := 0) (by decide) dL_law_2065 ?_
      refine g_dald C 8 rfl (inB_in (by decide +kernel)) dL_law_2066 ?_
      refine g_aload C 7 rfl dL_law_2067 ?_
      refine g_iconst C (v := 0) (by decide) dL_law_2069 ?_
      refine g_dald C 8 rfl (inB_in (by decide +kernel)) dL_law_2070 ?_
      refine g_dcmp C dL_law_2071 ?_
      refine g_if_eq (tgt := 2083) C dL_law_2072 (by decide) (fun h8 => absurd (by rw [← hv hz]; exact h8) h9) (fun h8 => ?_)
      refine g_dload C 0 rfl dL_law_2075 ?_
      refine g_dload C 0 rfl dL_law_2077 ?_
      refine g_dcmp C dL_law_2079 ?_
      refine g_if_ne (tgt := 2085) C dL_law_2080 (by decide) (fun _ => ?_) (fun h7 => absurd (by rw [hv hz]; exact h7) h9)
      refine g_goto (tgt := 2256) C dL_law_2085 (by decide) ?_
      refine g_lvs [2, 3, 4, 5, 6, 7] rfl ?_
      exact K hq hb
theorem ex_mean {e : String} {t9 : Int32} (h : (e, t9) ∈ ([("java/lang/IndexOutOfBoundsException", 1), ("java/lang/ArithmeticException", 2)] : List (String × Int32))) : (e = "java/lang/IndexOutOfBoundsException" ∨ e = "java/lang/ArithmeticException") ∧ t9 = ec_mean e ∧ ec_mean e ≠ 0 := by
  have h2 : (e = "java/lang/IndexOutOfBoundsException" ∧ t9 = 1) ∨ (e = "java/lang/ArithmeticException" ∧ t9 = 2) := by simpa using h
  rcases h2 with ⟨rfl, h8⟩ | ⟨rfl, h8⟩ <;> subst h8 <;> refine ⟨by simp, by simp [ec_mean], by simp [ec_mean]⟩
set_option maxHeartbeats 4000000 in
set_option maxRecDepth 100000 in
theorem case_mean (C : Cx E X cL_law 9 RL wsL_law room_1 ret hh) (S : Sx X sb Ln xs) (hin : ∀ c : Int32, 1 ≤ c.toInt → c.toInt ≤ 6 → vp_in (i5 + c) Ln) (e1 : xs (i5 + 1).toNatClampNeg = p1) (K : Kont E X a b o1 o2 sb i5 bd k n) (hk2 : k + 4 ≤ 603072) (hn2 : n + 24 ≤ 7211114) (R : RQ bd lt ls lw lh lx zf qf uf tf cf ma st ti sp we ho sa ca cl) (hbd : bd ≤ 900000) (hrb : rb rt rc) : Gx E X (WW E a b o1 o2 fo fd lt ls lw lh lx rt rc zf qf uf tf cf th ma st ti sp we ho sa ca cl su) 9 (lv0 sb a b o1 o2 i5) [] 2011 k n := by
  refine g_aload_n C 2 rfl rfl dL_law_2011 ?_
  refine g_aload_n C 1 rfl rfl dL_law_2012 ?_
  refine g_iload C 0 rfl dL_law_2013 ?_
  refine g_iconst C (v := 1) (by decide) dL_law_2015 ?_
  refine g_iadd C dL_law_2016 ?_
  refine g_sldv C S (hin 1 (by decide) (by decide)) e1 dL_law_2017 ?_
  refine g_aload C 5 rfl dL_law_2018 ?_
  by_cases hv1 : 0 ≤ p1.toInt ∧ p1.toInt < 4
  · obtain ⟨kh, hkp, hkh⟩ : ∃ kh : Nat, p1.toInt = kh ∧ kh < 4 := ⟨p1.toInt.toNat, by omega, by omega⟩
    have eh4 := houseAt_t hkp hkh
    obtain ⟨oc, r, f1, f2, h3⟩ := st_mean R hkp hkh 
    have cx := c_X4_mean E a kh lt ls lw lh lx (nI kh) (zf kh) (qf kh) (uf kh) (tf kh) (cf kh) p1 eh4 oc f1
    rcases h3 with ⟨e, he, hm⟩ | ⟨he, ht⟩
    · subst he
      have hm : (e, r.2) ∈ ([("java/lang/IndexOutOfBoundsException", 1), ("java/lang/ArithmeticException", 2)] : List (String × Int32)) := List.mem_cons_of_mem _ hm
      have he2 := ex_mean hm
      refine g_callSL (As := [.ref (a 0), .int p1, .ref o2]) (n9 := 3) (st := []) (S := wM E b th ma st ti sp we ho sa ca cl su ++ (O1w E o1 fo ++ (wHl E a zf qf uf tf cf (hO kh) ++ wX0 E a 13 rt rc))) C (c_L_mean E o2 (a 0) fd p1 cx rfl (fun x hx => by cases hx; exact he2.1)) gL_law_L_mean rfl (by decide +kernel) rfl ⟨by decide, by decide, show k + 2 ≤ 603072 from by omega, show n + 12 ≤ 7211114 from by omega, by decide⟩ (by unfold WW; exact pm1d _ _ _ _ _ _ _ _ _ _ (hh_1 hkh)) dL_law_2020 ?_
      refine g_perm (ws2 := WW E a b o1 o2 fo fd lt ls lw lh lx rt rc zf qf uf tf cf th ma st ti sp we ho sa ca cl su) (by unfold WW; exact (pm1d _ _ _ _ _ _ _ _ _ _ (hh_1 hkh)).symm) ?_
      exact tail_mean C S hin e1 K (show k + 2 ≤ k + 4 from by omega) (show n + 12 ≤ n + 24 from by omega) hk2 hn2 f2 he2.2.1 (fun h9 => absurd h9 he2.2.2) (RL_mono R (by omega)) hrb
    · subst he
      refine g_callSL (As := [.ref (a 0), .int p1, .ref o2]) (n9 := 3) (st := []) (S := wM E b th ma st ti sp we ho sa ca cl su ++ (O1w E o1 fo ++ (wHl E a zf qf uf tf cf (hO kh) ++ wX0 E a 13 rt rc))) C (c_L_mean E o2 (a 0) fd p1 cx rfl (fun x hx => nomatch hx)) gL_law_L_mean rfl (by decide +kernel) rfl ⟨by decide, by decide, show k + 2 ≤ 603072 from by omega, show n + 12 ≤ 7211114 from by omega, by decide⟩ (by unfold WW; exact pm1d _ _ _ _ _ _ _ _ _ _ (hh_1 hkh)) dL_law_2020 ?_
      refine g_perm (ws2 := WW E a b o1 o2 fo (vf_upd fd 0 (r.1)) lt ls lw lh lx rt rc zf qf uf tf cf th ma st ti sp we ho sa ca cl su) (by unfold WW; exact (pm1d _ _ _ _ _ _ _ _ _ _ (hh_1 hkh)).symm) ?_
      exact tail_mean C S hin e1 K (show k + 2 ≤ k + 4 from by omega) (show n + 12 ≤ n + 24 from by omega) hk2 hn2 f2 ht (fun _ => updD0 _ _) (RL_mono R (by omega)) hrb
  · have hpb : p1.toInt < 0 ∨ 4 ≤ p1.toInt := by omega
    obtain ⟨f1, f2⟩ := bad_mean (ma := ma) (ti := ti) (sp := sp) (we := we) (ho := ho) (sa := sa) hpb 
    have cx := c_X4_mean_bad E a p1 (fun h9 => houseAt_no hpb h9) (.inl "java/lang/IndexOutOfBoundsException") f1
    have hm : ("java/lang/IndexOutOfBoundsException", (1 : Int32)) ∈ ([("java/lang/IndexOutOfBoundsException", 1), ("java/lang/ArithmeticException", 2)] : List (String × Int32)) := by simp
    have he2 := ex_mean hm
    refine g_callSL (As := [.ref (a 0), .int p1, .ref o2]) (n9 := 3) (st := []) (S := wM E b th ma st ti sp we ho sa ca cl su ++ (O1w E o1 fo ++ (wX2 E a 2 lt ls lw lh lx ++ (wHl E a zf qf uf tf cf [0, 1, 2, 3] ++ wX0 E a 13 rt rc)))) C (c_L_mean E o2 (a 0) fd p1 cx rfl (fun x hx => by cases hx; exact he2.1)) gL_law_L_mean rfl (by decide +kernel) rfl ⟨by decide, by decide, show k + 2 ≤ 603072 from by omega, show n + 12 ≤ 7211114 from by omega, by decide⟩ (by unfold WW; exact pm0d _ _ _ _ _ _ _ _) dL_law_2020 ?_
    refine g_perm (ws2 := WW E a b o1 o2 fo fd lt ls lw lh lx rt rc zf qf uf tf cf th ma st ti sp we ho sa ca cl su) (by unfold WW; exact (pm0d _ _ _ _ _ _ _ _).symm) ?_
    exact tail_mean C S hin e1 K (show k + 2 ≤ k + 4 from by omega) (show n + 12 ≤ n + 24 from by omega) hk2 hn2 f2 he2.2.1 (fun h9 => absurd h9 he2.2.2) (RL_mono R (by omega)) hrb
set_option maxHeartbeats 4000000 in
set_option maxRecDepth 100000 in
theorem tail_share (C : Cx E X cL_law 9 RL wsL_law room_1 ret hh) (S : Sx X sb Ln xs) (hin : ∀ c : Int32, 1 ≤ c.toInt → c.toInt ≤ 6 → vp_in (i5 + c) Ln) (e1 : xs (i5 + 1).toNatClampNeg = p1) {k1 n1 : Nat} (K : Kont E X a b o1 o2 sb i5 bd k n) (hk : k1 ≤ k + 4) (hn : n1 ≤ n + 24) (hk2 : k + 4 ≤ 603072) (hn2 : n + 24 ≤ 7211114) {κ : Int32} {r : _} (hr : f_X5_share ma ho sa p1 = some r) (hth : r.2 = κ) (hv : κ = 0 → fd (0 : Int32).toNatClampNeg = FP.f2d r.1) (hn9 : κ = 0 → n64 (FP.f2d r.1) = true) (hq : RQ (bd + 120) lt ls lw lh lx zf qf uf tf cf ma st ti sp we ho sa ca cl) (hb : rb rt rc) : Gx E X (WW E a b o1 o2 fo fd lt ls lw lh lx rt rc zf qf uf tf cf th ma st ti sp we ho sa ca cl su) 9 (lv0 sb a b o1 o2 i5) [.int κ] 2100 k1 n1 := by
  refine g_room hk hn ?_
  refine g_istore C (lv2 := [(6, .int κ), (5, .int i5), (0, .ref sb), (1, .ref (a 0)), (2, .ref (b 0)), (3, .ref o1), (4, .ref o2)]) rfl (by decide) dL_law_2100 ?_
  refine g_aload_n C 4 rfl rfl dL_law_2102 ?_
  refine g_aload_n C 2 rfl rfl dL_law_2103 ?_
  refine g_iload C 1 rfl dL_law_2104 ?_
  refine g_iconst C (v := 1) (by decide) dL_law_2106 ?_
  refine g_iadd C dL_law_2107 ?_
  refine g_sldv C S (hin 1 (by decide) (by decide)) e1 dL_law_2108 ?_
  refine g_callVL (As := [.int p1]) (n9 := 1) (st := []) C (c_X5_share E b th ma st ti sp we ho sa ca cl su p1 r hr) gL_law_X5_share rfl (by decide +kernel) rfl ⟨by decide, by decide, hk2, hn2, by decide⟩ 0 rfl rfl (List.Perm.refl _) dL_law_2109 ?_
  refine g_fstore C (lv2 := [(7, .float r.1), (6, .int κ), (5, .int i5), (0, .ref sb), (1, .ref (a 0)), (2, .ref (b 0)), (3, .ref o1), (4, .ref o2)]) rfl (by decide) dL_law_2112 ?_
  refine g_aload_n C 5 rfl rfl dL_law_2114 ?_
  refine g_callVL (As := []) (n9 := 0) (st := []) C (c_X5_thrown E b r.2 ma st ti sp we ho sa ca cl su r.2 rfl) gL_law_X5_thrown rfl (by decide +kernel) rfl ⟨by decide, by decide, hk2, hn2, by decide⟩ 0 rfl rfl (List.Perm.refl _) dL_law_2115 ?_
  refine g_iload C 1 rfl dL_law_2118 ?_
  refine g_icmp_eq (tgt := 2125) C dL_law_2120 (by decide) (fun _ => ?_) (fun h9 => absurd hth h9)
  refine g_iload C 1 rfl dL_law_2125 ?_
  refine g_if_ne (tgt := 2163) C dL_law_2127 (by decide) (fun _ => ?_) (fun hz => ?_)
  · refine g_goto (tgt := 2256) C dL_law_2163 (by decide) ?_
    refine g_lvs [2, 3, 4, 5, 6, 7] rfl ?_
    exact K hq hb
  · refine g_aload C 7 rfl dL_law_2130 ?_
    refine g_iconst C (v := 0) (by decide) dL_law_2132 ?_
    refine g_dald C 8 rfl (inB_in (by decide +kernel)) dL_law_2133 ?_
    refine g_fload C 0 rfl dL_law_2134 ?_
    refine g_f2d C (hn9 hz) dL_law_2136 ?_
    refine g_dcmp C dL_law_2137 ?_
    refine g_if_eq (tgt := 2163) C dL_law_2138 (by decide) (fun _ => ?_) (fun h9 => absurd (by rw [hv hz]; exact dcmp_9 (hn9 hz) _) h9)
    refine g_goto (tgt := 2256) C dL_law_2163 (by decide) ?_
    refine g_lvs [2, 3, 4, 5, 6, 7] rfl ?_
    exact K hq hb
theorem ex_share {e : String} {t9 : Int32} (h : (e, t9) ∈ ([("java/lang/IndexOutOfBoundsException", 1), ("java/lang/ArithmeticException", 2)] : List (String × Int32))) : (e = "java/lang/IndexOutOfBoundsException" ∨ e = "java/lang/ArithmeticException") ∧ t9 = ec_share e ∧ ec_share e ≠ 0 := by
  have h2 : (e = "java/lang/IndexOutOfBoundsException" ∧ t9 = 1) ∨ (e = "java/lang/ArithmeticException" ∧ t9 = 2) := by simpa using h
  rcases h2 with ⟨rfl, h8⟩ | ⟨rfl, h8⟩ <;> subst h8 <;> refine ⟨by simp, by simp [ec_share], by simp [ec_share]⟩
set_option maxHeartbeats 4000000 in
set_option maxRecDepth 100000 in
theorem case_share (C : Cx E X cL_law 9 RL wsL_law room_1 ret hh) (S : Sx X sb Ln xs) (hin : ∀ c : Int32, 1 ≤ c.toInt → c.toInt ≤ 6 → vp_in (i5 + c) Ln) (e1 : xs (i5 + 1).toNatClampNeg = p1) (K : Kont E X a b o1 o2 sb i5 bd k n) (hk2 : k + 4 ≤ 603072) (hn2 : n + 24 ≤ 7211114) (R : RQ bd lt ls lw lh lx zf qf uf tf cf ma st ti sp we ho sa ca cl) (hbd : bd ≤ 900000) (hrb : rb rt rc) : Gx E X (WW E a b o1 o2 fo fd lt ls lw lh lx rt rc zf qf uf tf cf th ma st ti sp we ho sa ca cl su) 9 (lv0 sb a b o1 o2 i5) [] 2088 k n := by
  refine g_aload_n C 2 rfl rfl dL_law_2088 ?_
  refine g_aload_n C 1 rfl rfl dL_law_2089 ?_
  refine g_iload C 0 rfl dL_law_2090 ?_
  refine g_iconst C (v := 1) (by decide) dL_law_2092 ?_
  refine g_iadd C dL_law_2093 ?_
  refine g_sldv C S (hin 1 (by decide) (by decide)) e1 dL_law_2094 ?_
  refine g_aload C 5 rfl dL_law_2095 ?_
  by_cases hv1 : 0 ≤ p1.toInt ∧ p1.toInt < 4
  · obtain ⟨kh, hkp, hkh⟩ : ∃ kh : Nat, p1.toInt = kh ∧ kh < 4 := ⟨p1.toInt.toNat, by omega, by omega⟩
    have eh4 := houseAt_t hkp hkh
    obtain ⟨oc, r, f1, f2, h3⟩ := st_share R hkp hkh 
    have cx := c_X4_share E a kh lt ls lw lh lx (nI kh) (zf kh) (qf kh) (uf kh) (tf kh) (cf kh) p1 eh4 oc f1
    rcases h3 with ⟨e, he, hm⟩ | ⟨he, ht, hn9⟩
    · subst he
      have hm : (e, r.2) ∈ ([("java/lang/IndexOutOfBoundsException", 1), ("java/lang/ArithmeticException", 2)] : List (String × Int32)) := List.mem_cons_of_mem _ hm
      have he2 := ex_share hm
      refine g_callSL (As := [.ref (a 0), .int p1, .ref o2]) (n9 := 3) (st := []) (S := wM E b th ma st ti sp we ho sa ca cl su ++ (O1w E o1 fo ++ (wHl E a zf qf uf tf cf (hO kh) ++ wX0 E a 13 rt rc))) C (c_L_share E o2 (a 0) fd p1 cx rfl (fun x hx => by cases hx; exact he2.1) (fun a9 h9 => nomatch h9)) gL_law_L_share rfl (by decide +kernel) rfl ⟨by decide, by decide, show k + 2 ≤ 603072 from by omega, show n + 12 ≤ 7211114 from by omega, by decide⟩ (by unfold WW; exact pm1d _ _ _ _ _ _ _ _ _ _ (hh_1 hkh)) dL_law_2097 ?_
      refine g_perm (ws2 := WW E a b o1 o2 fo fd lt ls lw lh lx rt rc zf qf uf tf cf th ma st ti sp we ho sa ca cl su) (by unfold WW; exact (pm1d _ _ _ _ _ _ _ _ _ _ (hh_1 hkh)).symm) ?_
      exact tail_share C S hin e1 K (show k + 2 ≤ k + 4 from by omega) (show n + 12 ≤ n + 24 from by omega) hk2 hn2 f2 he2.2.1 (fun h9 => absurd h9 he2.2.2) (fun h9 => absurd h9 he2.2.2) (RL_mono R (by omega)) hrb
    · subst he
      refine g_callSL (As := [.ref (a 0), .int p1, .ref o2]) (n9 := 3) (st := []) (S := wM E b th ma st ti sp we ho sa ca cl su ++ (O1w E o1 fo ++ (wHl E a zf qf uf tf cf (hO kh) ++ wX0 E a 13 rt rc))) C (c_L_share E o2 (a 0) fd p1 cx rfl (fun x hx => nomatch hx) (fun a9 h9 => by cases h9; exact hn9)) gL_law_L_share rfl (by decide +kernel) rfl ⟨by decide, by decide, show k + 2 ≤ 603072 from by omega, show n + 12 ≤ 7211114 from by omega, by decide⟩ (by unfold WW; exact pm1d _ _ _ _ _ _ _ _ _ _ (hh_1 hkh)) dL_law_2097 ?_
      refine g_perm (ws2 := WW E a b o1 o2 fo (vf_upd fd 0 (FP.f2d (r.1))) lt ls lw lh lx rt rc zf qf uf tf cf th ma st ti sp we ho sa ca cl su) (by unfold WW; exact (pm1d _ _ _ _ _ _ _ _ _ _ (hh_1 hkh)).symm) ?_
      exact tail_share C S hin e1 K (show k + 2 ≤ k + 4 from by omega) (show n + 12 ≤ n + 24 from by omega) hk2 hn2 f2 ht (fun _ => updD0 _ _) (fun _ => hn9) (RL_mono R (by omega)) hrb
  · have hpb : p1.toInt < 0 ∨ 4 ≤ p1.toInt := by omega
    obtain ⟨f1, f2⟩ := bad_share (ma := ma) (ho := ho) (sa := sa) hpb 
    have cx := c_X4_share_bad E a p1 (fun h9 => houseAt_no hpb h9) (.inl "java/lang/IndexOutOfBoundsException") f1
    have hm : ("java/lang/IndexOutOfBoundsException", (1 : Int32)) ∈ ([("java/lang/IndexOutOfBoundsException", 1), ("java/lang/ArithmeticException", 2)] : List (String × Int32)) := by simp
    have he2 := ex_share hm
    refine g_callSL (As := [.ref (a 0), .int p1, .ref o2]) (n9 := 3) (st := []) (S := wM E b th ma st ti sp we ho sa ca cl su ++ (O1w E o1 fo ++ (wX2 E a 2 lt ls lw lh lx ++ (wHl E a zf qf uf tf cf [0, 1, 2, 3] ++ wX0 E a 13 rt rc)))) C (c_L_share E o2 (a 0) fd p1 cx rfl (fun x hx => by cases hx; exact he2.1) (fun a9 h9 => nomatch h9)) gL_law_L_share rfl (by decide +kernel) rfl ⟨by decide, by decide, show k + 2 ≤ 603072 from by omega, show n + 12 ≤ 7211114 from by omega, by decide⟩ (by unfold WW; exact pm0d _ _ _ _ _ _ _ _) dL_law_2097 ?_
    refine g_perm (ws2 := WW E a b o1 o2 fo fd lt ls lw lh lx rt rc zf qf uf tf cf th ma st ti sp we ho sa ca cl su) (by unfold WW; exact (pm0d _ _ _ _ _ _ _ _).symm) ?_
    exact tail_share C S hin e1 K (show k + 2 ≤ k + 4 from by omega) (show n + 12 ≤ n + 24 from by omega) hk2 hn2 f2 he2.2.1 (fun h9 => absurd h9 he2.2.2) (fun h9 => absurd h9 he2.2.2) (RL_mono R (by omega)) hrb
set_option maxHeartbeats 4000000 in
set_option maxRecDepth 100000 in
theorem tail_isQuiet (C : Cx E X cL_law 9 RL wsL_law room_1 ret hh) (S : Sx X sb Ln xs) (hin : ∀ c : Int32, 1 ≤ c.toInt → c.toInt ≤ 6 → vp_in (i5 + c) Ln) (e1 : xs (i5 + 1).toNatClampNeg = p1) {k1 n1 : Nat} (K : Kont E X a b o1 o2 sb i5 bd k n) (hk : k1 ≤ k + 4) (hn : n1 ≤ n + 24) (hk2 : k + 4 ≤ 603072) (hn2 : n + 24 ≤ 7211114) {κ : Int32} {r : _} (hr : f_X5_isQuiet ma ti sp we ho sa cl p1 = some r) (hth : r.2 = κ) (hv : κ = 0 → fo (0 : Int32).toNatClampNeg = (if bI r.1 = 0 then 0 else 1)) (hq : RQ (bd + 120) lt ls lw lh lx zf qf uf tf cf ma st ti sp we ho sa ca cl) (hb : rb rt rc) : Gx E X (WW E a b o1 o2 fo fd lt ls lw lh lx rt rc zf qf uf tf cf th ma st ti sp we ho sa ca cl su) 9 (lv0 sb a b o1 o2 i5) [.int κ] 2177 k1 n1 := by
  refine g_room hk hn ?_
  refine g_istore C (lv2 := [(6, .int κ), (5, .int i5), (0, .ref sb), (1, .ref (a 0)), (2, .ref (b 0)), (3, .ref o1), (4, .ref o2)]) rfl (by decide) dL_law_2177 ?_
  refine g_aload_n C 4 rfl rfl dL_law_2179 ?_
  refine g_aload_n C 2 rfl rfl dL_law_2180 ?_
  refine g_iload C 1 rfl dL_law_2181 ?_
  refine g_iconst C (v := 1) (by decide) dL_law_2183 ?_
  refine g_iadd C dL_law_2184 ?_
  refine g_sldv C S (hin 1 (by decide) (by decide)) e1 dL_law_2185 ?_
  refine g_callVL (As := [.int p1]) (n9 := 1) (st := []) C (c_X5_isQuiet E b th ma st ti sp we ho sa ca cl su p1 r hr) gL_law_X5_isQuiet rfl (by decide +kernel) rfl ⟨by decide, by decide, hk2, hn2, by decide⟩ 0 rfl rfl (List.Perm.refl _) dL_law_2186 ?_
  refine g_istore C (lv2 := [(7, .int (bI r.1)), (6, .int κ), (5, .int i5), (0, .ref sb), (1, .ref (a 0)), (2, .ref (b 0)), (3, .ref o1), (4, .ref o2)]) rfl (by decide) dL_law_2189 ?_
  refine g_aload_n C 5 rfl rfl dL_law_2191 ?_
  refine g_callVL (As := []) (n9 := 0) (st := []) C (c_X5_thrown E b r.2 ma st ti sp we ho sa ca cl su r.2 rfl) gL_law_X5_thrown rfl (by decide +kernel) rfl ⟨by decide, by decide, hk2, hn2, by decide⟩ 0 rfl rfl (List.Perm.refl _) dL_law_2192 ?_
  refine g_iload C 1 rfl dL_law_2195 ?_
  refine g_icmp_eq (tgt := 2202) C dL_law_2197 (by decide) (fun _ => ?_) (fun h9 => absurd hth h9)
  refine g_iload C 1 rfl dL_law_2202 ?_
  refine g_if_ne (tgt := 2226) C dL_law_2204 (by decide) (fun _ => ?_) (fun hz => ?_)
  · refine g_goto (tgt := 2256) C dL_law_2226 (by decide) ?_
    refine g_lvs [2, 3, 4, 5, 6, 7] rfl ?_
    exact K hq hb
  · refine g_aload_n C 6 rfl rfl dL_law_2207 ?_
    refine g_iconst C (v := 0) (by decide) dL_law_2208 ?_
    refine g_lald C 9 rfl (inB_in (by decide +kernel)) dL_law_2209 ?_
    refine g_iload C 0 rfl dL_law_2210 ?_
    refine g_if_eq (tgt := 2219) C dL_law_2212 (by decide) (fun hb0 => ?_) (fun hb0 => ?_)
    · refine g_lconst C (v := 0) (by decide) dL_law_2219 ?_
      refine g_lcmp C dL_law_2220 ?_
      refine g_if_eq (tgt := 2226) C dL_law_2221 (by decide) (fun _ => ?_) (fun h9 => absurd (by rw [hv hz, if_pos hb0]; exact cmp0 _) h9)
      refine g_goto (tgt := 2256) C dL_law_2226 (by decide) ?_
      refine g_lvs [2, 3, 4, 5, 6, 7] rfl ?_
      exact K hq hb
    · refine g_lconst C (v := 1) (by decide) dL_law_2215 ?_
      refine g_goto (tgt := 2220) C dL_law_2216 (by decide) ?_
      refine g_lcmp C dL_law_2220 ?_
      refine g_if_eq (tgt := 2226) C dL_law_2221 (by decide) (fun _ => ?_) (fun h9 => absurd (by rw [hv hz, if_neg hb0]; exact cmp0 _) h9)
      refine g_goto (tgt := 2256) C dL_law_2226 (by decide) ?_
      refine g_lvs [2, 3, 4, 5, 6, 7] rfl ?_
      exact K hq hb
theorem ex_isQuiet {e : String} {t9 : Int32} (h : (e, t9) ∈ ([("java/lang/IndexOutOfBoundsException", 1)] : List (String × Int32))) : (e = "java/lang/IndexOutOfBoundsException") ∧ t9 = ec_isQuiet e ∧ ec_isQuiet e ≠ 0 := by
  have h2 : (e = "java/lang/IndexOutOfBoundsException" ∧ t9 = 1) := by simpa using h
  rcases h2 with ⟨rfl, h8⟩ <;> subst h8 <;> refine ⟨by simp, by simp [ec_isQuiet], by simp [ec_isQuiet]⟩
set_option maxHeartbeats 4000000 in
set_option maxRecDepth 100000 in
theorem case_isQuiet (C : Cx E X cL_law 9 RL wsL_law room_1 ret hh) (S : Sx X sb Ln xs) (hin : ∀ c : Int32, 1 ≤ c.toInt → c.toInt ≤ 6 → vp_in (i5 + c) Ln) (e1 : xs (i5 + 1).toNatClampNeg = p1) (K : Kont E X a b o1 o2 sb i5 bd k n) (hk2 : k + 4 ≤ 603072) (hn2 : n + 24 ≤ 7211114) (R : RQ bd lt ls lw lh lx zf qf uf tf cf ma st ti sp we ho sa ca cl) (hbd : bd ≤ 900000) (hrb : rb rt rc) : Gx E X (WW E a b o1 o2 fo fd lt ls lw lh lx rt rc zf qf uf tf cf th ma st ti sp we ho sa ca cl su) 9 (lv0 sb a b o1 o2 i5) [] 2166 k n := by
  refine g_aload_n C 2 rfl rfl dL_law_2166 ?_
  refine g_aload_n C 1 rfl rfl dL_law_2167 ?_
  refine g_iload C 0 rfl dL_law_2168 ?_
  refine g_iconst C (v := 1) (by decide) dL_law_2170 ?_
  refine g_iadd C dL_law_2171 ?_
  refine g_sldv C S (hin 1 (by decide) (by decide)) e1 dL_law_2172 ?_
  refine g_aload_n C 4 rfl rfl dL_law_2173 ?_
  by_cases hv1 : 0 ≤ p1.toInt ∧ p1.toInt < 4
  · obtain ⟨kh, hkp, hkh⟩ : ∃ kh : Nat, p1.toInt = kh ∧ kh < 4 := ⟨p1.toInt.toNat, by omega, by omega⟩
    have eh4 := houseAt_t hkp hkh
    obtain ⟨oc, r, f1, f2, h3⟩ := st_isQuiet R hkp hkh 
    have cx := c_X4_isQuiet E a kh lt ls lw lh lx (nI kh) (zf kh) (qf kh) (uf kh) (tf kh) (cf kh) p1 eh4 oc f1
    rcases h3 with ⟨e, he, hm⟩ | ⟨he, ht⟩
    · subst he
      exact absurd hm List.not_mem_nil
    · subst he
      refine g_callSL (As := [.ref (a 0), .int p1, .ref o1]) (n9 := 3) (st := []) (S := wM E b th ma st ti sp we ho sa ca cl su ++ (O2w E o2 fd ++ (wHl E a zf qf uf tf cf (hO kh) ++ wX0 E a 13 rt rc))) C (c_L_isQuiet E o1 (a 0) fo p1 cx rfl (fun x hx => nomatch hx)) gL_law_L_isQuiet rfl (by decide +kernel) rfl ⟨by decide, by decide, show k + 1 ≤ 603072 from by omega, show n + 6 ≤ 7211114 from by omega, by decide⟩ (by unfold WW; exact pm1 _ _ _ _ _ _ _ _ _ _ (hh_1 hkh)) dL_law_2174 ?_
      refine g_perm (ws2 := WW E a b o1 o2 (vp_updL fo 0 (if bI (r.1) = 0 then 0 else 1)) fd lt ls lw lh lx rt rc zf qf uf tf cf th ma st ti sp we ho sa ca cl su) (by unfold WW; exact (pm1 _ _ _ _ _ _ _ _ _ _ (hh_1 hkh)).symm) ?_
      exact tail_isQuiet C S hin e1 K (show k + 1 ≤ k + 4 from by omega) (show n + 6 ≤ n + 24 from by omega) hk2 hn2 f2 ht (fun _ => updL0 _ _) (RL_mono R (by omega)) hrb
  · have hpb : p1.toInt < 0 ∨ 4 ≤ p1.toInt := by omega
    obtain ⟨f1, f2⟩ := bad_isQuiet (ma := ma) (ti := ti) (sp := sp) (we := we) (ho := ho) (sa := sa) (cl := cl) hpb 
    have cx := c_X4_isQuiet_bad E a p1 (fun h9 => houseAt_no hpb h9) (.inl "java/lang/IndexOutOfBoundsException") f1
    have hm : ("java/lang/IndexOutOfBoundsException", (1 : Int32)) ∈ ([("java/lang/IndexOutOfBoundsException", 1)] : List (String × Int32)) := by simp
    have he2 := ex_isQuiet hm
    refine g_callSL (As := [.ref (a 0), .int p1, .ref o1]) (n9 := 3) (st := []) (S := wM E b th ma st ti sp we ho sa ca cl su ++ (O2w E o2 fd ++ (wX2 E a 2 lt ls lw lh lx ++ (wHl E a zf qf uf tf cf [0, 1, 2, 3] ++ wX0 E a 13 rt rc)))) C (c_L_isQuiet E o1 (a 0) fo p1 cx rfl (fun x hx => by cases hx; exact he2.1)) gL_law_L_isQuiet rfl (by decide +kernel) rfl ⟨by decide, by decide, show k + 1 ≤ 603072 from by omega, show n + 6 ≤ 7211114 from by omega, by decide⟩ (by unfold WW; exact pm0 _ _ _ _ _ _ _ _) dL_law_2174 ?_
    refine g_perm (ws2 := WW E a b o1 o2 fo fd lt ls lw lh lx rt rc zf qf uf tf cf th ma st ti sp we ho sa ca cl su) (by unfold WW; exact (pm0 _ _ _ _ _ _ _ _).symm) ?_
    exact tail_isQuiet C S hin e1 K (show k + 1 ≤ k + 4 from by omega) (show n + 6 ≤ n + 24 from by omega) hk2 hn2 f2 he2.2.1 (fun h9 => absurd h9 he2.2.2) (RL_mono R (by omega)) hrb
end LC5
