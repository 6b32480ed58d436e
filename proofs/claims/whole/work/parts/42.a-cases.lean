/-! the law's cases, 1 -/
section LC1
variable {E : gE} {X : gX} {ret : Option FieldType} {hh : List ExceptionTableEntry} {sb Ln : Nat} {xs : Nat → Int32} {a b : Nat → Nat} {o1 o2 : Nat} {i5 : Int32} {bd k n : Nat} {fo : Nat → Int64} {fd : Nat → UInt64} {lt ls lw lh lx rt rc : RS} {zf : Nat → Int32} {qf uf tf cf : Nat → RS} {th ma st : Int32} {ti sp we ho sa ca cl : Nat → Int32} {su : Int64} {p1 p2 p3 p4 p5 p6 : Int32}
set_option maxHeartbeats 4000000 in
set_option maxRecDepth 100000 in
theorem tail_book (C : Cx E X cL_law 9 RL wsL_law room_1 ret hh) (S : Sx X sb Ln xs) (hin : ∀ c : Int32, 1 ≤ c.toInt → c.toInt ≤ 6 → vp_in (i5 + c) Ln) (e1 : xs (i5 + 1).toNatClampNeg = p1) (e2 : xs (i5 + 2).toNatClampNeg = p2) (e3 : xs (i5 + 3).toNatClampNeg = p3) (e4 : xs (i5 + 4).toNatClampNeg = p4) {k1 n1 : Nat} (K : Kont E X a b o1 o2 sb i5 bd k n) (hk : k1 ≤ k + 4) (hn : n1 ≤ n + 24) (hk2 : k + 4 ≤ 603072) (hn2 : n + 24 ≤ 7211114) {κ : Int32} {r : _} (hr : f_X5_book ma ti sp we ho sa cl p1 p2 p3 p4 = some r) (hth : r.2.1 = κ) (hv : κ = 0 → fo (0 : Int32).toNatClampNeg = r.1.toInt64) (hq : RQ (bd + 120) lt ls lw lh lx zf qf uf tf cf r.2.2.1 st r.2.2.2.1 r.2.2.2.2.1 r.2.2.2.2.2.1 r.2.2.2.2.2.2.1 r.2.2.2.2.2.2.2 ca cl) (hb : rb rt rc) : Gx E X (WW E a b o1 o2 fo fd lt ls lw lh lx rt rc zf qf uf tf cf th ma st ti sp we ho sa ca cl su) 9 (lv0 sb a b o1 o2 i5) [.int κ] 213 k1 n1 := by
  refine g_room hk hn ?_
  refine g_istore C (lv2 := [(6, .int κ), (5, .int i5), (0, .ref sb), (1, .ref (a 0)), (2, .ref (b 0)), (3, .ref o1), (4, .ref o2)]) rfl (by decide) dL_law_213 ?_
  refine g_aload_n C 4 rfl rfl dL_law_215 ?_
  refine g_aload_n C 2 rfl rfl dL_law_216 ?_
  refine g_iload C 1 rfl dL_law_217 ?_
  refine g_iconst C (v := 1) (by decide) dL_law_219 ?_
  refine g_iadd C dL_law_220 ?_
  refine g_sldv C S (hin 1 (by decide) (by decide)) e1 dL_law_221 ?_
  refine g_aload_n C 2 rfl rfl dL_law_222 ?_
  refine g_iload C 1 rfl dL_law_223 ?_
  refine g_iconst C (v := 2) (by decide) dL_law_225 ?_
  refine g_iadd C dL_law_226 ?_
  refine g_sldv C S (hin 2 (by decide) (by decide)) e2 dL_law_227 ?_
  refine g_aload_n C 2 rfl rfl dL_law_228 ?_
  refine g_iload C 1 rfl dL_law_229 ?_
  refine g_iconst C (v := 3) (by decide) dL_law_231 ?_
  refine g_iadd C dL_law_232 ?_
  refine g_sldv C S (hin 3 (by decide) (by decide)) e3 dL_law_233 ?_
  refine g_aload_n C 2 rfl rfl dL_law_234 ?_
  refine g_iload C 1 rfl dL_law_235 ?_
  refine g_iconst C (v := 4) (by decide) dL_law_237 ?_
  refine g_iadd C dL_law_238 ?_
  refine g_sldv C S (hin 4 (by decide) (by decide)) e4 dL_law_239 ?_
  refine g_callVL (As := [.int p1, .int p2, .int p3, .int p4]) (n9 := 4) (st := []) C (c_X5_book E b th ma st ti sp we ho sa ca cl su p1 p2 p3 p4 r hr) gL_law_X5_book rfl (by decide +kernel) rfl ⟨by decide, by decide, hk2, hn2, by decide⟩ 0 rfl rfl (List.Perm.refl _) dL_law_240 ?_
  refine g_istore C (lv2 := [(7, .int r.1), (6, .int κ), (5, .int i5), (0, .ref sb), (1, .ref (a 0)), (2, .ref (b 0)), (3, .ref o1), (4, .ref o2)]) rfl (by decide) dL_law_243 ?_
  refine g_aload_n C 5 rfl rfl dL_law_245 ?_
  refine g_callVL (As := []) (n9 := 0) (st := []) C (c_X5_thrown E b r.2.1 r.2.2.1 st r.2.2.2.1 r.2.2.2.2.1 r.2.2.2.2.2.1 r.2.2.2.2.2.2.1 r.2.2.2.2.2.2.2 ca cl su r.2.1 rfl) gL_law_X5_thrown rfl (by decide +kernel) rfl ⟨by decide, by decide, hk2, hn2, by decide⟩ 0 rfl rfl (List.Perm.refl _) dL_law_246 ?_
  refine g_iload C 1 rfl dL_law_249 ?_
  refine g_icmp_eq (tgt := 256) C dL_law_251 (by decide) (fun _ => ?_) (fun h9 => absurd hth h9)
  refine g_iload C 1 rfl dL_law_256 ?_
  refine g_if_ne (tgt := 273) C dL_law_258 (by decide) (fun _ => ?_) (fun hz => ?_)
  · refine g_goto (tgt := 2256) C dL_law_273 (by decide) ?_
    refine g_lvs [2, 3, 4, 5, 6, 7] rfl ?_
    exact K hq hb
  · refine g_aload_n C 6 rfl rfl dL_law_261 ?_
    refine g_iconst C (v := 0) (by decide) dL_law_262 ?_
    refine g_lald C 9 rfl (inB_in (by decide +kernel)) dL_law_263 ?_
    refine g_iload C 0 rfl dL_law_264 ?_
    refine g_i2l C dL_law_266 ?_
    refine g_lcmp C dL_law_267 ?_
    refine g_if_eq (tgt := 273) C dL_law_268 (by decide) (fun _ => ?_) (fun h9 => absurd (by rw [hv hz]; exact cmp0 _) h9)
    refine g_goto (tgt := 2256) C dL_law_273 (by decide) ?_
    refine g_lvs [2, 3, 4, 5, 6, 7] rfl ?_
    exact K hq hb
theorem ex_book {e : String} {t9 : Int32} (h : (e, t9) ∈ ([("java/lang/IndexOutOfBoundsException", 1), ("java/lang/IllegalArgumentException", 2), ("java/lang/IllegalStateException", 3)] : List (String × Int32))) : (e = "java/lang/IndexOutOfBoundsException" ∨ e = "java/lang/IllegalArgumentException" ∨ e = "java/lang/IllegalStateException") ∧ t9 = ec_book e ∧ ec_book e ≠ 0 := by
  have h2 : (e = "java/lang/IndexOutOfBoundsException" ∧ t9 = 1) ∨ (e = "java/lang/IllegalArgumentException" ∧ t9 = 2) ∨ (e = "java/lang/IllegalStateException" ∧ t9 = 3) := by simpa using h
  rcases h2 with ⟨rfl, h8⟩ | ⟨rfl, h8⟩ | ⟨rfl, h8⟩ <;> subst h8 <;> refine ⟨by simp, by simp [ec_book], by simp [ec_book]⟩
set_option maxHeartbeats 4000000 in
set_option maxRecDepth 100000 in
theorem case_book (C : Cx E X cL_law 9 RL wsL_law room_1 ret hh) (S : Sx X sb Ln xs) (hin : ∀ c : Int32, 1 ≤ c.toInt → c.toInt ≤ 6 → vp_in (i5 + c) Ln) (e1 : xs (i5 + 1).toNatClampNeg = p1) (e2 : xs (i5 + 2).toNatClampNeg = p2) (e3 : xs (i5 + 3).toNatClampNeg = p3) (e4 : xs (i5 + 4).toNatClampNeg = p4) (K : Kont E X a b o1 o2 sb i5 bd k n) (hk2 : k + 4 ≤ 603072) (hn2 : n + 24 ≤ 7211114) (R : RQ bd lt ls lw lh lx zf qf uf tf cf ma st ti sp we ho sa ca cl) (hbd : bd ≤ 900000) (hrb : rb rt rc) : Gx E X (WW E a b o1 o2 fo fd lt ls lw lh lx rt rc zf qf uf tf cf th ma st ti sp we ho sa ca cl su) 9 (lv0 sb a b o1 o2 i5) [] 184 k n := by
  refine g_aload_n C 2 rfl rfl dL_law_184 ?_
  refine g_aload_n C 1 rfl rfl dL_law_185 ?_
  refine g_iload C 0 rfl dL_law_186 ?_
  refine g_iconst C (v := 1) (by decide) dL_law_188 ?_
  refine g_iadd C dL_law_189 ?_
  refine g_sldv C S (hin 1 (by decide) (by decide)) e1 dL_law_190 ?_
  refine g_aload_n C 1 rfl rfl dL_law_191 ?_
  refine g_iload C 0 rfl dL_law_192 ?_
  refine g_iconst C (v := 2) (by decide) dL_law_194 ?_
  refine g_iadd C dL_law_195 ?_
  refine g_sldv C S (hin 2 (by decide) (by decide)) e2 dL_law_196 ?_
  refine g_aload_n C 1 rfl rfl dL_law_197 ?_
  refine g_iload C 0 rfl dL_law_198 ?_
  refine g_iconst C (v := 3) (by decide) dL_law_200 ?_
  refine g_iadd C dL_law_201 ?_
  refine g_sldv C S (hin 3 (by decide) (by decide)) e3 dL_law_202 ?_
  refine g_aload_n C 1 rfl rfl dL_law_203 ?_
  refine g_iload C 0 rfl dL_law_204 ?_
  refine g_iconst C (v := 4) (by decide) dL_law_206 ?_
  refine g_iadd C dL_law_207 ?_
  refine g_sldv C S (hin 4 (by decide) (by decide)) e4 dL_law_208 ?_
  refine g_aload_n C 4 rfl rfl dL_law_209 ?_
  by_cases hv1 : 0 ≤ p1.toInt ∧ p1.toInt < 4
  · obtain ⟨kh, hkp, hkh⟩ : ∃ kh : Nat, p1.toInt = kh ∧ kh < 4 := ⟨p1.toInt.toNat, by omega, by omega⟩
    have eh4 := houseAt_t hkp hkh
    obtain ⟨oc, r, f1, f2, h3⟩ := st_book R hbd hkp hkh p2 p3 p4
    have cx := c_X4_book E a kh lt ls lw lh lx (nI kh) (zf kh) (qf kh) (uf kh) (tf kh) (cf kh) p1 p2 p3 p4 eh4 oc f1
    rcases h3 with ⟨e, he, hm, hq⟩ | ⟨v, he, ht, hv, hq⟩
    · subst he
      have hm : (e, r.2.1) ∈ ([("java/lang/IndexOutOfBoundsException", 1), ("java/lang/IllegalArgumentException", 2), ("java/lang/IllegalStateException", 3)] : List (String × Int32)) := List.mem_cons_of_mem _ hm
      have he2 := ex_book hm
      refine g_callSL (As := [.ref (a 0), .int p1, .int p2, .int p3, .int p4, .ref o1]) (n9 := 6) (st := []) (S := wM E b th ma st ti sp we ho sa ca cl su ++ (O2w E o2 fd ++ (wHl E a zf qf uf tf cf (hO kh) ++ wX0 E a 13 rt rc))) C (c_L_book E o1 (a 0) fo p1 p2 p3 p4 cx rfl (fun x hx => by cases hx; exact he2.1)) gL_law_L_book rfl (by decide +kernel) rfl ⟨by decide, by decide, show k + 2 ≤ 603072 from by omega, show n + 12 ≤ 7211114 from by omega, by decide⟩ (by unfold WW; exact pm1 _ _ _ _ _ _ _ _ _ _ (hh_1 hkh)) dL_law_210 ?_
      refine g_perm (ws2 := WW E a b o1 o2 fo fd lt ls lw lh lx rt rc zf qf uf tf cf th ma st ti sp we ho sa ca cl su) (by unfold WW; exact (pm1 _ _ _ _ _ _ _ _ _ _ (hh_1 hkh)).symm) ?_
      exact tail_book C S hin e1 e2 e3 e4 K (show k + 2 ≤ k + 4 from by omega) (show n + 12 ≤ n + 24 from by omega) hk2 hn2 f2 he2.2.1 (fun h9 => absurd h9 he2.2.2) hq hrb
    · subst he
      refine g_callSL (As := [.ref (a 0), .int p1, .int p2, .int p3, .int p4, .ref o1]) (n9 := 6) (st := []) (S := wM E b th ma st ti sp we ho sa ca cl su ++ (O2w E o2 fd ++ (wHl E a zf qf uf tf cf (hO kh) ++ wX0 E a 13 rt rc))) C (c_L_book E o1 (a 0) fo p1 p2 p3 p4 cx rfl (fun x hx => nomatch hx)) gL_law_L_book rfl (by decide +kernel) rfl ⟨by decide, by decide, show k + 2 ≤ 603072 from by omega, show n + 12 ≤ 7211114 from by omega, by decide⟩ (by unfold WW; exact pm1 _ _ _ _ _ _ _ _ _ _ (hh_1 hkh)) dL_law_210 ?_
      refine g_perm (ws2 := WW E a b o1 o2 (vp_updL fo 0 (v.1).toInt64) fd v.2.1 v.2.2.1 v.2.2.2.1 v.2.2.2.2.1 v.2.2.2.2.2.1 rt rc (ups zf kh (zf kh)) (ups qf kh v.2.2.2.2.2.2) (ups uf kh (uf kh)) (ups tf kh (tf kh)) (ups cf kh (cf kh)) th ma st ti sp we ho sa ca cl su) (by unfold WW; exact (pm1 _ _ _ _ _ _ _ _ _ _ (hh_1u hkh).symm).symm) ?_
      exact tail_book C S hin e1 e2 e3 e4 K (show k + 2 ≤ k + 4 from by omega) (show n + 12 ≤ n + 24 from by omega) hk2 hn2 f2 ht (fun _ => (updL0 _ _).trans (congrArg Int32.toInt64 hv)) hq hrb
  · have hpb : p1.toInt < 0 ∨ 4 ≤ p1.toInt := by omega
    obtain ⟨f1, f2⟩ := bad_book (ma := ma) (ti := ti) (sp := sp) (we := we) (ho := ho) (sa := sa) (cl := cl) hpb p2 p3 p4
    have cx := c_X4_book_bad E a p1 p2 p3 p4 (fun h9 => houseAt_no hpb h9) (.inl "java/lang/IndexOutOfBoundsException") f1
    have hm : ("java/lang/IndexOutOfBoundsException", (1 : Int32)) ∈ ([("java/lang/IndexOutOfBoundsException", 1), ("java/lang/IllegalArgumentException", 2), ("java/lang/IllegalStateException", 3)] : List (String × Int32)) := by simp
    have he2 := ex_book hm
    refine g_callSL (As := [.ref (a 0), .int p1, .int p2, .int p3, .int p4, .ref o1]) (n9 := 6) (st := []) (S := wM E b th ma st ti sp we ho sa ca cl su ++ (O2w E o2 fd ++ (wX2 E a 2 lt ls lw lh lx ++ (wHl E a zf qf uf tf cf [0, 1, 2, 3] ++ wX0 E a 13 rt rc)))) C (c_L_book E o1 (a 0) fo p1 p2 p3 p4 cx rfl (fun x hx => by cases hx; exact he2.1)) gL_law_L_book rfl (by decide +kernel) rfl ⟨by decide, by decide, show k + 2 ≤ 603072 from by omega, show n + 12 ≤ 7211114 from by omega, by decide⟩ (by unfold WW; exact pm0 _ _ _ _ _ _ _ _) dL_law_210 ?_
    refine g_perm (ws2 := WW E a b o1 o2 fo fd lt ls lw lh lx rt rc zf qf uf tf cf th ma st ti sp we ho sa ca cl su) (by unfold WW; exact (pm0 _ _ _ _ _ _ _ _).symm) ?_
    exact tail_book C S hin e1 e2 e3 e4 K (show k + 2 ≤ k + 4 from by omega) (show n + 12 ≤ n + 24 from by omega) hk2 hn2 f2 he2.2.1 (fun h9 => absurd h9 he2.2.2) (RL_mono R (by omega)) hrb
set_option maxHeartbeats 4000000 in
set_option maxRecDepth 100000 in
theorem tail_series (C : Cx E X cL_law 9 RL wsL_law room_1 ret hh) (S : Sx X sb Ln xs) (hin : ∀ c : Int32, 1 ≤ c.toInt → c.toInt ≤ 6 → vp_in (i5 + c) Ln) (e1 : xs (i5 + 1).toNatClampNeg = p1) (e2 : xs (i5 + 2).toNatClampNeg = p2) (e3 : xs (i5 + 3).toNatClampNeg = p3) (e4 : xs (i5 + 4).toNatClampNeg = p4) (e5 : xs (i5 + 5).toNatClampNeg = p5) (e6 : xs (i5 + 6).toNatClampNeg = p6) {k1 n1 : Nat} (K : Kont E X a b o1 o2 sb i5 bd k n) (hk : k1 ≤ k + 4) (hn : n1 ≤ n + 24) (hk2 : k + 4 ≤ 603072) (hn2 : n + 24 ≤ 7211114) {κ : Int32} {r : _} (hr : f_X5_series ma ti sp we ho sa cl p1 p2 p3 p4 p5 p6 = some r) (hth : r.2.1 = κ) (hv : κ = 0 → fo (0 : Int32).toNatClampNeg = r.1.toInt64) (hq : RQ (bd + 120) lt ls lw lh lx zf qf uf tf cf r.2.2.1 st r.2.2.2.1 r.2.2.2.2.1 r.2.2.2.2.2.1 r.2.2.2.2.2.2.1 r.2.2.2.2.2.2.2 ca cl) (hb : rb rt rc) : Gx E X (WW E a b o1 o2 fo fd lt ls lw lh lx rt rc zf qf uf tf cf th ma st ti sp we ho sa ca cl su) 9 (lv0 sb a b o1 o2 i5) [.int κ] 318 k1 n1 := by
  refine g_room hk hn ?_
  refine g_istore C (lv2 := [(6, .int κ), (5, .int i5), (0, .ref sb), (1, .ref (a 0)), (2, .ref (b 0)), (3, .ref o1), (4, .ref o2)]) rfl (by decide) dL_law_318 ?_
  refine g_aload_n C 4 rfl rfl dL_law_320 ?_
  refine g_aload_n C 2 rfl rfl dL_law_321 ?_
  refine g_iload C 1 rfl dL_law_322 ?_
  refine g_iconst C (v := 1) (by decide) dL_law_324 ?_
  refine g_iadd C dL_law_325 ?_
  refine g_sldv C S (hin 1 (by decide) (by decide)) e1 dL_law_326 ?_
  refine g_aload_n C 2 rfl rfl dL_law_327 ?_
  refine g_iload C 1 rfl dL_law_328 ?_
  refine g_iconst C (v := 2) (by decide) dL_law_330 ?_
  refine g_iadd C dL_law_331 ?_
  refine g_sldv C S (hin 2 (by decide) (by decide)) e2 dL_law_332 ?_
  refine g_aload_n C 2 rfl rfl dL_law_333 ?_
  refine g_iload C 1 rfl dL_law_334 ?_
  refine g_iconst C (v := 3) (by decide) dL_law_336 ?_
  refine g_iadd C dL_law_337 ?_
  refine g_sldv C S (hin 3 (by decide) (by decide)) e3 dL_law_338 ?_
  refine g_aload_n C 2 rfl rfl dL_law_339 ?_
  refine g_iload C 1 rfl dL_law_340 ?_
  refine g_iconst C (v := 4) (by decide) dL_law_342 ?_
  refine g_iadd C dL_law_343 ?_
  refine g_sldv C S (hin 4 (by decide) (by decide)) e4 dL_law_344 ?_
  refine g_aload_n C 2 rfl rfl dL_law_345 ?_
  refine g_iload C 1 rfl dL_law_346 ?_
  refine g_iconst C (v := 5) (by decide) dL_law_348 ?_
  refine g_iadd C dL_law_349 ?_
  refine g_sldv C S (hin 5 (by decide) (by decide)) e5 dL_law_350 ?_
  refine g_aload_n C 2 rfl rfl dL_law_351 ?_
  refine g_iload C 1 rfl dL_law_352 ?_
  refine g_bipush C (v := 6) (by decide) dL_law_354 ?_
  refine g_iadd C dL_law_356 ?_
  refine g_sldv C S (hin 6 (by decide) (by decide)) e6 dL_law_357 ?_
  refine g_callVL (As := [.int p1, .int p2, .int p3, .int p4, .int p5, .int p6]) (n9 := 6) (st := []) C (c_X5_series E b th ma st ti sp we ho sa ca cl su p1 p2 p3 p4 p5 p6 r hr) gL_law_X5_series rfl (by decide +kernel) rfl ⟨by decide, by decide, hk2, hn2, by decide⟩ 0 rfl rfl (List.Perm.refl _) dL_law_358 ?_
  refine g_istore C (lv2 := [(7, .int r.1), (6, .int κ), (5, .int i5), (0, .ref sb), (1, .ref (a 0)), (2, .ref (b 0)), (3, .ref o1), (4, .ref o2)]) rfl (by decide) dL_law_361 ?_
  refine g_aload_n C 5 rfl rfl dL_law_363 ?_
  refine g_callVL (As := []) (n9 := 0) (st := []) C (c_X5_thrown E b r.2.1 r.2.2.1 st r.2.2.2.1 r.2.2.2.2.1 r.2.2.2.2.2.1 r.2.2.2.2.2.2.1 r.2.2.2.2.2.2.2 ca cl su r.2.1 rfl) gL_law_X5_thrown rfl (by decide +kernel) rfl ⟨by decide, by decide, hk2, hn2, by decide⟩ 0 rfl rfl (List.Perm.refl _) dL_law_364 ?_
  refine g_iload C 1 rfl dL_law_367 ?_
  refine g_icmp_eq (tgt := 374) C dL_law_369 (by decide) (fun _ => ?_) (fun h9 => absurd hth h9)
  refine g_iload C 1 rfl dL_law_374 ?_
  refine g_if_ne (tgt := 391) C dL_law_376 (by decide) (fun _ => ?_) (fun hz => ?_)
  · refine g_goto (tgt := 2256) C dL_law_391 (by decide) ?_
    refine g_lvs [2, 3, 4, 5, 6, 7] rfl ?_
    exact K hq hb
  · refine g_aload_n C 6 rfl rfl dL_law_379 ?_
    refine g_iconst C (v := 0) (by decide) dL_law_380 ?_
    refine g_lald C 9 rfl (inB_in (by decide +kernel)) dL_law_381 ?_
    refine g_iload C 0 rfl dL_law_382 ?_
    refine g_i2l C dL_law_384 ?_
    refine g_lcmp C dL_law_385 ?_
    refine g_if_eq (tgt := 391) C dL_law_386 (by decide) (fun _ => ?_) (fun h9 => absurd (by rw [hv hz]; exact cmp0 _) h9)
    refine g_goto (tgt := 2256) C dL_law_391 (by decide) ?_
    refine g_lvs [2, 3, 4, 5, 6, 7] rfl ?_
    exact K hq hb
theorem ex_series {e : String} {t9 : Int32} (h : (e, t9) ∈ ([("java/lang/IndexOutOfBoundsException", 1), ("java/lang/IllegalArgumentException", 2), ("java/lang/IllegalStateException", 3)] : List (String × Int32))) : (e = "java/lang/IndexOutOfBoundsException" ∨ e = "java/lang/IllegalArgumentException" ∨ e = "java/lang/IllegalStateException") ∧ t9 = ec_series e ∧ ec_series e ≠ 0 := by
  have h2 : (e = "java/lang/IndexOutOfBoundsException" ∧ t9 = 1) ∨ (e = "java/lang/IllegalArgumentException" ∧ t9 = 2) ∨ (e = "java/lang/IllegalStateException" ∧ t9 = 3) := by simpa using h
  rcases h2 with ⟨rfl, h8⟩ | ⟨rfl, h8⟩ | ⟨rfl, h8⟩ <;> subst h8 <;> refine ⟨by simp, by simp [ec_series], by simp [ec_series]⟩
set_option maxHeartbeats 4000000 in
set_option maxRecDepth 100000 in
theorem case_series (C : Cx E X cL_law 9 RL wsL_law room_1 ret hh) (S : Sx X sb Ln xs) (hin : ∀ c : Int32, 1 ≤ c.toInt → c.toInt ≤ 6 → vp_in (i5 + c) Ln) (e1 : xs (i5 + 1).toNatClampNeg = p1) (e2 : xs (i5 + 2).toNatClampNeg = p2) (e3 : xs (i5 + 3).toNatClampNeg = p3) (e4 : xs (i5 + 4).toNatClampNeg = p4) (e5 : xs (i5 + 5).toNatClampNeg = p5) (e6 : xs (i5 + 6).toNatClampNeg = p6) (K : Kont E X a b o1 o2 sb i5 bd k n) (hk2 : k + 4 ≤ 603072) (hn2 : n + 24 ≤ 7211114) (R : RQ bd lt ls lw lh lx zf qf uf tf cf ma st ti sp we ho sa ca cl) (hbd : bd ≤ 900000) (hrb : rb rt rc) : Gx E X (WW E a b o1 o2 fo fd lt ls lw lh lx rt rc zf qf uf tf cf th ma st ti sp we ho sa ca cl su) 9 (lv0 sb a b o1 o2 i5) [] 276 k n := by
  refine g_aload_n C 2 rfl rfl dL_law_276 ?_
  refine g_aload_n C 1 rfl rfl dL_law_277 ?_
  refine g_iload C 0 rfl dL_law_278 ?_
  refine g_iconst C (v := 1) (by decide) dL_law_280 ?_
  refine g_iadd C dL_law_281 ?_
  refine g_sldv C S (hin 1 (by decide) (by decide)) e1 dL_law_282 ?_
  refine g_aload_n C 1 rfl rfl dL_law_283 ?_
  refine g_iload C 0 rfl dL_law_284 ?_
  refine g_iconst C (v := 2) (by decide) dL_law_286 ?_
  refine g_iadd C dL_law_287 ?_
  refine g_sldv C S (hin 2 (by decide) (by decide)) e2 dL_law_288 ?_
  refine g_aload_n C 1 rfl rfl dL_law_289 ?_
  refine g_iload C 0 rfl dL_law_290 ?_
  refine g_iconst C (v := 3) (by decide) dL_law_292 ?_
  refine g_iadd C dL_law_293 ?_
  refine g_sldv C S (hin 3 (by decide) (by decide)) e3 dL_law_294 ?_
  refine g_aload_n C 1 rfl rfl dL_law_295 ?_
  refine g_iload C 0 rfl dL_law_296 ?_
  refine g_iconst C (v := 4) (by decide) dL_law_298 ?_
  refine g_iadd C dL_law_299 ?_
  refine g_sldv C S (hin 4 (by decide) (by decide)) e4 dL_law_300 ?_
  refine g_aload_n C 1 rfl rfl dL_law_301 ?_
  refine g_iload C 0 rfl dL_law_302 ?_
  refine g_iconst C (v := 5) (by decide) dL_law_304 ?_
  refine g_iadd C dL_law_305 ?_
  refine g_sldv C S (hin 5 (by decide) (by decide)) e5 dL_law_306 ?_
  refine g_aload_n C 1 rfl rfl dL_law_307 ?_
  refine g_iload C 0 rfl dL_law_308 ?_
  refine g_bipush C (v := 6) (by decide) dL_law_310 ?_
  refine g_iadd C dL_law_312 ?_
  refine g_sldv C S (hin 6 (by decide) (by decide)) e6 dL_law_313 ?_
  refine g_aload_n C 4 rfl rfl dL_law_314 ?_
  by_cases hv1 : 0 ≤ p1.toInt ∧ p1.toInt < 4
  · obtain ⟨kh, hkp, hkh⟩ : ∃ kh : Nat, p1.toInt = kh ∧ kh < 4 := ⟨p1.toInt.toNat, by omega, by omega⟩
    have eh4 := houseAt_t hkp hkh
    obtain ⟨oc, r, f1, f2, h3⟩ := st_series R hbd hkp hkh p2 p3 p4 p5 p6
    have cx := c_X4_series E a kh lt ls lw lh lx (nI kh) (zf kh) (qf kh) (uf kh) (tf kh) (cf kh) p1 p2 p3 p4 p5 p6 eh4 oc f1
    rcases h3 with ⟨e, he, hm, hq⟩ | ⟨v, he, ht, hv, hq⟩
    · subst he
      have hm : (e, r.2.1) ∈ ([("java/lang/IndexOutOfBoundsException", 1), ("java/lang/IllegalArgumentException", 2), ("java/lang/IllegalStateException", 3)] : List (String × Int32)) := List.mem_cons_of_mem _ hm
      have he2 := ex_series hm
      refine g_callSL (As := [.ref (a 0), .int p1, .int p2, .int p3, .int p4, .int p5, .int p6, .ref o1]) (n9 := 8) (st := []) (S := wM E b th ma st ti sp we ho sa ca cl su ++ (O2w E o2 fd ++ (wHl E a zf qf uf tf cf (hO kh) ++ wX0 E a 13 rt rc))) C (c_L_series E o1 (a 0) fo p1 p2 p3 p4 p5 p6 cx rfl (fun x hx => by cases hx; exact he2.1)) gL_law_L_series rfl (by decide +kernel) rfl ⟨by decide, by decide, show k + 2 ≤ 603072 from by omega, show n + 12 ≤ 7211114 from by omega, by decide⟩ (by unfold WW; exact pm1 _ _ _ _ _ _ _ _ _ _ (hh_1 hkh)) dL_law_315 ?_
      refine g_perm (ws2 := WW E a b o1 o2 fo fd lt ls lw lh lx rt rc zf qf uf tf cf th ma st ti sp we ho sa ca cl su) (by unfold WW; exact (pm1 _ _ _ _ _ _ _ _ _ _ (hh_1 hkh)).symm) ?_
      exact tail_series C S hin e1 e2 e3 e4 e5 e6 K (show k + 2 ≤ k + 4 from by omega) (show n + 12 ≤ n + 24 from by omega) hk2 hn2 f2 he2.2.1 (fun h9 => absurd h9 he2.2.2) hq hrb
    · subst he
      refine g_callSL (As := [.ref (a 0), .int p1, .int p2, .int p3, .int p4, .int p5, .int p6, .ref o1]) (n9 := 8) (st := []) (S := wM E b th ma st ti sp we ho sa ca cl su ++ (O2w E o2 fd ++ (wHl E a zf qf uf tf cf (hO kh) ++ wX0 E a 13 rt rc))) C (c_L_series E o1 (a 0) fo p1 p2 p3 p4 p5 p6 cx rfl (fun x hx => nomatch hx)) gL_law_L_series rfl (by decide +kernel) rfl ⟨by decide, by decide, show k + 2 ≤ 603072 from by omega, show n + 12 ≤ 7211114 from by omega, by decide⟩ (by unfold WW; exact pm1 _ _ _ _ _ _ _ _ _ _ (hh_1 hkh)) dL_law_315 ?_
      refine g_perm (ws2 := WW E a b o1 o2 (vp_updL fo 0 (v.1).toInt64) fd v.2.1 v.2.2.1 v.2.2.2.1 v.2.2.2.2.1 v.2.2.2.2.2.1 rt rc (ups zf kh (zf kh)) (ups qf kh v.2.2.2.2.2.2) (ups uf kh (uf kh)) (ups tf kh (tf kh)) (ups cf kh (cf kh)) th ma st ti sp we ho sa ca cl su) (by unfold WW; exact (pm1 _ _ _ _ _ _ _ _ _ _ (hh_1u hkh).symm).symm) ?_
      exact tail_series C S hin e1 e2 e3 e4 e5 e6 K (show k + 2 ≤ k + 4 from by omega) (show n + 12 ≤ n + 24 from by omega) hk2 hn2 f2 ht (fun _ => (updL0 _ _).trans (congrArg Int32.toInt64 hv)) hq hrb
  · have hpb : p1.toInt < 0 ∨ 4 ≤ p1.toInt := by omega
    obtain ⟨f1, f2⟩ := bad_series (ma := ma) (ti := ti) (sp := sp) (we := we) (ho := ho) (sa := sa) (cl := cl) hpb p2 p3 p4 p5 p6
    have cx := c_X4_series_bad E a p1 p2 p3 p4 p5 p6 (fun h9 => houseAt_no hpb h9) (.inl "java/lang/IndexOutOfBoundsException") f1
    have hm : ("java/lang/IndexOutOfBoundsException", (1 : Int32)) ∈ ([("java/lang/IndexOutOfBoundsException", 1), ("java/lang/IllegalArgumentException", 2), ("java/lang/IllegalStateException", 3)] : List (String × Int32)) := by simp
    have he2 := ex_series hm
    refine g_callSL (As := [.ref (a 0), .int p1, .int p2, .int p3, .int p4, .int p5, .int p6, .ref o1]) (n9 := 8) (st := []) (S := wM E b th ma st ti sp we ho sa ca cl su ++ (O2w E o2 fd ++ (wX2 E a 2 lt ls lw lh lx ++ (wHl E a zf qf uf tf cf [0, 1, 2, 3] ++ wX0 E a 13 rt rc)))) C (c_L_series E o1 (a 0) fo p1 p2 p3 p4 p5 p6 cx rfl (fun x hx => by cases hx; exact he2.1)) gL_law_L_series rfl (by decide +kernel) rfl ⟨by decide, by decide, show k + 2 ≤ 603072 from by omega, show n + 12 ≤ 7211114 from by omega, by decide⟩ (by unfold WW; exact pm0 _ _ _ _ _ _ _ _) dL_law_315 ?_
    refine g_perm (ws2 := WW E a b o1 o2 fo fd lt ls lw lh lx rt rc zf qf uf tf cf th ma st ti sp we ho sa ca cl su) (by unfold WW; exact (pm0 _ _ _ _ _ _ _ _).symm) ?_
    exact tail_series C S hin e1 e2 e3 e4 e5 e6 K (show k + 2 ≤ k + 4 from by omega) (show n + 12 ≤ n + 24 from by omega) hk2 hn2 f2 he2.2.1 (fun h9 => absurd h9 he2.2.2) (RL_mono R (by omega)) hrb
set_option maxHeartbeats 4000000 in
set_option maxRecDepth 100000 in
theorem tail_callOff (C : Cx E X cL_law 9 RL wsL_law room_1 ret hh) (S : Sx X sb Ln xs) (hin : ∀ c : Int32, 1 ≤ c.toInt → c.toInt ≤ 6 → vp_in (i5 + c) Ln) (e1 : xs (i5 + 1).toNatClampNeg = p1) (e2 : xs (i5 + 2).toNatClampNeg = p2) {k1 n1 : Nat} (K : Kont E X a b o1 o2 sb i5 bd k n) (hk : k1 ≤ k + 4) (hn : n1 ≤ n + 24) (hk2 : k + 4 ≤ 603072) (hn2 : n + 24 ≤ 7211114) {κ : Int32} {r : _} (hr : f_X5_callOff ma ho sa p1 p2 = some r) (hth : r.2.1 = κ) (hv : κ = 0 → fo (0 : Int32).toNatClampNeg = (if bI r.1 = 0 then 0 else 1)) (hq : RQ (bd + 120) lt ls lw lh lx zf qf uf tf cf ma st ti sp we ho r.2.2 ca cl) (hb : rb rt rc) : Gx E X (WW E a b o1 o2 fo fd lt ls lw lh lx rt rc zf qf uf tf cf th ma st ti sp we ho sa ca cl su) 9 (lv0 sb a b o1 o2 i5) [.int κ] 411 k1 n1 := by
  refine g_room hk hn ?_
  refine g_istore C (lv2 := [(6, .int κ), (5, .int i5), (0, .ref sb), (1, .ref (a 0)), (2, .ref (b 0)), (3, .ref o1), (4, .ref o2)]) rfl (by decide) dL_law_411 ?_
  refine g_aload_n C 4 rfl rfl dL_law_413 ?_
  refine g_aload_n C 2 rfl rfl dL_law_414 ?_
  refine g_iload C 1 rfl dL_law_415 ?_
  refine g_iconst C (v := 1) (by decide) dL_law_417 ?_
  refine g_iadd C dL_law_418 ?_
  refine g_sldv C S (hin 1 (by decide) (by decide)) e1 dL_law_419 ?_
  refine g_aload_n C 2 rfl rfl dL_law_420 ?_
  refine g_iload C 1 rfl dL_law_421 ?_
  refine g_iconst C (v := 2) (by decide) dL_law_423 ?_
  refine g_iadd C dL_law_424 ?_
  refine g_sldv C S (hin 2 (by decide) (by decide)) e2 dL_law_425 ?_
  refine g_callVL (As := [.int p1, .int p2]) (n9 := 2) (st := []) C (c_X5_callOff E b th ma st ti sp we ho sa ca cl su p1 p2 r hr) gL_law_X5_callOff rfl (by decide +kernel) rfl ⟨by decide, by decide, hk2, hn2, by decide⟩ 0 rfl rfl (List.Perm.refl _) dL_law_426 ?_
  refine g_istore C (lv2 := [(7, .int (bI r.1)), (6, .int κ), (5, .int i5), (0, .ref sb), (1, .ref (a 0)), (2, .ref (b 0)), (3, .ref o1), (4, .ref o2)]) rfl (by decide) dL_law_429 ?_
  refine g_aload_n C 5 rfl rfl dL_law_431 ?_
  refine g_callVL (As := []) (n9 := 0) (st := []) C (c_X5_thrown E b r.2.1 ma st ti sp we ho r.2.2 ca cl su r.2.1 rfl) gL_law_X5_thrown rfl (by decide +kernel) rfl ⟨by decide, by decide, hk2, hn2, by decide⟩ 0 rfl rfl (List.Perm.refl _) dL_law_432 ?_
  refine g_iload C 1 rfl dL_law_435 ?_
  refine g_icmp_eq (tgt := 442) C dL_law_437 (by decide) (fun _ => ?_) (fun h9 => absurd hth h9)
  refine g_iload C 1 rfl dL_law_442 ?_
  refine g_if_ne (tgt := 466) C dL_law_444 (by decide) (fun _ => ?_) (fun hz => ?_)
  · refine g_goto (tgt := 2256) C dL_law_466 (by decide) ?_
    refine g_lvs [2, 3, 4, 5, 6, 7] rfl ?_
    exact K hq hb
  · refine g_aload_n C 6 rfl rfl dL_law_447 ?_
    refine g_iconst C (v := 0) (by decide) dL_law_448 ?_
    refine g_lald C 9 rfl (inB_in (by decide +kernel)) dL_law_449 ?_
    refine g_iload C 0 rfl dL_law_450 ?_
    refine g_if_eq (tgt := 459) C dL_law_452 (by decide) (fun hb0 => ?_) (fun hb0 => ?_)
    · refine g_lconst C (v := 0) (by decide) dL_law_459 ?_
      refine g_lcmp C dL_law_460 ?_
      refine g_if_eq (tgt := 466) C dL_law_461 (by decide) (fun _ => ?_) (fun h9 => absurd (by rw [hv hz, if_pos hb0]; exact cmp0 _) h9)
      refine g_goto (tgt := 2256) C dL_law_466 (by decide) ?_
      refine g_lvs [2, 3, 4, 5, 6, 7] rfl ?_
      exact K hq hb
    · refine g_lconst C (v := 1) (by decide) dL_law_455 ?_
      refine g_goto (tgt := 460) C dL_law_456 (by decide) ?_
      refine g_lcmp C dL_law_460 ?_
      refine g_if_eq (tgt := 466) C dL_law_461 (by decide) (fun _ => ?_) (fun h9 => absurd (by rw [hv hz, if_neg hb0]; exact cmp0 _) h9)
      refine g_goto (tgt := 2256) C dL_law_466 (by decide) ?_
      refine g_lvs [2, 3, 4, 5, 6, 7] rfl ?_
      exact K hq hb
theorem ex_callOff {e : String} {t9 : Int32} (h : (e, t9) ∈ ([("java/lang/IndexOutOfBoundsException", 1)] : List (String × Int32))) : (e = "java/lang/IndexOutOfBoundsException") ∧ t9 = ec_callOff e ∧ ec_callOff e ≠ 0 := by
  have h2 : (e = "java/lang/IndexOutOfBoundsException" ∧ t9 = 1) := by simpa using h
  rcases h2 with ⟨rfl, h8⟩ <;> subst h8 <;> refine ⟨by simp, by simp [ec_callOff], by simp [ec_callOff]⟩
set_option maxHeartbeats 4000000 in
set_option maxRecDepth 100000 in
theorem case_callOff (C : Cx E X cL_law 9 RL wsL_law room_1 ret hh) (S : Sx X sb Ln xs) (hin : ∀ c : Int32, 1 ≤ c.toInt → c.toInt ≤ 6 → vp_in (i5 + c) Ln) (e1 : xs (i5 + 1).toNatClampNeg = p1) (e2 : xs (i5 + 2).toNatClampNeg = p2) (K : Kont E X a b o1 o2 sb i5 bd k n) (hk2 : k + 4 ≤ 603072) (hn2 : n + 24 ≤ 7211114) (R : RQ bd lt ls lw lh lx zf qf uf tf cf ma st ti sp we ho sa ca cl) (hbd : bd ≤ 900000) (hrb : rb rt rc) : Gx E X (WW E a b o1 o2 fo fd lt ls lw lh lx rt rc zf qf uf tf cf th ma st ti sp we ho sa ca cl su) 9 (lv0 sb a b o1 o2 i5) [] 394 k n := by
  refine g_aload_n C 2 rfl rfl dL_law_394 ?_
  refine g_aload_n C 1 rfl rfl dL_law_395 ?_
  refine g_iload C 0 rfl dL_law_396 ?_
  refine g_iconst C (v := 1) (by decide) dL_law_398 ?_
  refine g_iadd C dL_law_399 ?_
  refine g_sldv C S (hin 1 (by decide) (by decide)) e1 dL_law_400 ?_
  refine g_aload_n C 1 rfl rfl dL_law_401 ?_
  refine g_iload C 0 rfl dL_law_402 ?_
  refine g_iconst C (v := 2) (by decide) dL_law_404 ?_
  refine g_iadd C dL_law_405 ?_
  refine g_sldv C S (hin 2 (by decide) (by decide)) e2 dL_law_406 ?_
  refine g_aload_n C 4 rfl rfl dL_law_407 ?_
  by_cases hv1 : 0 ≤ p1.toInt ∧ p1.toInt < 4
  · obtain ⟨kh, hkp, hkh⟩ : ∃ kh : Nat, p1.toInt = kh ∧ kh < 4 := ⟨p1.toInt.toNat, by omega, by omega⟩
    have eh4 := houseAt_t hkp hkh
    obtain ⟨oc, r, f1, f2, h3⟩ := st_callOff R hbd hkp hkh p2
    have cx := c_X4_callOff E a kh lt ls lw lh lx (nI kh) (zf kh) (qf kh) (uf kh) (tf kh) (cf kh) p1 p2 eh4 oc f1
    rcases h3 with ⟨e, he, hm, hq⟩ | ⟨v, he, ht, hv, hq⟩
    · subst he
      exact absurd hm List.not_mem_nil
    · subst he
      refine g_callSL (As := [.ref (a 0), .int p1, .int p2, .ref o1]) (n9 := 4) (st := []) (S := wM E b th ma st ti sp we ho sa ca cl su ++ (O2w E o2 fd ++ (wHl E a zf qf uf tf cf (hO kh) ++ wX0 E a 13 rt rc))) C (c_L_callOff E o1 (a 0) fo p1 p2 cx rfl (fun x hx => nomatch hx)) gL_law_L_callOff rfl (by decide +kernel) rfl ⟨by decide, by decide, show k + 1 ≤ 603072 from by omega, show n + 6 ≤ 7211114 from by omega, by decide⟩ (by unfold WW; exact pm1 _ _ _ _ _ _ _ _ _ _ (hh_1 hkh)) dL_law_408 ?_
      refine g_perm (ws2 := WW E a b o1 o2 (vp_updL fo 0 (if bI (v.1) = 0 then 0 else 1)) fd lt ls lw lh v.2.1 rt rc (ups zf kh (zf kh)) (ups qf kh v.2.2) (ups uf kh (uf kh)) (ups tf kh (tf kh)) (ups cf kh (cf kh)) th ma st ti sp we ho sa ca cl su) (by unfold WW; exact (pm1 _ _ _ _ _ _ _ _ _ _ (hh_1u hkh).symm).symm) ?_
      exact tail_callOff C S hin e1 e2 K (show k + 1 ≤ k + 4 from by omega) (show n + 6 ≤ n + 24 from by omega) hk2 hn2 f2 ht (fun _ => (updL0 _ _).trans (by rw [hv])) hq hrb
  · have hpb : p1.toInt < 0 ∨ 4 ≤ p1.toInt := by omega
    obtain ⟨f1, f2⟩ := bad_callOff (ma := ma) (ho := ho) (sa := sa) hpb p2
    have cx := c_X4_callOff_bad E a p1 p2 (fun h9 => houseAt_no hpb h9) (.inl "java/lang/IndexOutOfBoundsException") f1
    have hm : ("java/lang/IndexOutOfBoundsException", (1 : Int32)) ∈ ([("java/lang/IndexOutOfBoundsException", 1)] : List (String × Int32)) := by simp
    have he2 := ex_callOff hm
    refine g_callSL (As := [.ref (a 0), .int p1, .int p2, .ref o1]) (n9 := 4) (st := []) (S := wM E b th ma st ti sp we ho sa ca cl su ++ (O2w E o2 fd ++ (wX2 E a 2 lt ls lw lh lx ++ (wHl E a zf qf uf tf cf [0, 1, 2, 3] ++ wX0 E a 13 rt rc)))) C (c_L_callOff E o1 (a 0) fo p1 p2 cx rfl (fun x hx => by cases hx; exact he2.1)) gL_law_L_callOff rfl (by decide +kernel) rfl ⟨by decide, by decide, show k + 1 ≤ 603072 from by omega, show n + 6 ≤ 7211114 from by omega, by decide⟩ (by unfold WW; exact pm0 _ _ _ _ _ _ _ _) dL_law_408 ?_
    refine g_perm (ws2 := WW E a b o1 o2 fo fd lt ls lw lh lx rt rc zf qf uf tf cf th ma st ti sp we ho sa ca cl su) (by unfold WW; exact (pm0 _ _ _ _ _ _ _ _).symm) ?_
    exact tail_callOff C S hin e1 e2 K (show k + 1 ≤ k + 4 from by omega) (show n + 6 ≤ n + 24 from by omega) hk2 hn2 f2 he2.2.1 (fun h9 => absurd h9 he2.2.2) (RL_mono R (by omega)) hrb
set_option maxHeartbeats 4000000 in
set_option maxRecDepth 100000 in
theorem tail_callOffAll (C : Cx E X cL_law 9 RL wsL_law room_1 ret hh) (S : Sx X sb Ln xs) (hin : ∀ c : Int32, 1 ≤ c.toInt → c.toInt ≤ 6 → vp_in (i5 + c) Ln) (e1 : xs (i5 + 1).toNatClampNeg = p1) (e2 : xs (i5 + 2).toNatClampNeg = p2) (e3 : xs (i5 + 3).toNatClampNeg = p3) {k1 n1 : Nat} (K : Kont E X a b o1 o2 sb i5 bd k n) (hk : k1 ≤ k + 4) (hn : n1 ≤ n + 24) (hk2 : k + 4 ≤ 603072) (hn2 : n + 24 ≤ 7211114) {κ : Int32} {r : _} (hr : f_X5_callOffAll ma ti ho sa p1 p2 p3 = some r) (hth : r.2.1 = κ) (hv : κ = 0 → fo (0 : Int32).toNatClampNeg = r.1.toInt64) (hq : RQ (bd + 120) lt ls lw lh lx zf qf uf tf cf ma st ti sp we ho r.2.2 ca cl) (hb : rb rt rc) : Gx E X (WW E a b o1 o2 fo fd lt ls lw lh lx rt rc zf qf uf tf cf th ma st ti sp we ho sa ca cl su) 9 (lv0 sb a b o1 o2 i5) [.int κ] 492 k1 n1 := by
  refine g_room hk hn ?_
  refine g_istore C (lv2 := [(6, .int κ), (5, .int i5), (0, .ref sb), (1, .ref (a 0)), (2, .ref (b 0)), (3, .ref o1), (4, .ref o2)]) rfl (by decide) dL_law_492 ?_
  refine g_aload_n C 4 rfl rfl dL_law_494 ?_
  refine g_aload_n C 2 rfl rfl dL_law_495 ?_
  refine g_iload C 1 rfl dL_law_496 ?_
  refine g_iconst C (v := 1) (by decide) dL_law_498 ?_
  refine g_iadd C dL_law_499 ?_
  refine g_sldv C S (hin 1 (by decide) (by decide)) e1 dL_law_500 ?_
  refine g_aload_n C 2 rfl rfl dL_law_501 ?_
  refine g_iload C 1 rfl dL_law_502 ?_
  refine g_iconst C (v := 2) (by decide) dL_law_504 ?_
  refine g_iadd C dL_law_505 ?_
  refine g_sldv C S (hin 2 (by decide) (by decide)) e2 dL_law_506 ?_
  refine g_aload_n C 2 rfl rfl dL_law_507 ?_
  refine g_iload C 1 rfl dL_law_508 ?_
  refine g_iconst C (v := 3) (by decide) dL_law_510 ?_
  refine g_iadd C dL_law_511 ?_
  refine g_sldv C S (hin 3 (by decide) (by decide)) e3 dL_law_512 ?_
  refine g_callVL (As := [.int p1, .int p2, .int p3]) (n9 := 3) (st := []) C (c_X5_callOffAll E b th ma st ti sp we ho sa ca cl su p1 p2 p3 r hr) gL_law_X5_callOffAll rfl (by decide +kernel) rfl ⟨by decide, by decide, hk2, hn2, by decide⟩ 0 rfl rfl (List.Perm.refl _) dL_law_513 ?_
  refine g_istore C (lv2 := [(7, .int r.1), (6, .int κ), (5, .int i5), (0, .ref sb), (1, .ref (a 0)), (2, .ref (b 0)), (3, .ref o1), (4, .ref o2)]) rfl (by decide) dL_law_516 ?_
  refine g_aload_n C 5 rfl rfl dL_law_518 ?_
  refine g_callVL (As := []) (n9 := 0) (st := []) C (c_X5_thrown E b r.2.1 ma st ti sp we ho r.2.2 ca cl su r.2.1 rfl) gL_law_X5_thrown rfl (by decide +kernel) rfl ⟨by decide, by decide, hk2, hn2, by decide⟩ 0 rfl rfl (List.Perm.refl _) dL_law_519 ?_
  refine g_iload C 1 rfl dL_law_522 ?_
  refine g_icmp_eq (tgt := 529) C dL_law_524 (by decide) (fun _ => ?_) (fun h9 => absurd hth h9)
  refine g_iload C 1 rfl dL_law_529 ?_
  refine g_if_ne (tgt := 546) C dL_law_531 (by decide) (fun _ => ?_) (fun hz => ?_)
  · refine g_goto (tgt := 2256) C dL_law_546 (by decide) ?_
    refine g_lvs [2, 3, 4, 5, 6, 7] rfl ?_
    exact K hq hb
  · refine g_aload_n C 6 rfl rfl dL_law_534 ?_
    refine g_iconst C (v := 0) (by decide) dL_law_535 ?_
    refine g_lald C 9 rfl (inB_in (by decide +kernel)) dL_law_536 ?_
    refine g_iload C 0 rfl dL_law_537 ?_
    refine g_i2l C dL_law_539 ?_
    refine g_lcmp C dL_law_540 ?_
    refine g_if_eq (tgt := 546) C dL_law_541 (by decide) (fun _ => ?_) (fun h9 => absurd (by rw [hv hz]; exact cmp0 _) h9)
    refine g_goto (tgt := 2256) C dL_law_546 (by decide) ?_
    refine g_lvs [2, 3, 4, 5, 6, 7] rfl ?_
    exact K hq hb
theorem ex_callOffAll {e : String} {t9 : Int32} (h : (e, t9) ∈ ([("java/lang/IndexOutOfBoundsException", 1), ("java/lang/IllegalArgumentException", 2)] : List (String × Int32))) : (e = "java/lang/IndexOutOfBoundsException" ∨ e = "java/lang/IllegalArgumentException") ∧ t9 = ec_callOffAll e ∧ ec_callOffAll e ≠ 0 := by
  have h2 : (e = "java/lang/IndexOutOfBoundsException" ∧ t9 = 1) ∨ (e = "java/lang/IllegalArgumentException" ∧ t9 = 2) := by simpa using h
  rcases h2 with ⟨rfl, h8⟩ | ⟨rfl, h8⟩ <;> subst h8 <;> refine ⟨by simp, by simp [ec_callOffAll], by simp [ec_callOffAll]⟩
set_option maxHeartbeats 4000000 in
set_option maxRecDepth 100000 in
theorem case_callOffAll (C : Cx E X cL_law 9 RL wsL_law room_1 ret hh) (S : Sx X sb Ln xs) (hin : ∀ c : Int32, 1 ≤ c.toInt → c.toInt ≤ 6 → vp_in (i5 + c) Ln) (e1 : xs (i5 + 1).toNatClampNeg = p1) (e2 : xs (i5 + 2).toNatClampNeg = p2) (e3 : xs (i5 + 3).toNatClampNeg = p3) (K : Kont E X a b o1 o2 sb i5 bd k n) (hk2 : k + 4 ≤ 603072) (hn2 : n + 24 ≤ 7211114) (R : RQ bd lt ls lw lh lx zf qf uf tf cf ma st ti sp we ho sa ca cl) (hbd : bd ≤ 900000) (hrb : rb rt rc) : Gx E X (WW E a b o1 o2 fo fd lt ls lw lh lx rt rc zf qf uf tf cf th ma st ti sp we ho sa ca cl su) 9 (lv0 sb a b o1 o2 i5) [] 469 k n := by
  refine g_aload_n C 2 rfl rfl dL_law_469 ?_
  refine g_aload_n C 1 rfl rfl dL_law_470 ?_
  refine g_iload C 0 rfl dL_law_471 ?_
  refine g_iconst C (v := 1) (by decide) dL_law_473 ?_
  refine g_iadd C dL_law_474 ?_
  refine g_sldv C S (hin 1 (by decide) (by decide)) e1 dL_law_475 ?_
  refine g_aload_n C 1 rfl rfl dL_law_476 ?_
  refine g_iload C 0 rfl dL_law_477 ?_
  refine g_iconst C (v := 2) (by decide) dL_law_479 ?_
  refine g_iadd C dL_law_480 ?_
  refine g_sldv C S (hin 2 (by decide) (by decide)) e2 dL_law_481 ?_
  refine g_aload_n C 1 rfl rfl dL_law_482 ?_
  refine g_iload C 0 rfl dL_law_483 ?_
  refine g_iconst C (v := 3) (by decide) dL_law_485 ?_
  refine g_iadd C dL_law_486 ?_
  refine g_sldv C S (hin 3 (by decide) (by decide)) e3 dL_law_487 ?_
  refine g_aload_n C 4 rfl rfl dL_law_488 ?_
  by_cases hv1 : 0 ≤ p1.toInt ∧ p1.toInt < 4
  · obtain ⟨kh, hkp, hkh⟩ : ∃ kh : Nat, p1.toInt = kh ∧ kh < 4 := ⟨p1.toInt.toNat, by omega, by omega⟩
    have eh4 := houseAt_t hkp hkh
    obtain ⟨oc, r, f1, f2, h3⟩ := st_callOffAll R hbd hkp hkh p2 p3
    have cx := c_X4_callOffAll E a kh lt ls lw lh lx (nI kh) (zf kh) (qf kh) (uf kh) (tf kh) (cf kh) p1 p2 p3 eh4 oc f1
    rcases h3 with ⟨e, he, hm, hq⟩ | ⟨v, he, ht, hv, hq⟩
    · subst he
      have hm : (e, r.2.1) ∈ ([("java/lang/IndexOutOfBoundsException", 1), ("java/lang/IllegalArgumentException", 2)] : List (String × Int32)) := List.mem_cons_of_mem _ hm
      have he2 := ex_callOffAll hm
      refine g_callSL (As := [.ref (a 0), .int p1, .int p2, .int p3, .ref o1]) (n9 := 5) (st := []) (S := wM E b th ma st ti sp we ho sa ca cl su ++ (O2w E o2 fd ++ (wHl E a zf qf uf tf cf (hO kh) ++ wX0 E a 13 rt rc))) C (c_L_callOffAll E o1 (a 0) fo p1 p2 p3 cx rfl (fun x hx => by cases hx; exact he2.1)) gL_law_L_callOffAll rfl (by decide +kernel) rfl ⟨by decide, by decide, show k + 2 ≤ 603072 from by omega, show n + 12 ≤ 7211114 from by omega, by decide⟩ (by unfold WW; exact pm1 _ _ _ _ _ _ _ _ _ _ (hh_1 hkh)) dL_law_489 ?_
      refine g_perm (ws2 := WW E a b o1 o2 fo fd lt ls lw lh lx rt rc zf qf uf tf cf th ma st ti sp we ho sa ca cl su) (by unfold WW; exact (pm1 _ _ _ _ _ _ _ _ _ _ (hh_1 hkh)).symm) ?_
      exact tail_callOffAll C S hin e1 e2 e3 K (show k + 2 ≤ k + 4 from by omega) (show n + 12 ≤ n + 24 from by omega) hk2 hn2 f2 he2.2.1 (fun h9 => absurd h9 he2.2.2) hq hrb
    · subst he
      refine g_callSL (As := [.ref (a 0), .int p1, .int p2, .int p3, .ref o1]) (n9 := 5) (st := []) (S := wM E b th ma st ti sp we ho sa ca cl su ++ (O2w E o2 fd ++ (wHl E a zf qf uf tf cf (hO kh) ++ wX0 E a 13 rt rc))) C (c_L_callOffAll E o1 (a 0) fo p1 p2 p3 cx rfl (fun x hx => nomatch hx)) gL_law_L_callOffAll rfl (by decide +kernel) rfl ⟨by decide, by decide, show k + 2 ≤ 603072 from by omega, show n + 12 ≤ 7211114 from by omega, by decide⟩ (by unfold WW; exact pm1 _ _ _ _ _ _ _ _ _ _ (hh_1 hkh)) dL_law_489 ?_
      refine g_perm (ws2 := WW E a b o1 o2 (vp_updL fo 0 (v.1).toInt64) fd lt ls lw lh v.2.1 rt rc (ups zf kh (zf kh)) (ups qf kh v.2.2) (ups uf kh (uf kh)) (ups tf kh (tf kh)) (ups cf kh (cf kh)) th ma st ti sp we ho sa ca cl su) (by unfold WW; exact (pm1 _ _ _ _ _ _ _ _ _ _ (hh_1u hkh).symm).symm) ?_
      exact tail_callOffAll C S hin e1 e2 e3 K (show k + 2 ≤ k + 4 from by omega) (show n + 12 ≤ n + 24 from by omega) hk2 hn2 f2 ht (fun _ => (updL0 _ _).trans (congrArg Int32.toInt64 hv)) hq hrb
  · have hpb : p1.toInt < 0 ∨ 4 ≤ p1.toInt := by omega
    obtain ⟨f1, f2⟩ := bad_callOffAll (ma := ma) (ti := ti) (ho := ho) (sa := sa) hpb p2 p3
    have cx := c_X4_callOffAll_bad E a p1 p2 p3 (fun h9 => houseAt_no hpb h9) (.inl "java/lang/IndexOutOfBoundsException") f1
    have hm : ("java/lang/IndexOutOfBoundsException", (1 : Int32)) ∈ ([("java/lang/IndexOutOfBoundsException", 1), ("java/lang/IllegalArgumentException", 2)] : List (String × Int32)) := by simp
    have he2 := ex_callOffAll hm
    refine g_callSL (As := [.ref (a 0), .int p1, .int p2, .int p3, .ref o1]) (n9 := 5) (st := []) (S := wM E b th ma st ti sp we ho sa ca cl su ++ (O2w E o2 fd ++ (wX2 E a 2 lt ls lw lh lx ++ (wHl E a zf qf uf tf cf [0, 1, 2, 3] ++ wX0 E a 13 rt rc)))) C (c_L_callOffAll E o1 (a 0) fo p1 p2 p3 cx rfl (fun x hx => by cases hx; exact he2.1)) gL_law_L_callOffAll rfl (by decide +kernel) rfl ⟨by decide, by decide, show k + 2 ≤ 603072 from by omega, show n + 12 ≤ 7211114 from by omega, by decide⟩ (by unfold WW; exact pm0 _ _ _ _ _ _ _ _) dL_law_489 ?_
    refine g_perm (ws2 := WW E a b o1 o2 fo fd lt ls lw lh lx rt rc zf qf uf tf cf th ma st ti sp we ho sa ca cl su) (by unfold WW; exact (pm0 _ _ _ _ _ _ _ _).symm) ?_
    exact tail_callOffAll C S hin e1 e2 e3 K (show k + 2 ≤ k + 4 from by omega) (show n + 12 ≤ n + 24 from by omega) hk2 hn2 f2 he2.2.1 (fun h9 => absurd h9 he2.2.2) (RL_mono R (by omega)) hrb
set_option maxHeartbeats 4000000 in
set_option maxRecDepth 100000 in
theorem tail_put (C : Cx E X cL_law 9 RL wsL_law room_1 ret hh) (S : Sx X sb Ln xs) (hin : ∀ c : Int32, 1 ≤ c.toInt → c.toInt ≤ 6 → vp_in (i5 + c) Ln) (e1 : xs (i5 + 1).toNatClampNeg = p1) (e2 : xs (i5 + 2).toNatClampNeg = p2) (e3 : xs (i5 + 3).toNatClampNeg = p3) {k1 n1 : Nat} (K : Kont E X a b o1 o2 sb i5 bd k n) (hk : k1 ≤ k + 4) (hn : n1 ≤ n + 24) (hk2 : k + 4 ≤ 603072) (hn2 : n + 24 ≤ 7211114) {κ : Int32} {r : _} (hr : f_X5_put ma ti ho sa cl p1 p2 p3 = some r) (hth : r.2.1 = κ) (hv : κ = 0 → fo (0 : Int32).toNatClampNeg = r.1.toInt64) (hq : RQ (bd + 120) lt ls lw lh lx zf qf uf tf cf ma st r.2.2 sp we ho sa ca cl) (hb : rb rt rc) : Gx E X (WW E a b o1 o2 fo fd lt ls lw lh lx rt rc zf qf uf tf cf th ma st ti sp we ho sa ca cl su) 9 (lv0 sb a b o1 o2 i5) [.int κ] 572 k1 n1 := by
  refine g_room hk hn ?_
  refine g_istore C (lv2 := [(6, .int κ), (5, .int i5), (0, .ref sb), (1, .ref (a 0)), (2, .ref (b 0)), (3, .ref o1), (4, .ref o2)]) rfl (by decide) dL_law_572 ?_
  refine g_aload_n C 4 rfl rfl dL_law_574 ?_
  refine g_aload_n C 2 rfl rfl dL_law_575 ?_
  refine g_iload C 1 rfl dL_law_576 ?_
  refine g_iconst C (v := 1) (by decide) dL_law_578 ?_
  refine g_iadd C dL_law_579 ?_
  refine g_sldv C S (hin 1 (by decide) (by decide)) e1 dL_law_580 ?_
  refine g_aload_n C 2 rfl rfl dL_law_581 ?_
  refine g_iload C 1 rfl dL_law_582 ?_
  refine g_iconst C (v := 2) (by decide) dL_law_584 ?_
  refine g_iadd C dL_law_585 ?_
  refine g_sldv C S (hin 2 (by decide) (by decide)) e2 dL_law_586 ?_
  refine g_aload_n C 2 rfl rfl dL_law_587 ?_
  refine g_iload C 1 rfl dL_law_588 ?_
  refine g_iconst C (v := 3) (by decide) dL_law_590 ?_
  refine g_iadd C dL_law_591 ?_
  refine g_sldv C S (hin 3 (by decide) (by decide)) e3 dL_law_592 ?_
  refine g_callVL (As := [.int p1, .int p2, .int p3]) (n9 := 3) (st := []) C (c_X5_put E b th ma st ti sp we ho sa ca cl su p1 p2 p3 r hr) gL_law_X5_put rfl (by decide +kernel) rfl ⟨by decide, by decide, hk2, hn2, by decide⟩ 0 rfl rfl (List.Perm.refl _) dL_law_593 ?_
  refine g_istore C (lv2 := [(7, .int r.1), (6, .int κ), (5, .int i5), (0, .ref sb), (1, .ref (a 0)), (2, .ref (b 0)), (3, .ref o1), (4, .ref o2)]) rfl (by decide) dL_law_596 ?_
  refine g_aload_n C 5 rfl rfl dL_law_598 ?_
  refine g_callVL (As := []) (n9 := 0) (st := []) C (c_X5_thrown E b r.2.1 ma st r.2.2 sp we ho sa ca cl su r.2.1 rfl) gL_law_X5_thrown rfl (by decide +kernel) rfl ⟨by decide, by decide, hk2, hn2, by decide⟩ 0 rfl rfl (List.Perm.refl _) dL_law_599 ?_
  refine g_iload C 1 rfl dL_law_602 ?_
  refine g_icmp_eq (tgt := 609) C dL_law_604 (by decide) (fun _ => ?_) (fun h9 => absurd hth h9)
  refine g_iload C 1 rfl dL_law_609 ?_
  refine g_if_ne (tgt := 626) C dL_law_611 (by decide) (fun _ => ?_) (fun hz => ?_)
  · refine g_goto (tgt := 2256) C dL_law_626 (by decide) ?_
    refine g_lvs [2, 3, 4, 5, 6, 7] rfl ?_
    exact K hq hb
  · refine g_aload_n C 6 rfl rfl dL_law_614 ?_
    refine g_iconst C (v := 0) (by decide) dL_law_615 ?_
    refine g_lald C 9 rfl (inB_in (by decide +kernel)) dL_law_616 ?_
    refine g_iload C 0 rfl dL_law_617 ?_
    refine g_i2l C dL_law_619 ?_
    refine g_lcmp C dL_law_620 ?_
    refine g_if_eq (tgt := 626) C dL_law_621 (by decide) (fun _ => ?_) (fun h9 => absurd (by rw [hv hz]; exact cmp0 _) h9)
    refine g_goto (tgt := 2256) C dL_law_626 (by decide) ?_
    refine g_lvs [2, 3, 4, 5, 6, 7] rfl ?_
    exact K hq hb
theorem ex_put {e : String} {t9 : Int32} (h : (e, t9) ∈ ([("java/lang/IndexOutOfBoundsException", 1), ("java/lang/IllegalArgumentException", 2), ("java/util/NoSuchElementException", 3), ("java/lang/IllegalStateException", 4)] : List (String × Int32))) : (e = "java/lang/IndexOutOfBoundsException" ∨ e = "java/lang/IllegalArgumentException" ∨ e = "java/util/NoSuchElementException" ∨ e = "java/lang/IllegalStateException") ∧ t9 = ec_put e ∧ ec_put e ≠ 0 := by
  have h2 : (e = "java/lang/IndexOutOfBoundsException" ∧ t9 = 1) ∨ (e = "java/lang/IllegalArgumentException" ∧ t9 = 2) ∨ (e = "java/util/NoSuchElementException" ∧ t9 = 3) ∨ (e = "java/lang/IllegalStateException" ∧ t9 = 4) := by simpa using h
  rcases h2 with ⟨rfl, h8⟩ | ⟨rfl, h8⟩ | ⟨rfl, h8⟩ | ⟨rfl, h8⟩ <;> subst h8 <;> refine ⟨by simp, by simp [ec_put], by simp [ec_put]⟩
set_option maxHeartbeats 4000000 in
set_option maxRecDepth 100000 in
theorem case_put (C : Cx E X cL_law 9 RL wsL_law room_1 ret hh) (S : Sx X sb Ln xs) (hin : ∀ c : Int32, 1 ≤ c.toInt → c.toInt ≤ 6 → vp_in (i5 + c) Ln) (e1 : xs (i5 + 1).toNatClampNeg = p1) (e2 : xs (i5 + 2).toNatClampNeg = p2) (e3 : xs (i5 + 3).toNatClampNeg = p3) (K : Kont E X a b o1 o2 sb i5 bd k n) (hk2 : k + 4 ≤ 603072) (hn2 : n + 24 ≤ 7211114) (R : RQ bd lt ls lw lh lx zf qf uf tf cf ma st ti sp we ho sa ca cl) (hbd : bd ≤ 900000) (hrb : rb rt rc) : Gx E X (WW E a b o1 o2 fo fd lt ls lw lh lx rt rc zf qf uf tf cf th ma st ti sp we ho sa ca cl su) 9 (lv0 sb a b o1 o2 i5) [] 549 k n := by
  refine g_aload_n C 2 rfl rfl dL_law_549 ?_
  refine g_aload_n C 1 rfl rfl dL_law_550 ?_
  refine g_iload C 0 rfl dL_law_551 ?_
  refine g_iconst C (v := 1) (by decide) dL_law_553 ?_
  refine g_iadd C dL_law_554 ?_
  refine g_sldv C S (hin 1 (by decide) (by decide)) e1 dL_law_555 ?_
  refine g_aload_n C 1 rfl rfl dL_law_556 ?_
  refine g_iload C 0 rfl dL_law_557 ?_
  refine g_iconst C (v := 2) (by decide) dL_law_559 ?_
  refine g_iadd C dL_law_560 ?_
  refine g_sldv C S (hin 2 (by decide) (by decide)) e2 dL_law_561 ?_
  refine g_aload_n C 1 rfl rfl dL_law_562 ?_
  refine g_iload C 0 rfl dL_law_563 ?_
  refine g_iconst C (v := 3) (by decide) dL_law_565 ?_
  refine g_iadd C dL_law_566 ?_
  refine g_sldv C S (hin 3 (by decide) (by decide)) e3 dL_law_567 ?_
  refine g_aload_n C 4 rfl rfl dL_law_568 ?_
  by_cases hv1 : 0 ≤ p1.toInt ∧ p1.toInt < 4
  · obtain ⟨kh, hkp, hkh⟩ : ∃ kh : Nat, p1.toInt = kh ∧ kh < 4 := ⟨p1.toInt.toNat, by omega, by omega⟩
    have eh4 := houseAt_t hkp hkh
    obtain ⟨oc, r, f1, f2, h3⟩ := st_put R hbd hkp hkh p2 p3
    have cx := c_X4_put E a kh lt ls lw lh lx (nI kh) (zf kh) (qf kh) (uf kh) (tf kh) (cf kh) p1 p2 p3 eh4 oc f1
    rcases h3 with ⟨e, he, hm, hq⟩ | ⟨v, he, ht, hv, hq⟩
    · subst he
      have hm : (e, r.2.1) ∈ ([("java/lang/IndexOutOfBoundsException", 1), ("java/lang/IllegalArgumentException", 2), ("java/util/NoSuchElementException", 3), ("java/lang/IllegalStateException", 4)] : List (String × Int32)) := List.mem_cons_of_mem _ hm
      have he2 := ex_put hm
      refine g_callSL (As := [.ref (a 0), .int p1, .int p2, .int p3, .ref o1]) (n9 := 5) (st := []) (S := wM E b th ma st ti sp we ho sa ca cl su ++ (O2w E o2 fd ++ (wHl E a zf qf uf tf cf (hO kh) ++ wX0 E a 13 rt rc))) C (c_L_put E o1 (a 0) fo p1 p2 p3 cx rfl (fun x hx => by cases hx; exact he2.1)) gL_law_L_put rfl (by decide +kernel) rfl ⟨by decide, by decide, show k + 3 ≤ 603072 from by omega, show n + 18 ≤ 7211114 from by omega, by decide⟩ (by unfold WW; exact pm1 _ _ _ _ _ _ _ _ _ _ (hh_1 hkh)) dL_law_569 ?_
      refine g_perm (ws2 := WW E a b o1 o2 fo fd lt ls lw lh lx rt rc zf qf uf tf cf th ma st ti sp we ho sa ca cl su) (by unfold WW; exact (pm1 _ _ _ _ _ _ _ _ _ _ (hh_1 hkh)).symm) ?_
      exact tail_put C S hin e1 e2 e3 K (show k + 3 ≤ k + 4 from by omega) (show n + 18 ≤ n + 24 from by omega) hk2 hn2 f2 he2.2.1 (fun h9 => absurd h9 he2.2.2) hq hrb
    · subst he
      refine g_callSL (As := [.ref (a 0), .int p1, .int p2, .int p3, .ref o1]) (n9 := 5) (st := []) (S := wM E b th ma st ti sp we ho sa ca cl su ++ (O2w E o2 fd ++ (wHl E a zf qf uf tf cf (hO kh) ++ wX0 E a 13 rt rc))) C (c_L_put E o1 (a 0) fo p1 p2 p3 cx rfl (fun x hx => nomatch hx)) gL_law_L_put rfl (by decide +kernel) rfl ⟨by decide, by decide, show k + 3 ≤ 603072 from by omega, show n + 18 ≤ 7211114 from by omega, by decide⟩ (by unfold WW; exact pm1 _ _ _ _ _ _ _ _ _ _ (hh_1 hkh)) dL_law_569 ?_
      refine g_perm (ws2 := WW E a b o1 o2 (vp_updL fo 0 (v.1).toInt64) fd v.2.1 ls lw v.2.2.1 v.2.2.2.1 rt rc (ups zf kh (zf kh)) (ups qf kh v.2.2.2.2) (ups uf kh (uf kh)) (ups tf kh (tf kh)) (ups cf kh (cf kh)) th ma st ti sp we ho sa ca cl su) (by unfold WW; exact (pm1 _ _ _ _ _ _ _ _ _ _ (hh_1u hkh).symm).symm) ?_
      exact tail_put C S hin e1 e2 e3 K (show k + 3 ≤ k + 4 from by omega) (show n + 18 ≤ n + 24 from by omega) hk2 hn2 f2 ht (fun _ => (updL0 _ _).trans (congrArg Int32.toInt64 hv)) hq hrb
  · have hpb : p1.toInt < 0 ∨ 4 ≤ p1.toInt := by omega
    obtain ⟨f1, f2⟩ := bad_put (ma := ma) (ti := ti) (ho := ho) (sa := sa) (cl := cl) hpb p2 p3
    have cx := c_X4_put_bad E a p1 p2 p3 (fun h9 => houseAt_no hpb h9) (.inl "java/lang/IndexOutOfBoundsException") f1
    have hm : ("java/lang/IndexOutOfBoundsException", (1 : Int32)) ∈ ([("java/lang/IndexOutOfBoundsException", 1), ("java/lang/IllegalArgumentException", 2), ("java/util/NoSuchElementException", 3), ("java/lang/IllegalStateException", 4)] : List (String × Int32)) := by simp
    have he2 := ex_put hm
    refine g_callSL (As := [.ref (a 0), .int p1, .int p2, .int p3, .ref o1]) (n9 := 5) (st := []) (S := wM E b th ma st ti sp we ho sa ca cl su ++ (O2w E o2 fd ++ (wX2 E a 2 lt ls lw lh lx ++ (wHl E a zf qf uf tf cf [0, 1, 2, 3] ++ wX0 E a 13 rt rc)))) C (c_L_put E o1 (a 0) fo p1 p2 p3 cx rfl (fun x hx => by cases hx; exact he2.1)) gL_law_L_put rfl (by decide +kernel) rfl ⟨by decide, by decide, show k + 3 ≤ 603072 from by omega, show n + 18 ≤ 7211114 from by omega, by decide⟩ (by unfold WW; exact pm0 _ _ _ _ _ _ _ _) dL_law_569 ?_
    refine g_perm (ws2 := WW E a b o1 o2 fo fd lt ls lw lh lx rt rc zf qf uf tf cf th ma st ti sp we ho sa ca cl su) (by unfold WW; exact (pm0 _ _ _ _ _ _ _ _).symm) ?_
    exact tail_put C S hin e1 e2 e3 K (show k + 3 ≤ k + 4 from by omega) (show n + 18 ≤ n + 24 from by omega) hk2 hn2 f2 he2.2.1 (fun h9 => absurd h9 he2.2.2) (RL_mono R (by omega)) hrb
end LC1
