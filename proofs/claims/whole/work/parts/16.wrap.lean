/-! the law's own small methods -/
abbrev r_L_book : Room := { frames := 10, cells := 2, slots := 12, locals := 176 }
def ec_book : String → Int32 := fun x => if x = "java/lang/IndexOutOfBoundsException" then 1 else if x = "java/lang/IllegalArgumentException" then 2 else if x = "java/lang/IllegalStateException" then 3 else 0
theorem m_L_book_0 : Cond.classLink RL 13 "java/lang/IndexOutOfBoundsException" ∈ wsL_book := by decide +kernel
theorem m_L_book_1 : Cond.classLink RL 15 "java/lang/IllegalArgumentException" ∈ wsL_book := by decide +kernel
theorem m_L_book_2 : Cond.classLink RL 17 "java/lang/IllegalStateException" ∈ wsL_book := by decide +kernel
set_option maxHeartbeats 4000000 in
set_option maxRecDepth 100000 in
theorem c_L_book {α : Type} (E : gE) (o1 x0 : Nat) (fo : Nat → Int64) (p1 : Int32) (p2 : Int32) (p3 : Int32) (p4 : Int32) {wx : va_W} {wr : α → va_W} {V : α → Int32} {oc : String ⊕ α} {fs : List Value} (hM : Ct E yX4_book wsX4_book r_X4_book [.ref x0, .int p1, .int p2, .int p3, .int p4] wx (gO (fun a => some (.int (V a))) wr oc)) (hb0 : wx[0]? = some (x0, .inr (6, fs))) (hex : ∀ x, oc = .inl x → x = "java/lang/IndexOutOfBoundsException" ∨ x = "java/lang/IllegalArgumentException" ∨ x = "java/lang/IllegalStateException") : Ct E yL_book wsL_book r_L_book [.ref x0, .int p1, .int p2, .int p3, .int p4, .ref o1] ([(o1, .inl (cJ E, 1, .inr (.inl fo)))] ++ wx) (gO (fun u : Int32 × va_W => some (.int u.1)) (fun u => u.2) (.inr (wRes ec_book ([(o1, .inl (cJ E, 1, .inr (.inl fo)))] ++ wx) (fun a => [(o1, .inl (cJ E, 1, .inr (.inl (vp_updL fo 0 (V a).toInt64))))] ++ wr a) oc))) := by
  refine Ct.ofH (cc := cL_book) (nL := 7) (ret := (some .int)) (own := RL) (hh := [(0, 14, 17, 13), (0, 14, 21, 15), (0, 14, 25, 17)]) (by decide) rfl rfl (Nat.le_of_ble_eq_true rfl) rfl ?_ ?_
  · intro v w9 hh9
    cases oc with
    | inl x => cases hh9; rfl
    | inr a =>
      have had := hM.1 _ _ rfl
      cases hh9
      simp only [wRes, gAd, List.map_append, List.map_cons, List.map_nil] at had ⊢
      rw [had]
  · intro X C hQ
    refine g_aload C 5 rfl dL_book_0 ?_
    refine g_iconst C (v := 0) (by decide) dL_book_2 ?_
    refine g_aload_n C 0 rfl rfl dL_book_3 ?_
    refine g_iload_n C 1 rfl rfl dL_book_4 ?_
    refine g_iload_n C 2 rfl rfl dL_book_5 ?_
    refine g_iload_n C 3 rfl rfl dL_book_6 ?_
    refine g_iload C 4 rfl dL_book_7 ?_
    refine g_callX (As := [.int p1, .int p2, .int p3, .int p4]) (n9 := 4) (st := [.int 0, .ref o1]) (w2 := fun a => [(o1, .inl (cJ E, 1, .inr (.inl fo)))] ++ wr a) C hM gL_book_X4_book rfl (by decide +kernel) rfl ⟨by decide, by decide, by decide, by decide, Nat.le_of_ble_eq_true rfl⟩ 0 hb0 rfl (gSub.post rfl) (fun _ => rfl) dL_book_9 (fun x hx q => ?_) (fun a ha => ?_)
    · rcases hex x hx with rfl | rfl | rfl
      · subst hx
        refine g_catch [] ⟨0, 14, 17, 13⟩ [⟨0, 14, 21, 15⟩, ⟨0, 14, 25, 17⟩] C rfl (fun z hz => nomatch hz) (by decide +kernel) (by decide) m_L_book_0 (by decide +kernel) ?_
        refine g_astore C (lv2 := [(6, .ref q), (0, .ref x0), (1, .int p1), (2, .int p2), (3, .int p3), (4, .int p4), (5, .ref o1)]) rfl (by decide) dL_book_17 ?_
        refine g_iconst C (v := 1) (by decide) dL_book_19 ?_
        exact g_iret C hQ (by simp [gO, wRes, ec_book]) ⟨by decide, by decide⟩ dL_book_20
      · subst hx
        refine g_catch [⟨0, 14, 17, 13⟩] ⟨0, 14, 21, 15⟩ [⟨0, 14, 25, 17⟩] C rfl (List.forall_mem_cons.mpr ⟨⟨by decide, "java/lang/IndexOutOfBoundsException", m_L_book_0, by decide +kernel, by decide⟩, fun z hz => nomatch hz⟩) (by decide +kernel) (by decide) m_L_book_1 (by decide +kernel) ?_
        refine g_astore C (lv2 := [(6, .ref q), (0, .ref x0), (1, .int p1), (2, .int p2), (3, .int p3), (4, .int p4), (5, .ref o1)]) rfl (by decide) dL_book_21 ?_
        refine g_iconst C (v := 2) (by decide) dL_book_23 ?_
        exact g_iret C hQ (by simp [gO, wRes, ec_book]) ⟨by decide, by decide⟩ dL_book_24
      · subst hx
        refine g_catch [⟨0, 14, 17, 13⟩, ⟨0, 14, 21, 15⟩] ⟨0, 14, 25, 17⟩ [] C rfl (List.forall_mem_cons.mpr ⟨⟨by decide, "java/lang/IndexOutOfBoundsException", m_L_book_0, by decide +kernel, by decide⟩, List.forall_mem_cons.mpr ⟨⟨by decide, "java/lang/IllegalArgumentException", m_L_book_1, by decide +kernel, by decide⟩, fun z hz => nomatch hz⟩⟩) (by decide +kernel) (by decide) m_L_book_2 (by decide +kernel) ?_
        refine g_astore C (lv2 := [(6, .ref q), (0, .ref x0), (1, .int p1), (2, .int p2), (3, .int p3), (4, .int p4), (5, .ref o1)]) rfl (by decide) dL_book_25 ?_
        refine g_iconst C (v := 3) (by decide) dL_book_27 ?_
        exact g_iret C hQ (by simp [gO, wRes, ec_book]) ⟨by decide, by decide⟩ dL_book_28
    · subst ha
      refine g_i2l C dL_book_12 ?_
      refine g_last C 0 rfl (ws2 := [(o1, .inl (cJ E, 1, .inr (.inl (vp_updL fo 0 (V a).toInt64))))] ++ wr a) rfl (inB_in (by decide +kernel)) dL_book_13 ?_
      refine g_goto C (tgt := 29) dL_book_14 (by decide) ?_
      refine g_iconst C (v := 0) (by decide) dL_book_29 ?_
      exact g_iret C hQ rfl ⟨by decide, by decide⟩ dL_book_30
abbrev r_L_series : Room := { frames := 10, cells := 2, slots := 12, locals := 180 }
def ec_series : String → Int32 := fun x => if x = "java/lang/IndexOutOfBoundsException" then 1 else if x = "java/lang/IllegalArgumentException" then 2 else if x = "java/lang/IllegalStateException" then 3 else 0
theorem m_L_series_0 : Cond.classLink RL 13 "java/lang/IndexOutOfBoundsException" ∈ wsL_series := by decide +kernel
theorem m_L_series_1 : Cond.classLink RL 15 "java/lang/IllegalArgumentException" ∈ wsL_series := by decide +kernel
theorem m_L_series_2 : Cond.classLink RL 17 "java/lang/IllegalStateException" ∈ wsL_series := by decide +kernel
set_option maxHeartbeats 4000000 in
set_option maxRecDepth 100000 in
theorem c_L_series {α : Type} (E : gE) (o1 x0 : Nat) (fo : Nat → Int64) (p1 : Int32) (p2 : Int32) (p3 : Int32) (p4 : Int32) (p5 : Int32) (p6 : Int32) {wx : va_W} {wr : α → va_W} {V : α → Int32} {oc : String ⊕ α} {fs : List Value} (hM : Ct E yX4_series wsX4_series r_X4_series [.ref x0, .int p1, .int p2, .int p3, .int p4, .int p5, .int p6] wx (gO (fun a => some (.int (V a))) wr oc)) (hb0 : wx[0]? = some (x0, .inr (6, fs))) (hex : ∀ x, oc = .inl x → x = "java/lang/IndexOutOfBoundsException" ∨ x = "java/lang/IllegalArgumentException" ∨ x = "java/lang/IllegalStateException") : Ct E yL_series wsL_series r_L_series [.ref x0, .int p1, .int p2, .int p3, .int p4, .int p5, .int p6, .ref o1] ([(o1, .inl (cJ E, 1, .inr (.inl fo)))] ++ wx) (gO (fun u : Int32 × va_W => some (.int u.1)) (fun u => u.2) (.inr (wRes ec_series ([(o1, .inl (cJ E, 1, .inr (.inl fo)))] ++ wx) (fun a => [(o1, .inl (cJ E, 1, .inr (.inl (vp_updL fo 0 (V a).toInt64))))] ++ wr a) oc))) := by
  refine Ct.ofH (cc := cL_series) (nL := 9) (ret := (some .int)) (own := RL) (hh := [(0, 18, 21, 13), (0, 18, 25, 15), (0, 18, 29, 17)]) (by decide) rfl rfl (Nat.le_of_ble_eq_true rfl) rfl ?_ ?_
  · intro v w9 hh9
    cases oc with
    | inl x => cases hh9; rfl
    | inr a =>
      have had := hM.1 _ _ rfl
      cases hh9
      simp only [wRes, gAd, List.map_append, List.map_cons, List.map_nil] at had ⊢
      rw [had]
  · intro X C hQ
    refine g_aload C 7 rfl dL_series_0 ?_
    refine g_iconst C (v := 0) (by decide) dL_series_2 ?_
    refine g_aload_n C 0 rfl rfl dL_series_3 ?_
    refine g_iload_n C 1 rfl rfl dL_series_4 ?_
    refine g_iload_n C 2 rfl rfl dL_series_5 ?_
    refine g_iload_n C 3 rfl rfl dL_series_6 ?_
    refine g_iload C 4 rfl dL_series_7 ?_
    refine g_iload C 5 rfl dL_series_9 ?_
    refine g_iload C 6 rfl dL_series_11 ?_
    refine g_callX (As := [.int p1, .int p2, .int p3, .int p4, .int p5, .int p6]) (n9 := 6) (st := [.int 0, .ref o1]) (w2 := fun a => [(o1, .inl (cJ E, 1, .inr (.inl fo)))] ++ wr a) C hM gL_series_X4_series rfl (by decide +kernel) rfl ⟨by decide, by decide, by decide, by decide, Nat.le_of_ble_eq_true rfl⟩ 0 hb0 rfl (gSub.post rfl) (fun _ => rfl) dL_series_13 (fun x hx q => ?_) (fun a ha => ?_)
    · rcases hex x hx with rfl | rfl | rfl
      · subst hx
        refine g_catch [] ⟨0, 18, 21, 13⟩ [⟨0, 18, 25, 15⟩, ⟨0, 18, 29, 17⟩] C rfl (fun z hz => nomatch hz) (by decide +kernel) (by decide) m_L_series_0 (by decide +kernel) ?_
        refine g_astore C (lv2 := [(8, .ref q), (0, .ref x0), (1, .int p1), (2, .int p2), (3, .int p3), (4, .int p4), (5, .int p5), (6, .int p6), (7, .ref o1)]) rfl (by decide) dL_series_21 ?_
        refine g_iconst C (v := 1) (by decide) dL_series_23 ?_
        exact g_iret C hQ (by simp [gO, wRes, ec_series]) ⟨by decide, by decide⟩ dL_series_24
      · subst hx
        refine g_catch [⟨0, 18, 21, 13⟩] ⟨0, 18, 25, 15⟩ [⟨0, 18, 29, 17⟩] C rfl (List.forall_mem_cons.mpr ⟨⟨by decide, "java/lang/IndexOutOfBoundsException", m_L_series_0, by decide +kernel, by decide⟩, fun z hz => nomatch hz⟩) (by decide +kernel) (by decide) m_L_series_1 (by decide +kernel) ?_
        refine g_astore C (lv2 := [(8, .ref q), (0, .ref x0), (1, .int p1), (2, .int p2), (3, .int p3), (4, .int p4), (5, .int p5), (6, .int p6), (7, .ref o1)]) rfl (by decide) dL_series_25 ?_
        refine g_iconst C (v := 2) (by decide) dL_series_27 ?_
        exact g_iret C hQ (by simp [gO, wRes, ec_series]) ⟨by decide, by decide⟩ dL_series_28
      · subst hx
        refine g_catch [⟨0, 18, 21, 13⟩, ⟨0, 18, 25, 15⟩] ⟨0, 18, 29, 17⟩ [] C rfl (List.forall_mem_cons.mpr ⟨⟨by decide, "java/lang/IndexOutOfBoundsException", m_L_series_0, by decide +kernel, by decide⟩, List.forall_mem_cons.mpr ⟨⟨by decide, "java/lang/IllegalArgumentException", m_L_series_1, by decide +kernel, by decide⟩, fun z hz => nomatch hz⟩⟩) (by decide +kernel) (by decide) m_L_series_2 (by decide +kernel) ?_
        refine g_astore C (lv2 := [(8, .ref q), (0, .ref x0), (1, .int p1), (2, .int p2), (3, .int p3), (4, .int p4), (5, .int p5), (6, .int p6), (7, .ref o1)]) rfl (by decide) dL_series_29 ?_
        refine g_iconst C (v := 3) (by decide) dL_series_31 ?_
        exact g_iret C hQ (by simp [gO, wRes, ec_series]) ⟨by decide, by decide⟩ dL_series_32
    · subst ha
      refine g_i2l C dL_series_16 ?_
      refine g_last C 0 rfl (ws2 := [(o1, .inl (cJ E, 1, .inr (.inl (vp_updL fo 0 (V a).toInt64))))] ++ wr a) rfl (inB_in (by decide +kernel)) dL_series_17 ?_
      refine g_goto C (tgt := 33) dL_series_18 (by decide) ?_
      refine g_iconst C (v := 0) (by decide) dL_series_33 ?_
      exact g_iret C hQ rfl ⟨by decide, by decide⟩ dL_series_34
abbrev r_L_callOff : Room := { frames := 10, cells := 1, slots := 6, locals := 165 }
def ec_callOff : String → Int32 := fun x => if x = "java/lang/IndexOutOfBoundsException" then 1 else 0
theorem m_L_callOff_0 : Cond.classLink RL 13 "java/lang/IndexOutOfBoundsException" ∈ wsL_callOff := by decide +kernel
set_option maxHeartbeats 4000000 in
set_option maxRecDepth 100000 in
theorem c_L_callOff {α : Type} (E : gE) (o1 x0 : Nat) (fo : Nat → Int64) (p1 : Int32) (p2 : Int32) {wx : va_W} {wr : α → va_W} {V : α → Bool} {oc : String ⊕ α} {fs : List Value} (hM : Ct E yX4_callOff wsX4_callOff r_X4_callOff [.ref x0, .int p1, .int p2] wx (gO (fun a => some (.int (bI (V a)))) wr oc)) (hb0 : wx[0]? = some (x0, .inr (6, fs))) (hex : ∀ x, oc = .inl x → x = "java/lang/IndexOutOfBoundsException") : Ct E yL_callOff wsL_callOff r_L_callOff [.ref x0, .int p1, .int p2, .ref o1] ([(o1, .inl (cJ E, 1, .inr (.inl fo)))] ++ wx) (gO (fun u : Int32 × va_W => some (.int u.1)) (fun u => u.2) (.inr (wRes ec_callOff ([(o1, .inl (cJ E, 1, .inr (.inl fo)))] ++ wx) (fun a => [(o1, .inl (cJ E, 1, .inr (.inl (vp_updL fo 0 (if bI (V a) = 0 then 0 else 1)))))] ++ wr a) oc))) := by
  refine Ct.ofH (cc := cL_callOff) (nL := 5) (ret := (some .int)) (own := RL) (hh := [(0, 17, 20, 13)]) (by decide) rfl rfl (Nat.le_of_ble_eq_true rfl) rfl ?_ ?_
  · intro v w9 hh9
    cases oc with
    | inl x => cases hh9; rfl
    | inr a =>
      have had := hM.1 _ _ rfl
      cases hh9
      simp only [wRes, gAd, List.map_append, List.map_cons, List.map_nil] at had ⊢
      rw [had]
  · intro X C hQ
    refine g_aload_n C 3 rfl rfl dL_callOff_0 ?_
    refine g_iconst C (v := 0) (by decide) dL_callOff_1 ?_
    refine g_aload_n C 0 rfl rfl dL_callOff_2 ?_
    refine g_iload_n C 1 rfl rfl dL_callOff_3 ?_
    refine g_iload_n C 2 rfl rfl dL_callOff_4 ?_
    refine g_callX (As := [.int p1, .int p2]) (n9 := 2) (st := [.int 0, .ref o1]) (w2 := fun a => [(o1, .inl (cJ E, 1, .inr (.inl fo)))] ++ wr a) C hM gL_callOff_X4_callOff rfl (by decide +kernel) rfl ⟨by decide, by decide, by decide, by decide, Nat.le_of_ble_eq_true rfl⟩ 0 hb0 rfl (gSub.post rfl) (fun _ => rfl) dL_callOff_5 (fun x hx q => ?_) (fun a ha => ?_)
    · have hx2 := hex x hx
      subst hx2
      subst hx
      refine g_catch [] ⟨0, 17, 20, 13⟩ [] C rfl (fun z hz => nomatch hz) (by decide +kernel) (by decide) m_L_callOff_0 (by decide +kernel) ?_
      refine g_astore C (lv2 := [(4, .ref q), (0, .ref x0), (1, .int p1), (2, .int p2), (3, .ref o1)]) rfl (by decide) dL_callOff_20 ?_
      refine g_iconst C (v := 1) (by decide) dL_callOff_22 ?_
      exact g_iret C hQ (by simp [gO, wRes, ec_callOff]) ⟨by decide, by decide⟩ dL_callOff_23
    · subst ha
      refine g_if_eq C (tgt := 15) dL_callOff_8 (by decide) (fun c9 => ?_) (fun c9 => ?_)
      · refine g_lconst C (v := 0) (by decide) dL_callOff_15 ?_
        refine g_last C 0 rfl (ws2 := [(o1, .inl (cJ E, 1, .inr (.inl (vp_updL fo 0 0))))] ++ wr a) rfl (inB_in (by decide +kernel)) dL_callOff_16 ?_
        refine g_goto C (tgt := 24) dL_callOff_17 (by decide) ?_
        refine g_iconst C (v := 0) (by decide) dL_callOff_24 ?_
        exact g_iret C hQ (by simp [gO, wRes, c9]) ⟨by decide, by decide⟩ dL_callOff_25
      · refine g_lconst C (v := 1) (by decide) dL_callOff_11 ?_
        refine g_goto C (tgt := 16) dL_callOff_12 (by decide) ?_
        refine g_last C 0 rfl (ws2 := [(o1, .inl (cJ E, 1, .inr (.inl (vp_updL fo 0 1))))] ++ wr a) rfl (inB_in (by decide +kernel)) dL_callOff_16 ?_
        refine g_goto C (tgt := 24) dL_callOff_17 (by decide) ?_
        refine g_iconst C (v := 0) (by decide) dL_callOff_24 ?_
        exact g_iret C hQ (by simp [gO, wRes, c9]) ⟨by decide, by decide⟩ dL_callOff_25
abbrev r_L_callOffAll : Room := { frames := 10, cells := 2, slots := 12, locals := 168 }
def ec_callOffAll : String → Int32 := fun x => if x = "java/lang/IndexOutOfBoundsException" then 1 else if x = "java/lang/IllegalArgumentException" then 2 else 0
theorem m_L_callOffAll_0 : Cond.classLink RL 13 "java/lang/IndexOutOfBoundsException" ∈ wsL_callOffAll := by decide +kernel
theorem m_L_callOffAll_1 : Cond.classLink RL 15 "java/lang/IllegalArgumentException" ∈ wsL_callOffAll := by decide +kernel
set_option maxHeartbeats 4000000 in
set_option maxRecDepth 100000 in
theorem c_L_callOffAll {α : Type} (E : gE) (o1 x0 : Nat) (fo : Nat → Int64) (p1 : Int32) (p2 : Int32) (p3 : Int32) {wx : va_W} {wr : α → va_W} {V : α → Int32} {oc : String ⊕ α} {fs : List Value} (hM : Ct E yX4_callOffAll wsX4_callOffAll r_X4_callOffAll [.ref x0, .int p1, .int p2, .int p3] wx (gO (fun a => some (.int (V a))) wr oc)) (hb0 : wx[0]? = some (x0, .inr (6, fs))) (hex : ∀ x, oc = .inl x → x = "java/lang/IndexOutOfBoundsException" ∨ x = "java/lang/IllegalArgumentException") : Ct E yL_callOffAll wsL_callOffAll r_L_callOffAll [.ref x0, .int p1, .int p2, .int p3, .ref o1] ([(o1, .inl (cJ E, 1, .inr (.inl fo)))] ++ wx) (gO (fun u : Int32 × va_W => some (.int u.1)) (fun u => u.2) (.inr (wRes ec_callOffAll ([(o1, .inl (cJ E, 1, .inr (.inl fo)))] ++ wx) (fun a => [(o1, .inl (cJ E, 1, .inr (.inl (vp_updL fo 0 (V a).toInt64))))] ++ wr a) oc))) := by
  refine Ct.ofH (cc := cL_callOffAll) (nL := 6) (ret := (some .int)) (own := RL) (hh := [(0, 12, 15, 13), (0, 12, 19, 15)]) (by decide) rfl rfl (Nat.le_of_ble_eq_true rfl) rfl ?_ ?_
  · intro v w9 hh9
    cases oc with
    | inl x => cases hh9; rfl
    | inr a =>
      have had := hM.1 _ _ rfl
      cases hh9
      simp only [wRes, gAd, List.map_append, List.map_cons, List.map_nil] at had ⊢
      rw [had]
  · intro X C hQ
    refine g_aload C 4 rfl dL_callOffAll_0 ?_
    refine g_iconst C (v := 0) (by decide) dL_callOffAll_2 ?_
    refine g_aload_n C 0 rfl rfl dL_callOffAll_3 ?_
    refine g_iload_n C 1 rfl rfl dL_callOffAll_4 ?_
    refine g_iload_n C 2 rfl rfl dL_callOffAll_5 ?_
    refine g_iload_n C 3 rfl rfl dL_callOffAll_6 ?_
    refine g_callX (As := [.int p1, .int p2, .int p3]) (n9 := 3) (st := [.int 0, .ref o1]) (w2 := fun a => [(o1, .inl (cJ E, 1, .inr (.inl fo)))] ++ wr a) C hM gL_callOffAll_X4_callOffAll rfl (by decide +kernel) rfl ⟨by decide, by decide, by decide, by decide, Nat.le_of_ble_eq_true rfl⟩ 0 hb0 rfl (gSub.post rfl) (fun _ => rfl) dL_callOffAll_7 (fun x hx q => ?_) (fun a ha => ?_)
    · rcases hex x hx with rfl | rfl
      · subst hx
        refine g_catch [] ⟨0, 12, 15, 13⟩ [⟨0, 12, 19, 15⟩] C rfl (fun z hz => nomatch hz) (by decide +kernel) (by decide) m_L_callOffAll_0 (by decide +kernel) ?_
        refine g_astore C (lv2 := [(5, .ref q), (0, .ref x0), (1, .int p1), (2, .int p2), (3, .int p3), (4, .ref o1)]) rfl (by decide) dL_callOffAll_15 ?_
        refine g_iconst C (v := 1) (by decide) dL_callOffAll_17 ?_
        exact g_iret C hQ (by simp [gO, wRes, ec_callOffAll]) ⟨by decide, by decide⟩ dL_callOffAll_18
      · subst hx
        refine g_catch [⟨0, 12, 15, 13⟩] ⟨0, 12, 19, 15⟩ [] C rfl (List.forall_mem_cons.mpr ⟨⟨by decide, "java/lang/IndexOutOfBoundsException", m_L_callOffAll_0, by decide +kernel, by decide⟩, fun z hz => nomatch hz⟩) (by decide +kernel) (by decide) m_L_callOffAll_1 (by decide +kernel) ?_
        refine g_astore C (lv2 := [(5, .ref q), (0, .ref x0), (1, .int p1), (2, .int p2), (3, .int p3), (4, .ref o1)]) rfl (by decide) dL_callOffAll_19 ?_
        refine g_iconst C (v := 2) (by decide) dL_callOffAll_21 ?_
        exact g_iret C hQ (by simp [gO, wRes, ec_callOffAll]) ⟨by decide, by decide⟩ dL_callOffAll_22
    · subst ha
      refine g_i2l C dL_callOffAll_10 ?_
      refine g_last C 0 rfl (ws2 := [(o1, .inl (cJ E, 1, .inr (.inl (vp_updL fo 0 (V a).toInt64))))] ++ wr a) rfl (inB_in (by decide +kernel)) dL_callOffAll_11 ?_
      refine g_goto C (tgt := 23) dL_callOffAll_12 (by decide) ?_
      refine g_iconst C (v := 0) (by decide) dL_callOffAll_23 ?_
      exact g_iret C hQ rfl ⟨by decide, by decide⟩ dL_callOffAll_24
abbrev r_L_put : Room := { frames := 10, cells := 3, slots := 18, locals := 167 }
def ec_put : String → Int32 := fun x => if x = "java/lang/IndexOutOfBoundsException" then 1 else if x = "java/lang/IllegalArgumentException" then 2 else if x = "java/util/NoSuchElementException" then 3 else if x = "java/lang/IllegalStateException" then 4 else 0
theorem m_L_put_0 : Cond.classLink RL 13 "java/lang/IndexOutOfBoundsException" ∈ wsL_put := by decide +kernel
theorem m_L_put_1 : Cond.classLink RL 15 "java/lang/IllegalArgumentException" ∈ wsL_put := by decide +kernel
theorem m_L_put_2 : Cond.classLink RL 34 "java/util/NoSuchElementException" ∈ wsL_put := by decide +kernel
theorem m_L_put_3 : Cond.classLink RL 17 "java/lang/IllegalStateException" ∈ wsL_put := by decide +kernel
set_option maxHeartbeats 4000000 in
set_option maxRecDepth 100000 in
theorem c_L_put {α : Type} (E : gE) (o1 x0 : Nat) (fo : Nat → Int64) (p1 : Int32) (p2 : Int32) (p3 : Int32) {wx : va_W} {wr : α → va_W} {V : α → Int32} {oc : String ⊕ α} {fs : List Value} (hM : Ct E yX4_put wsX4_put r_X4_put [.ref x0, .int p1, .int p2, .int p3] wx (gO (fun a => some (.int (V a))) wr oc)) (hb0 : wx[0]? = some (x0, .inr (6, fs))) (hex : ∀ x, oc = .inl x → x = "java/lang/IndexOutOfBoundsException" ∨ x = "java/lang/IllegalArgumentException" ∨ x = "java/util/NoSuchElementException" ∨ x = "java/lang/IllegalStateException") : Ct E yL_put wsL_put r_L_put [.ref x0, .int p1, .int p2, .int p3, .ref o1] ([(o1, .inl (cJ E, 1, .inr (.inl fo)))] ++ wx) (gO (fun u : Int32 × va_W => some (.int u.1)) (fun u => u.2) (.inr (wRes ec_put ([(o1, .inl (cJ E, 1, .inr (.inl fo)))] ++ wx) (fun a => [(o1, .inl (cJ E, 1, .inr (.inl (vp_updL fo 0 (V a).toInt64))))] ++ wr a) oc))) := by
  refine Ct.ofH (cc := cL_put) (nL := 6) (ret := (some .int)) (own := RL) (hh := [(0, 12, 15, 13), (0, 12, 19, 15), (0, 12, 23, 34), (0, 12, 27, 17)]) (by decide) rfl rfl (Nat.le_of_ble_eq_true rfl) rfl ?_ ?_
  · intro v w9 hh9
    cases oc with
    | inl x => cases hh9; rfl
    | inr a =>
      have had := hM.1 _ _ rfl
      cases hh9
      simp only [wRes, gAd, List.map_append, List.map_cons, List.map_nil] at had ⊢
      rw [had]
  · intro X C hQ
    refine g_aload C 4 rfl dL_put_0 ?_
    refine g_iconst C (v := 0) (by decide) dL_put_2 ?_
    refine g_aload_n C 0 rfl rfl dL_put_3 ?_
    refine g_iload_n C 1 rfl rfl dL_put_4 ?_
    refine g_iload_n C 2 rfl rfl dL_put_5 ?_
    refine g_iload_n C 3 rfl rfl dL_put_6 ?_
    refine g_callX (As := [.int p1, .int p2, .int p3]) (n9 := 3) (st := [.int 0, .ref o1]) (w2 := fun a => [(o1, .inl (cJ E, 1, .inr (.inl fo)))] ++ wr a) C hM gL_put_X4_put rfl (by decide +kernel) rfl ⟨by decide, by decide, by decide, by decide, Nat.le_of_ble_eq_true rfl⟩ 0 hb0 rfl (gSub.post rfl) (fun _ => rfl) dL_put_7 (fun x hx q => ?_) (fun a ha => ?_)
    · rcases hex x hx with rfl | rfl | rfl | rfl
      · subst hx
        refine g_catch [] ⟨0, 12, 15, 13⟩ [⟨0, 12, 19, 15⟩, ⟨0, 12, 23, 34⟩, ⟨0, 12, 27, 17⟩] C rfl (fun z hz => nomatch hz) (by decide +kernel) (by decide) m_L_put_0 (by decide +kernel) ?_
        refine g_astore C (lv2 := [(5, .ref q), (0, .ref x0), (1, .int p1), (2, .int p2), (3, .int p3), (4, .ref o1)]) rfl (by decide) dL_put_15 ?_
        refine g_iconst C (v := 1) (by decide) dL_put_17 ?_
        exact g_iret C hQ (by simp [gO, wRes, ec_put]) ⟨by decide, by decide⟩ dL_put_18
      · subst hx
        refine g_catch [⟨0, 12, 15, 13⟩] ⟨0, 12, 19, 15⟩ [⟨0, 12, 23, 34⟩, ⟨0, 12, 27, 17⟩] C rfl (List.forall_mem_cons.mpr ⟨⟨by decide, "java/lang/IndexOutOfBoundsException", m_L_put_0, by decide +kernel, by decide⟩, fun z hz => nomatch hz⟩) (by decide +kernel) (by decide) m_L_put_1 (by decide +kernel) ?_
        refine g_astore C (lv2 := [(5, .ref q), (0, .ref x0), (1, .int p1), (2, .int p2), (3, .int p3), (4, .ref o1)]) rfl (by decide) dL_put_19 ?_
        refine g_iconst C (v := 2) (by decide) dL_put_21 ?_
        exact g_iret C hQ (by simp [gO, wRes, ec_put]) ⟨by decide, by decide⟩ dL_put_22
      · subst hx
        refine g_catch [⟨0, 12, 15, 13⟩, ⟨0, 12, 19, 15⟩] ⟨0, 12, 23, 34⟩ [⟨0, 12, 27, 17⟩] C rfl (List.forall_mem_cons.mpr ⟨⟨by decide, "java/lang/IndexOutOfBoundsException", m_L_put_0, by decide +kernel, by decide⟩, List.forall_mem_cons.mpr ⟨⟨by decide, "java/lang/IllegalArgumentException", m_L_put_1, by decide +kernel, by decide⟩, fun z hz => nomatch hz⟩⟩) (by decide +kernel) (by decide) m_L_put_2 (by decide +kernel) ?_
        refine g_astore C (lv2 := [(5, .ref q), (0, .ref x0), (1, .int p1), (2, .int p2), (3, .int p3), (4, .ref o1)]) rfl (by decide) dL_put_23 ?_
        refine g_iconst C (v := 3) (by decide) dL_put_25 ?_
        exact g_iret C hQ (by simp [gO, wRes, ec_put]) ⟨by decide, by decide⟩ dL_put_26
      · subst hx
        refine g_catch [⟨0, 12, 15, 13⟩, ⟨0, 12, 19, 15⟩, ⟨0, 12, 23, 34⟩] ⟨0, 12, 27, 17⟩ [] C rfl (List.forall_mem_cons.mpr ⟨⟨by decide, "java/lang/IndexOutOfBoundsException", m_L_put_0, by decide +kernel, by decide⟩, List.forall_mem_cons.mpr ⟨⟨by decide, "java/lang/IllegalArgumentException", m_L_put_1, by decide +kernel, by decide⟩, List.forall_mem_cons.mpr ⟨⟨by decide, "java/util/NoSuchElementException", m_L_put_2, by decide +kernel, by decide⟩, fun z hz => nomatch hz⟩⟩⟩) (by decide +kernel) (by decide) m_L_put_3 (by decide +kernel) ?_
        refine g_astore C (lv2 := [(5, .ref q), (0, .ref x0), (1, .int p1), (2, .int p2), (3, .int p3), (4, .ref o1)]) rfl (by decide) dL_put_27 ?_
        refine g_iconst C (v := 4) (by decide) dL_put_29 ?_
        exact g_iret C hQ (by simp [gO, wRes, ec_put]) ⟨by decide, by decide⟩ dL_put_30
    · subst ha
      refine g_i2l C dL_put_10 ?_
      refine g_last C 0 rfl (ws2 := [(o1, .inl (cJ E, 1, .inr (.inl (vp_updL fo 0 (V a).toInt64))))] ++ wr a) rfl (inB_in (by decide +kernel)) dL_put_11 ?_
      refine g_goto C (tgt := 31) dL_put_12 (by decide) ?_
      refine g_iconst C (v := 0) (by decide) dL_put_31 ?_
      exact g_iret C hQ rfl ⟨by decide, by decide⟩ dL_put_32
abbrev r_L_join : Room := { frames := 10, cells := 4, slots := 24, locals := 169 }
def ec_join : String → Int32 := fun x => if x = "java/lang/IndexOutOfBoundsException" then 1 else if x = "java/lang/IllegalStateException" then 2 else 0
theorem m_L_join_0 : Cond.classLink RL 13 "java/lang/IndexOutOfBoundsException" ∈ wsL_join := by decide +kernel
theorem m_L_join_1 : Cond.classLink RL 17 "java/lang/IllegalStateException" ∈ wsL_join := by decide +kernel
set_option maxHeartbeats 4000000 in
set_option maxRecDepth 100000 in
theorem c_L_join {α : Type} (E : gE) (o1 x0 : Nat) (fo : Nat → Int64) (p1 : Int32) (p2 : Int32) {wx : va_W} {wr : α → va_W} {V : α → Int32} {oc : String ⊕ α} {fs : List Value} (hM : Ct E yX4_join wsX4_join r_X4_join [.ref x0, .int p1, .int p2] wx (gO (fun a => some (.int (V a))) wr oc)) (hb0 : wx[0]? = some (x0, .inr (6, fs))) (hex : ∀ x, oc = .inl x → x = "java/lang/IndexOutOfBoundsException" ∨ x = "java/lang/IllegalStateException") : Ct E yL_join wsL_join r_L_join [.ref x0, .int p1, .int p2, .ref o1] ([(o1, .inl (cJ E, 1, .inr (.inl fo)))] ++ wx) (gO (fun u : Int32 × va_W => some (.int u.1)) (fun u => u.2) (.inr (wRes ec_join ([(o1, .inl (cJ E, 1, .inr (.inl fo)))] ++ wx) (fun a => [(o1, .inl (cJ E, 1, .inr (.inl (vp_updL fo 0 (V a).toInt64))))] ++ wr a) oc))) := by
  refine Ct.ofH (cc := cL_join) (nL := 5) (ret := (some .int)) (own := RL) (hh := [(0, 10, 13, 13), (0, 10, 17, 17)]) (by decide) rfl rfl (Nat.le_of_ble_eq_true rfl) rfl ?_ ?_
  · intro v w9 hh9
    cases oc with
    | inl x => cases hh9; rfl
    | inr a =>
      have had := hM.1 _ _ rfl
      cases hh9
      simp only [wRes, gAd, List.map_append, List.map_cons, List.map_nil] at had ⊢
      rw [had]
  · intro X C hQ
    refine g_aload_n C 3 rfl rfl dL_join_0 ?_
    refine g_iconst C (v := 0) (by decide) dL_join_1 ?_
    refine g_aload_n C 0 rfl rfl dL_join_2 ?_
    refine g_iload_n C 1 rfl rfl dL_join_3 ?_
    refine g_iload_n C 2 rfl rfl dL_join_4 ?_
    refine g_callX (As := [.int p1, .int p2]) (n9 := 2) (st := [.int 0, .ref o1]) (w2 := fun a => [(o1, .inl (cJ E, 1, .inr (.inl fo)))] ++ wr a) C hM gL_join_X4_join rfl (by decide +kernel) rfl ⟨by decide, by decide, by decide, by decide, Nat.le_of_ble_eq_true rfl⟩ 0 hb0 rfl (gSub.post rfl) (fun _ => rfl) dL_join_5 (fun x hx q => ?_) (fun a ha => ?_)
    · rcases hex x hx with rfl | rfl
      · subst hx
        refine g_catch [] ⟨0, 10, 13, 13⟩ [⟨0, 10, 17, 17⟩] C rfl (fun z hz => nomatch hz) (by decide +kernel) (by decide) m_L_join_0 (by decide +kernel) ?_
        refine g_astore C (lv2 := [(4, .ref q), (0, .ref x0), (1, .int p1), (2, .int p2), (3, .ref o1)]) rfl (by decide) dL_join_13 ?_
        refine g_iconst C (v := 1) (by decide) dL_join_15 ?_
        exact g_iret C hQ (by simp [gO, wRes, ec_join]) ⟨by decide, by decide⟩ dL_join_16
      · subst hx
        refine g_catch [⟨0, 10, 13, 13⟩] ⟨0, 10, 17, 17⟩ [] C rfl (List.forall_mem_cons.mpr ⟨⟨by decide, "java/lang/IndexOutOfBoundsException", m_L_join_0, by decide +kernel, by decide⟩, fun z hz => nomatch hz⟩) (by decide +kernel) (by decide) m_L_join_1 (by decide +kernel) ?_
        refine g_astore C (lv2 := [(4, .ref q), (0, .ref x0), (1, .int p1), (2, .int p2), (3, .ref o1)]) rfl (by decide) dL_join_17 ?_
        refine g_iconst C (v := 2) (by decide) dL_join_19 ?_
        exact g_iret C hQ (by simp [gO, wRes, ec_join]) ⟨by decide, by decide⟩ dL_join_20
    · subst ha
      refine g_i2l C dL_join_8 ?_
      refine g_last C 0 rfl (ws2 := [(o1, .inl (cJ E, 1, .inr (.inl (vp_updL fo 0 (V a).toInt64))))] ++ wr a) rfl (inB_in (by decide +kernel)) dL_join_9 ?_
      refine g_goto C (tgt := 21) dL_join_10 (by decide) ?_
      refine g_iconst C (v := 0) (by decide) dL_join_21 ?_
      exact g_iret C hQ rfl ⟨by decide, by decide⟩ dL_join_22
abbrev r_L_part : Room := { frames := 10, cells := 4, slots := 24, locals := 170 }
def ec_part : String → Int32 := fun x => if x = "java/lang/IndexOutOfBoundsException" then 1 else if x = "java/lang/IllegalStateException" then 2 else 0
theorem m_L_part_0 : Cond.classLink RL 13 "java/lang/IndexOutOfBoundsException" ∈ wsL_part := by decide +kernel
theorem m_L_part_1 : Cond.classLink RL 17 "java/lang/IllegalStateException" ∈ wsL_part := by decide +kernel
set_option maxHeartbeats 4000000 in
set_option maxRecDepth 100000 in
theorem c_L_part {α : Type} (E : gE) (o1 x0 : Nat) (fo : Nat → Int64) (p1 : Int32) (p2 : Int32) (p3 : Int32) {wx : va_W} {wr : α → va_W} {V : α → Int32} {oc : String ⊕ α} {fs : List Value} (hM : Ct E yX4_part wsX4_part r_X4_part [.ref x0, .int p1, .int p2, .int p3] wx (gO (fun a => some (.int (V a))) wr oc)) (hb0 : wx[0]? = some (x0, .inr (6, fs))) (hex : ∀ x, oc = .inl x → x = "java/lang/IndexOutOfBoundsException" ∨ x = "java/lang/IllegalStateException") : Ct E yL_part wsL_part r_L_part [.ref x0, .int p1, .int p2, .int p3, .ref o1] ([(o1, .inl (cJ E, 1, .inr (.inl fo)))] ++ wx) (gO (fun u : Int32 × va_W => some (.int u.1)) (fun u => u.2) (.inr (wRes ec_part ([(o1, .inl (cJ E, 1, .inr (.inl fo)))] ++ wx) (fun a => [(o1, .inl (cJ E, 1, .inr (.inl (vp_updL fo 0 (V a).toInt64))))] ++ wr a) oc))) := by
  refine Ct.ofH (cc := cL_part) (nL := 6) (ret := (some .int)) (own := RL) (hh := [(0, 12, 15, 13), (0, 12, 19, 17)]) (by decide) rfl rfl (Nat.le_of_ble_eq_true rfl) rfl ?_ ?_
  · intro v w9 hh9
    cases oc with
    | inl x => cases hh9; rfl
    | inr a =>
      have had := hM.1 _ _ rfl
      cases hh9
      simp only [wRes, gAd, List.map_append, List.map_cons, List.map_nil] at had ⊢
      rw [had]
  · intro X C hQ
    refine g_aload C 4 rfl dL_part_0 ?_
    refine g_iconst C (v := 0) (by decide) dL_part_2 ?_
    refine g_aload_n C 0 rfl rfl dL_part_3 ?_
    refine g_iload_n C 1 rfl rfl dL_part_4 ?_
    refine g_iload_n C 2 rfl rfl dL_part_5 ?_
    refine g_iload_n C 3 rfl rfl dL_part_6 ?_
    refine g_callX (As := [.int p1, .int p2, .int p3]) (n9 := 3) (st := [.int 0, .ref o1]) (w2 := fun a => [(o1, .inl (cJ E, 1, .inr (.inl fo)))] ++ wr a) C hM gL_part_X4_part rfl (by decide +kernel) rfl ⟨by decide, by decide, by decide, by decide, Nat.le_of_ble_eq_true rfl⟩ 0 hb0 rfl (gSub.post rfl) (fun _ => rfl) dL_part_7 (fun x hx q => ?_) (fun a ha => ?_)
    · rcases hex x hx with rfl | rfl
      · subst hx
        refine g_catch [] ⟨0, 12, 15, 13⟩ [⟨0, 12, 19, 17⟩] C rfl (fun z hz => nomatch hz) (by decide +kernel) (by decide) m_L_part_0 (by decide +kernel) ?_
        refine g_astore C (lv2 := [(5, .ref q), (0, .ref x0), (1, .int p1), (2, .int p2), (3, .int p3), (4, .ref o1)]) rfl (by decide) dL_part_15 ?_
        refine g_iconst C (v := 1) (by decide) dL_part_17 ?_
        exact g_iret C hQ (by simp [gO, wRes, ec_part]) ⟨by decide, by decide⟩ dL_part_18
      · subst hx
        refine g_catch [⟨0, 12, 15, 13⟩] ⟨0, 12, 19, 17⟩ [] C rfl (List.forall_mem_cons.mpr ⟨⟨by decide, "java/lang/IndexOutOfBoundsException", m_L_part_0, by decide +kernel, by decide⟩, fun z hz => nomatch hz⟩) (by decide +kernel) (by decide) m_L_part_1 (by decide +kernel) ?_
        refine g_astore C (lv2 := [(5, .ref q), (0, .ref x0), (1, .int p1), (2, .int p2), (3, .int p3), (4, .ref o1)]) rfl (by decide) dL_part_19 ?_
        refine g_iconst C (v := 2) (by decide) dL_part_21 ?_
        exact g_iret C hQ (by simp [gO, wRes, ec_part]) ⟨by decide, by decide⟩ dL_part_22
    · subst ha
      refine g_i2l C dL_part_10 ?_
      refine g_last C 0 rfl (ws2 := [(o1, .inl (cJ E, 1, .inr (.inl (vp_updL fo 0 (V a).toInt64))))] ++ wr a) rfl (inB_in (by decide +kernel)) dL_part_11 ?_
      refine g_goto C (tgt := 23) dL_part_12 (by decide) ?_
      refine g_iconst C (v := 0) (by decide) dL_part_23 ?_
      exact g_iret C hQ rfl ⟨by decide, by decide⟩ dL_part_24
abbrev r_L_next : Room := { frames := 10, cells := 2, slots := 12, locals := 172 }
def ec_next : String → Int32 := fun x => if x = "java/lang/IndexOutOfBoundsException" then 1 else if x = "java/util/NoSuchElementException" then 2 else 0
theorem m_L_next_0 : Cond.classLink RL 13 "java/lang/IndexOutOfBoundsException" ∈ wsL_next := by decide +kernel
theorem m_L_next_1 : Cond.classLink RL 34 "java/util/NoSuchElementException" ∈ wsL_next := by decide +kernel
set_option maxHeartbeats 4000000 in
set_option maxRecDepth 100000 in
theorem c_L_next {α : Type} (E : gE) (o1 x0 : Nat) (fo : Nat → Int64) (p1 : Int32) {wx : va_W} {wr : α → va_W} {V : α → Int32} {oc : String ⊕ α} {fs : List Value} (hM : Ct E yX4_next wsX4_next r_X4_next [.ref x0, .int p1] wx (gO (fun a => some (.int (V a))) wr oc)) (hb0 : wx[0]? = some (x0, .inr (6, fs))) (hex : ∀ x, oc = .inl x → x = "java/lang/IndexOutOfBoundsException" ∨ x = "java/util/NoSuchElementException") : Ct E yL_next wsL_next r_L_next [.ref x0, .int p1, .ref o1] ([(o1, .inl (cJ E, 1, .inr (.inl fo)))] ++ wx) (gO (fun u : Int32 × va_W => some (.int u.1)) (fun u => u.2) (.inr (wRes ec_next ([(o1, .inl (cJ E, 1, .inr (.inl fo)))] ++ wx) (fun a => [(o1, .inl (cJ E, 1, .inr (.inl (vp_updL fo 0 (V a).toInt64))))] ++ wr a) oc))) := by
  refine Ct.ofH (cc := cL_next) (nL := 4) (ret := (some .int)) (own := RL) (hh := [(0, 9, 12, 13), (0, 9, 15, 34)]) (by decide) rfl rfl (Nat.le_of_ble_eq_true rfl) rfl ?_ ?_
  · intro v w9 hh9
    cases oc with
    | inl x => cases hh9; rfl
    | inr a =>
      have had := hM.1 _ _ rfl
      cases hh9
      simp only [wRes, gAd, List.map_append, List.map_cons, List.map_nil] at had ⊢
      rw [had]
  · intro X C hQ
    refine g_aload_n C 2 rfl rfl dL_next_0 ?_
    refine g_iconst C (v := 0) (by decide) dL_next_1 ?_
    refine g_aload_n C 0 rfl rfl dL_next_2 ?_
    refine g_iload_n C 1 rfl rfl dL_next_3 ?_
    refine g_callX (As := [.int p1]) (n9 := 1) (st := [.int 0, .ref o1]) (w2 := fun a => [(o1, .inl (cJ E, 1, .inr (.inl fo)))] ++ wr a) C hM gL_next_X4_next rfl (by decide +kernel) rfl ⟨by decide, by decide, by decide, by decide, Nat.le_of_ble_eq_true rfl⟩ 0 hb0 rfl (gSub.post rfl) (fun _ => rfl) dL_next_4 (fun x hx q => ?_) (fun a ha => ?_)
    · rcases hex x hx with rfl | rfl
      · subst hx
        refine g_catch [] ⟨0, 9, 12, 13⟩ [⟨0, 9, 15, 34⟩] C rfl (fun z hz => nomatch hz) (by decide +kernel) (by decide) m_L_next_0 (by decide +kernel) ?_
        refine g_astore_n C (lv2 := [(3, .ref q), (0, .ref x0), (1, .int p1), (2, .ref o1)]) rfl (by decide) rfl dL_next_12 ?_
        refine g_iconst C (v := 1) (by decide) dL_next_13 ?_
        exact g_iret C hQ (by simp [gO, wRes, ec_next]) ⟨by decide, by decide⟩ dL_next_14
      · subst hx
        refine g_catch [⟨0, 9, 12, 13⟩] ⟨0, 9, 15, 34⟩ [] C rfl (List.forall_mem_cons.mpr ⟨⟨by decide, "java/lang/IndexOutOfBoundsException", m_L_next_0, by decide +kernel, by decide⟩, fun z hz => nomatch hz⟩) (by decide +kernel) (by decide) m_L_next_1 (by decide +kernel) ?_
        refine g_astore_n C (lv2 := [(3, .ref q), (0, .ref x0), (1, .int p1), (2, .ref o1)]) rfl (by decide) rfl dL_next_15 ?_
        refine g_iconst C (v := 2) (by decide) dL_next_16 ?_
        exact g_iret C hQ (by simp [gO, wRes, ec_next]) ⟨by decide, by decide⟩ dL_next_17
    · subst ha
      refine g_i2l C dL_next_7 ?_
      refine g_last C 0 rfl (ws2 := [(o1, .inl (cJ E, 1, .inr (.inl (vp_updL fo 0 (V a).toInt64))))] ++ wr a) rfl (inB_in (by decide +kernel)) dL_next_8 ?_
      refine g_goto C (tgt := 18) dL_next_9 (by decide) ?_
      refine g_iconst C (v := 0) (by decide) dL_next_18 ?_
      exact g_iret C hQ rfl ⟨by decide, by decide⟩ dL_next_19
abbrev r_L_run : Room := { frames := 10, cells := 3, slots := 18, locals := 175 }
def ec_run : String → Int32 := fun x => if x = "java/lang/IndexOutOfBoundsException" then 1 else if x = "java/lang/IllegalArgumentException" then 2 else if x = "java/lang/IllegalStateException" then 3 else 0
theorem m_L_run_0 : Cond.classLink RL 13 "java/lang/IndexOutOfBoundsException" ∈ wsL_run := by decide +kernel
theorem m_L_run_1 : Cond.classLink RL 15 "java/lang/IllegalArgumentException" ∈ wsL_run := by decide +kernel
theorem m_L_run_2 : Cond.classLink RL 17 "java/lang/IllegalStateException" ∈ wsL_run := by decide +kernel
set_option maxHeartbeats 4000000 in
set_option maxRecDepth 100000 in
theorem c_L_run {α : Type} (E : gE) (o1 x0 : Nat) (fo : Nat → Int64) (p1 : Int32) (p2 : Int32) {wx : va_W} {wr : α → va_W} {V : α → Int32} {oc : String ⊕ α} {fs : List Value} (hM : Ct E yX4_run wsX4_run r_X4_run [.ref x0, .int p1, .int p2] wx (gO (fun a => some (.int (V a))) wr oc)) (hb0 : wx[0]? = some (x0, .inr (6, fs))) (hex : ∀ x, oc = .inl x → x = "java/lang/IndexOutOfBoundsException" ∨ x = "java/lang/IllegalArgumentException" ∨ x = "java/lang/IllegalStateException") : Ct E yL_run wsL_run r_L_run [.ref x0, .int p1, .int p2, .ref o1] ([(o1, .inl (cJ E, 1, .inr (.inl fo)))] ++ wx) (gO (fun u : Int32 × va_W => some (.int u.1)) (fun u => u.2) (.inr (wRes ec_run ([(o1, .inl (cJ E, 1, .inr (.inl fo)))] ++ wx) (fun a => [(o1, .inl (cJ E, 1, .inr (.inl (vp_updL fo 0 (V a).toInt64))))] ++ wr a) oc))) := by
  refine Ct.ofH (cc := cL_run) (nL := 5) (ret := (some .int)) (own := RL) (hh := [(0, 10, 13, 13), (0, 10, 17, 15), (0, 10, 21, 17)]) (by decide) rfl rfl (Nat.le_of_ble_eq_true rfl) rfl ?_ ?_
  · intro v w9 hh9
    cases oc with
    | inl x => cases hh9; rfl
    | inr a =>
      have had := hM.1 _ _ rfl
      cases hh9
      simp only [wRes, gAd, List.map_append, List.map_cons, List.map_nil] at had ⊢
      rw [had]
  · intro X C hQ
    refine g_aload_n C 3 rfl rfl dL_run_0 ?_
    refine g_iconst C (v := 0) (by decide) dL_run_1 ?_
    refine g_aload_n C 0 rfl rfl dL_run_2 ?_
    refine g_iload_n C 1 rfl rfl dL_run_3 ?_
    refine g_iload_n C 2 rfl rfl dL_run_4 ?_
    refine g_callX (As := [.int p1, .int p2]) (n9 := 2) (st := [.int 0, .ref o1]) (w2 := fun a => [(o1, .inl (cJ E, 1, .inr (.inl fo)))] ++ wr a) C hM gL_run_X4_run rfl (by decide +kernel) rfl ⟨by decide, by decide, by decide, by decide, Nat.le_of_ble_eq_true rfl⟩ 0 hb0 rfl (gSub.post rfl) (fun _ => rfl) dL_run_5 (fun x hx q => ?_) (fun a ha => ?_)
    · rcases hex x hx with rfl | rfl | rfl
      · subst hx
        refine g_catch [] ⟨0, 10, 13, 13⟩ [⟨0, 10, 17, 15⟩, ⟨0, 10, 21, 17⟩] C rfl (fun z hz => nomatch hz) (by decide +kernel) (by decide) m_L_run_0 (by decide +kernel) ?_
        refine g_astore C (lv2 := [(4, .ref q), (0, .ref x0), (1, .int p1), (2, .int p2), (3, .ref o1)]) rfl (by decide) dL_run_13 ?_
        refine g_iconst C (v := 1) (by decide) dL_run_15 ?_
        exact g_iret C hQ (by simp [gO, wRes, ec_run]) ⟨by decide, by decide⟩ dL_run_16
      · subst hx
        refine g_catch [⟨0, 10, 13, 13⟩] ⟨0, 10, 17, 15⟩ [⟨0, 10, 21, 17⟩] C rfl (List.forall_mem_cons.mpr ⟨⟨by decide, "java/lang/IndexOutOfBoundsException", m_L_run_0, by decide +kernel, by decide⟩, fun z hz => nomatch hz⟩) (by decide +kernel) (by decide) m_L_run_1 (by decide +kernel) ?_
        refine g_astore C (lv2 := [(4, .ref q), (0, .ref x0), (1, .int p1), (2, .int p2), (3, .ref o1)]) rfl (by decide) dL_run_17 ?_
        refine g_iconst C (v := 2) (by decide) dL_run_19 ?_
        exact g_iret C hQ (by simp [gO, wRes, ec_run]) ⟨by decide, by decide⟩ dL_run_20
      · subst hx
        refine g_catch [⟨0, 10, 13, 13⟩, ⟨0, 10, 17, 15⟩] ⟨0, 10, 21, 17⟩ [] C rfl (List.forall_mem_cons.mpr ⟨⟨by decide, "java/lang/IndexOutOfBoundsException", m_L_run_0, by decide +kernel, by decide⟩, List.forall_mem_cons.mpr ⟨⟨by decide, "java/lang/IllegalArgumentException", m_L_run_1, by decide +kernel, by decide⟩, fun z hz => nomatch hz⟩⟩) (by decide +kernel) (by decide) m_L_run_2 (by decide +kernel) ?_
        refine g_astore C (lv2 := [(4, .ref q), (0, .ref x0), (1, .int p1), (2, .int p2), (3, .ref o1)]) rfl (by decide) dL_run_21 ?_
        refine g_iconst C (v := 3) (by decide) dL_run_23 ?_
        exact g_iret C hQ (by simp [gO, wRes, ec_run]) ⟨by decide, by decide⟩ dL_run_24
    · subst ha
      refine g_i2l C dL_run_8 ?_
      refine g_last C 0 rfl (ws2 := [(o1, .inl (cJ E, 1, .inr (.inl (vp_updL fo 0 (V a).toInt64))))] ++ wr a) rfl (inB_in (by decide +kernel)) dL_run_9 ?_
      refine g_goto C (tgt := 25) dL_run_10 (by decide) ?_
      refine g_iconst C (v := 0) (by decide) dL_run_25 ?_
      exact g_iret C hQ rfl ⟨by decide, by decide⟩ dL_run_26
abbrev r_L_back : Room := { frames := 10, cells := 3, slots := 18, locals := 175 }
def ec_back : String → Int32 := fun x => if x = "java/lang/IndexOutOfBoundsException" then 1 else if x = "java/lang/IllegalArgumentException" then 2 else if x = "java/lang/IllegalStateException" then 3 else 0
theorem m_L_back_0 : Cond.classLink RL 13 "java/lang/IndexOutOfBoundsException" ∈ wsL_back := by decide +kernel
theorem m_L_back_1 : Cond.classLink RL 15 "java/lang/IllegalArgumentException" ∈ wsL_back := by decide +kernel
theorem m_L_back_2 : Cond.classLink RL 17 "java/lang/IllegalStateException" ∈ wsL_back := by decide +kernel
set_option maxHeartbeats 4000000 in
set_option maxRecDepth 100000 in
theorem c_L_back {α : Type} (E : gE) (o1 x0 : Nat) (fo : Nat → Int64) (p1 : Int32) (p2 : Int32) {wx : va_W} {wr : α → va_W} {V : α → Int32} {oc : String ⊕ α} {fs : List Value} (hM : Ct E yX4_back wsX4_back r_X4_back [.ref x0, .int p1, .int p2] wx (gO (fun a => some (.int (V a))) wr oc)) (hb0 : wx[0]? = some (x0, .inr (6, fs))) (hex : ∀ x, oc = .inl x → x = "java/lang/IndexOutOfBoundsException" ∨ x = "java/lang/IllegalArgumentException" ∨ x = "java/lang/IllegalStateException") : Ct E yL_back wsL_back r_L_back [.ref x0, .int p1, .int p2, .ref o1] ([(o1, .inl (cJ E, 1, .inr (.inl fo)))] ++ wx) (gO (fun u : Int32 × va_W => some (.int u.1)) (fun u => u.2) (.inr (wRes ec_back ([(o1, .inl (cJ E, 1, .inr (.inl fo)))] ++ wx) (fun a => [(o1, .inl (cJ E, 1, .inr (.inl (vp_updL fo 0 (V a).toInt64))))] ++ wr a) oc))) := by
  refine Ct.ofH (cc := cL_back) (nL := 5) (ret := (some .int)) (own := RL) (hh := [(0, 10, 13, 13), (0, 10, 17, 15), (0, 10, 21, 17)]) (by decide) rfl rfl (Nat.le_of_ble_eq_true rfl) rfl ?_ ?_
  · intro v w9 hh9
    cases oc with
    | inl x => cases hh9; rfl
    | inr a =>
      have had := hM.1 _ _ rfl
      cases hh9
      simp only [wRes, gAd, List.map_append, List.map_cons, List.map_nil] at had ⊢
      rw [had]
  · intro X C hQ
    refine g_aload_n C 3 rfl rfl dL_back_0 ?_
    refine g_iconst C (v := 0) (by decide) dL_back_1 ?_
    refine g_aload_n C 0 rfl rfl dL_back_2 ?_
    refine g_iload_n C 1 rfl rfl dL_back_3 ?_
    refine g_iload_n C 2 rfl rfl dL_back_4 ?_
    refine g_callX (As := [.int p1, .int p2]) (n9 := 2) (st := [.int 0, .ref o1]) (w2 := fun a => [(o1, .inl (cJ E, 1, .inr (.inl fo)))] ++ wr a) C hM gL_back_X4_back rfl (by decide +kernel) rfl ⟨by decide, by decide, by decide, by decide, Nat.le_of_ble_eq_true rfl⟩ 0 hb0 rfl (gSub.post rfl) (fun _ => rfl) dL_back_5 (fun x hx q => ?_) (fun a ha => ?_)
    · rcases hex x hx with rfl | rfl | rfl
      · subst hx
        refine g_catch [] ⟨0, 10, 13, 13⟩ [⟨0, 10, 17, 15⟩, ⟨0, 10, 21, 17⟩] C rfl (fun z hz => nomatch hz) (by decide +kernel) (by decide) m_L_back_0 (by decide +kernel) ?_
        refine g_astore C (lv2 := [(4, .ref q), (0, .ref x0), (1, .int p1), (2, .int p2), (3, .ref o1)]) rfl (by decide) dL_back_13 ?_
        refine g_iconst C (v := 1) (by decide) dL_back_15 ?_
        exact g_iret C hQ (by simp [gO, wRes, ec_back]) ⟨by decide, by decide⟩ dL_back_16
      · subst hx
        refine g_catch [⟨0, 10, 13, 13⟩] ⟨0, 10, 17, 15⟩ [⟨0, 10, 21, 17⟩] C rfl (List.forall_mem_cons.mpr ⟨⟨by decide, "java/lang/IndexOutOfBoundsException", m_L_back_0, by decide +kernel, by decide⟩, fun z hz => nomatch hz⟩) (by decide +kernel) (by decide) m_L_back_1 (by decide +kernel) ?_
        refine g_astore C (lv2 := [(4, .ref q), (0, .ref x0), (1, .int p1), (2, .int p2), (3, .ref o1)]) rfl (by decide) dL_back_17 ?_
        refine g_iconst C (v := 2) (by decide) dL_back_19 ?_
        exact g_iret C hQ (by simp [gO, wRes, ec_back]) ⟨by decide, by decide⟩ dL_back_20
      · subst hx
        refine g_catch [⟨0, 10, 13, 13⟩, ⟨0, 10, 17, 15⟩] ⟨0, 10, 21, 17⟩ [] C rfl (List.forall_mem_cons.mpr ⟨⟨by decide, "java/lang/IndexOutOfBoundsException", m_L_back_0, by decide +kernel, by decide⟩, List.forall_mem_cons.mpr ⟨⟨by decide, "java/lang/IllegalArgumentException", m_L_back_1, by decide +kernel, by decide⟩, fun z hz => nomatch hz⟩⟩) (by decide +kernel) (by decide) m_L_back_2 (by decide +kernel) ?_
        refine g_astore C (lv2 := [(4, .ref q), (0, .ref x0), (1, .int p1), (2, .int p2), (3, .ref o1)]) rfl (by decide) dL_back_21 ?_
        refine g_iconst C (v := 3) (by decide) dL_back_23 ?_
        exact g_iret C hQ (by simp [gO, wRes, ec_back]) ⟨by decide, by decide⟩ dL_back_24
    · subst ha
      refine g_i2l C dL_back_8 ?_
      refine g_last C 0 rfl (ws2 := [(o1, .inl (cJ E, 1, .inr (.inl (vp_updL fo 0 (V a).toInt64))))] ++ wr a) rfl (inB_in (by decide +kernel)) dL_back_9 ?_
      refine g_goto C (tgt := 25) dL_back_10 (by decide) ?_
      refine g_iconst C (v := 0) (by decide) dL_back_25 ?_
      exact g_iret C hQ rfl ⟨by decide, by decide⟩ dL_back_26
abbrev r_L_clock : Room := { frames := 10, cells := 1, slots := 6, locals := 162 }
def ec_clock : String → Int32 := fun x => if x = "java/lang/IndexOutOfBoundsException" then 1 else 0
theorem m_L_clock_0 : Cond.classLink RL 13 "java/lang/IndexOutOfBoundsException" ∈ wsL_clock := by decide +kernel
set_option maxHeartbeats 4000000 in
set_option maxRecDepth 100000 in
theorem c_L_clock {α : Type} (E : gE) (o1 x0 : Nat) (fo : Nat → Int64) (p1 : Int32) {wx : va_W} {wr : α → va_W} {V : α → Int32} {oc : String ⊕ α} {fs : List Value} (hM : Ct E yX4_clock wsX4_clock r_X4_clock [.ref x0, .int p1] wx (gO (fun a => some (.int (V a))) wr oc)) (hb0 : wx[0]? = some (x0, .inr (6, fs))) (hex : ∀ x, oc = .inl x → x = "java/lang/IndexOutOfBoundsException") : Ct E yL_clock wsL_clock r_L_clock [.ref x0, .int p1, .ref o1] ([(o1, .inl (cJ E, 1, .inr (.inl fo)))] ++ wx) (gO (fun u : Int32 × va_W => some (.int u.1)) (fun u => u.2) (.inr (wRes ec_clock ([(o1, .inl (cJ E, 1, .inr (.inl fo)))] ++ wx) (fun a => [(o1, .inl (cJ E, 1, .inr (.inl (vp_updL fo 0 (V a).toInt64))))] ++ wr a) oc))) := by
  refine Ct.ofH (cc := cL_clock) (nL := 4) (ret := (some .int)) (own := RL) (hh := [(0, 9, 12, 13)]) (by decide) rfl rfl (Nat.le_of_ble_eq_true rfl) rfl ?_ ?_
  · intro v w9 hh9
    cases oc with
    | inl x => cases hh9; rfl
    | inr a =>
      have had := hM.1 _ _ rfl
      cases hh9
      simp only [wRes, gAd, List.map_append, List.map_cons, List.map_nil] at had ⊢
      rw [had]
  · intro X C hQ
    refine g_aload_n C 2 rfl rfl dL_clock_0 ?_
    refine g_iconst C (v := 0) (by decide) dL_clock_1 ?_
    refine g_aload_n C 0 rfl rfl dL_clock_2 ?_
    refine g_iload_n C 1 rfl rfl dL_clock_3 ?_
    refine g_callX (As := [.int p1]) (n9 := 1) (st := [.int 0, .ref o1]) (w2 := fun a => [(o1, .inl (cJ E, 1, .inr (.inl fo)))] ++ wr a) C hM gL_clock_X4_clock rfl (by decide +kernel) rfl ⟨by decide, by decide, by decide, by decide, Nat.le_of_ble_eq_true rfl⟩ 0 hb0 rfl (gSub.post rfl) (fun _ => rfl) dL_clock_4 (fun x hx q => ?_) (fun a ha => ?_)
    · have hx2 := hex x hx
      subst hx2
      subst hx
      refine g_catch [] ⟨0, 9, 12, 13⟩ [] C rfl (fun z hz => nomatch hz) (by decide +kernel) (by decide) m_L_clock_0 (by decide +kernel) ?_
      refine g_astore_n C (lv2 := [(3, .ref q), (0, .ref x0), (1, .int p1), (2, .ref o1)]) rfl (by decide) rfl dL_clock_12 ?_
      refine g_iconst C (v := 1) (by decide) dL_clock_13 ?_
      exact g_iret C hQ (by simp [gO, wRes, ec_clock]) ⟨by decide, by decide⟩ dL_clock_14
    · subst ha
      refine g_i2l C dL_clock_7 ?_
      refine g_last C 0 rfl (ws2 := [(o1, .inl (cJ E, 1, .inr (.inl (vp_updL fo 0 (V a).toInt64))))] ++ wr a) rfl (inB_in (by decide +kernel)) dL_clock_8 ?_
      refine g_goto C (tgt := 15) dL_clock_9 (by decide) ?_
      refine g_iconst C (v := 0) (by decide) dL_clock_15 ?_
      exact g_iret C hQ rfl ⟨by decide, by decide⟩ dL_clock_16
abbrev r_L_waiting : Room := { frames := 10, cells := 1, slots := 6, locals := 162 }
def ec_waiting : String → Int32 := fun x => if x = "java/lang/IndexOutOfBoundsException" then 1 else 0
theorem m_L_waiting_0 : Cond.classLink RL 13 "java/lang/IndexOutOfBoundsException" ∈ wsL_waiting := by decide +kernel
set_option maxHeartbeats 4000000 in
set_option maxRecDepth 100000 in
theorem c_L_waiting {α : Type} (E : gE) (o1 x0 : Nat) (fo : Nat → Int64) (p1 : Int32) {wx : va_W} {wr : α → va_W} {V : α → Int32} {oc : String ⊕ α} {fs : List Value} (hM : Ct E yX4_waiting wsX4_waiting r_X4_waiting [.ref x0, .int p1] wx (gO (fun a => some (.int (V a))) wr oc)) (hb0 : wx[0]? = some (x0, .inr (6, fs))) (hex : ∀ x, oc = .inl x → x = "java/lang/IndexOutOfBoundsException") : Ct E yL_waiting wsL_waiting r_L_waiting [.ref x0, .int p1, .ref o1] ([(o1, .inl (cJ E, 1, .inr (.inl fo)))] ++ wx) (gO (fun u : Int32 × va_W => some (.int u.1)) (fun u => u.2) (.inr (wRes ec_waiting ([(o1, .inl (cJ E, 1, .inr (.inl fo)))] ++ wx) (fun a => [(o1, .inl (cJ E, 1, .inr (.inl (vp_updL fo 0 (V a).toInt64))))] ++ wr a) oc))) := by
  refine Ct.ofH (cc := cL_waiting) (nL := 4) (ret := (some .int)) (own := RL) (hh := [(0, 9, 12, 13)]) (by decide) rfl rfl (Nat.le_of_ble_eq_true rfl) rfl ?_ ?_
  · intro v w9 hh9
    cases oc with
    | inl x => cases hh9; rfl
    | inr a =>
      have had := hM.1 _ _ rfl
      cases hh9
      simp only [wRes, gAd, List.map_append, List.map_cons, List.map_nil] at had ⊢
      rw [had]
  · intro X C hQ
    refine g_aload_n C 2 rfl rfl dL_waiting_0 ?_
    refine g_iconst C (v := 0) (by decide) dL_waiting_1 ?_
    refine g_aload_n C 0 rfl rfl dL_waiting_2 ?_
    refine g_iload_n C 1 rfl rfl dL_waiting_3 ?_
    refine g_callX (As := [.int p1]) (n9 := 1) (st := [.int 0, .ref o1]) (w2 := fun a => [(o1, .inl (cJ E, 1, .inr (.inl fo)))] ++ wr a) C hM gL_waiting_X4_waiting rfl (by decide +kernel) rfl ⟨by decide, by decide, by decide, by decide, Nat.le_of_ble_eq_true rfl⟩ 0 hb0 rfl (gSub.post rfl) (fun _ => rfl) dL_waiting_4 (fun x hx q => ?_) (fun a ha => ?_)
    · have hx2 := hex x hx
      subst hx2
      subst hx
      refine g_catch [] ⟨0, 9, 12, 13⟩ [] C rfl (fun z hz => nomatch hz) (by decide +kernel) (by decide) m_L_waiting_0 (by decide +kernel) ?_
      refine g_astore_n C (lv2 := [(3, .ref q), (0, .ref x0), (1, .int p1), (2, .ref o1)]) rfl (by decide) rfl dL_waiting_12 ?_
      refine g_iconst C (v := 1) (by decide) dL_waiting_13 ?_
      exact g_iret C hQ (by simp [gO, wRes, ec_waiting]) ⟨by decide, by decide⟩ dL_waiting_14
    · subst ha
      refine g_i2l C dL_waiting_7 ?_
      refine g_last C 0 rfl (ws2 := [(o1, .inl (cJ E, 1, .inr (.inl (vp_updL fo 0 (V a).toInt64))))] ++ wr a) rfl (inB_in (by decide +kernel)) dL_waiting_8 ?_
      refine g_goto C (tgt := 15) dL_waiting_9 (by decide) ?_
      refine g_iconst C (v := 0) (by decide) dL_waiting_15 ?_
      exact g_iret C hQ rfl ⟨by decide, by decide⟩ dL_waiting_16
abbrev r_L_came : Room := { frames := 10, cells := 1, slots := 6, locals := 162 }
def ec_came : String → Int32 := fun x => if x = "java/lang/IndexOutOfBoundsException" then 1 else 0
theorem m_L_came_0 : Cond.classLink RL 13 "java/lang/IndexOutOfBoundsException" ∈ wsL_came := by decide +kernel
set_option maxHeartbeats 4000000 in
set_option maxRecDepth 100000 in
theorem c_L_came {α : Type} (E : gE) (o1 x0 : Nat) (fo : Nat → Int64) (p1 : Int32) {wx : va_W} {wr : α → va_W} {V : α → Int32} {oc : String ⊕ α} {fs : List Value} (hM : Ct E yX4_came wsX4_came r_X4_came [.ref x0, .int p1] wx (gO (fun a => some (.int (V a))) wr oc)) (hb0 : wx[0]? = some (x0, .inr (6, fs))) (hex : ∀ x, oc = .inl x → x = "java/lang/IndexOutOfBoundsException") : Ct E yL_came wsL_came r_L_came [.ref x0, .int p1, .ref o1] ([(o1, .inl (cJ E, 1, .inr (.inl fo)))] ++ wx) (gO (fun u : Int32 × va_W => some (.int u.1)) (fun u => u.2) (.inr (wRes ec_came ([(o1, .inl (cJ E, 1, .inr (.inl fo)))] ++ wx) (fun a => [(o1, .inl (cJ E, 1, .inr (.inl (vp_updL fo 0 (V a).toInt64))))] ++ wr a) oc))) := by
  refine Ct.ofH (cc := cL_came) (nL := 4) (ret := (some .int)) (own := RL) (hh := [(0, 9, 12, 13)]) (by decide) rfl rfl (Nat.le_of_ble_eq_true rfl) rfl ?_ ?_
  · intro v w9 hh9
    cases oc with
    | inl x => cases hh9; rfl
    | inr a =>
      have had := hM.1 _ _ rfl
      cases hh9
      simp only [wRes, gAd, List.map_append, List.map_cons, List.map_nil] at had ⊢
      rw [had]
  · intro X C hQ
    refine g_aload_n C 2 rfl rfl dL_came_0 ?_
    refine g_iconst C (v := 0) (by decide) dL_came_1 ?_
    refine g_aload_n C 0 rfl rfl dL_came_2 ?_
    refine g_iload_n C 1 rfl rfl dL_came_3 ?_
    refine g_callX (As := [.int p1]) (n9 := 1) (st := [.int 0, .ref o1]) (w2 := fun a => [(o1, .inl (cJ E, 1, .inr (.inl fo)))] ++ wr a) C hM gL_came_X4_came rfl (by decide +kernel) rfl ⟨by decide, by decide, by decide, by decide, Nat.le_of_ble_eq_true rfl⟩ 0 hb0 rfl (gSub.post rfl) (fun _ => rfl) dL_came_4 (fun x hx q => ?_) (fun a ha => ?_)
    · have hx2 := hex x hx
      subst hx2
      subst hx
      refine g_catch [] ⟨0, 9, 12, 13⟩ [] C rfl (fun z hz => nomatch hz) (by decide +kernel) (by decide) m_L_came_0 (by decide +kernel) ?_
      refine g_astore_n C (lv2 := [(3, .ref q), (0, .ref x0), (1, .int p1), (2, .ref o1)]) rfl (by decide) rfl dL_came_12 ?_
      refine g_iconst C (v := 1) (by decide) dL_came_13 ?_
      exact g_iret C hQ (by simp [gO, wRes, ec_came]) ⟨by decide, by decide⟩ dL_came_14
    · subst ha
      refine g_i2l C dL_came_7 ?_
      refine g_last C 0 rfl (ws2 := [(o1, .inl (cJ E, 1, .inr (.inl (vp_updL fo 0 (V a).toInt64))))] ++ wr a) rfl (inB_in (by decide +kernel)) dL_came_8 ?_
      refine g_goto C (tgt := 15) dL_came_9 (by decide) ?_
      refine g_iconst C (v := 0) (by decide) dL_came_15 ?_
      exact g_iret C hQ rfl ⟨by decide, by decide⟩ dL_came_16
abbrev r_L_waits : Room := { frames := 10, cells := 2, slots := 12, locals := 163 }
def ec_waits : String → Int32 := fun x => if x = "java/lang/IndexOutOfBoundsException" then 1 else if x = "java/util/NoSuchElementException" then 2 else 0
theorem m_L_waits_0 : Cond.classLink RL 13 "java/lang/IndexOutOfBoundsException" ∈ wsL_waits := by decide +kernel
theorem m_L_waits_1 : Cond.classLink RL 34 "java/util/NoSuchElementException" ∈ wsL_waits := by decide +kernel
set_option maxHeartbeats 4000000 in
set_option maxRecDepth 100000 in
theorem c_L_waits {α : Type} (E : gE) (o1 x0 : Nat) (fo : Nat → Int64) (p1 : Int32) (p2 : Int32) {wx : va_W} {wr : α → va_W} {V : α → Int32} {oc : String ⊕ α} {fs : List Value} (hM : Ct E yX4_waits wsX4_waits r_X4_waits [.ref x0, .int p1, .int p2] wx (gO (fun a => some (.int (V a))) wr oc)) (hb0 : wx[0]? = some (x0, .inr (6, fs))) (hex : ∀ x, oc = .inl x → x = "java/lang/IndexOutOfBoundsException" ∨ x = "java/util/NoSuchElementException") : Ct E yL_waits wsL_waits r_L_waits [.ref x0, .int p1, .int p2, .ref o1] ([(o1, .inl (cJ E, 1, .inr (.inl fo)))] ++ wx) (gO (fun u : Int32 × va_W => some (.int u.1)) (fun u => u.2) (.inr (wRes ec_waits ([(o1, .inl (cJ E, 1, .inr (.inl fo)))] ++ wx) (fun a => [(o1, .inl (cJ E, 1, .inr (.inl (vp_updL fo 0 (V a).toInt64))))] ++ wr a) oc))) := by
  refine Ct.ofH (cc := cL_waits) (nL := 5) (ret := (some .int)) (own := RL) (hh := [(0, 10, 13, 13), (0, 10, 17, 34)]) (by decide) rfl rfl (Nat.le_of_ble_eq_true rfl) rfl ?_ ?_
  · intro v w9 hh9
    cases oc with
    | inl x => cases hh9; rfl
    | inr a =>
      have had := hM.1 _ _ rfl
      cases hh9
      simp only [wRes, gAd, List.map_append, List.map_cons, List.map_nil] at had ⊢
      rw [had]
  · intro X C hQ
    refine g_aload_n C 3 rfl rfl dL_waits_0 ?_
    refine g_iconst C (v := 0) (by decide) dL_waits_1 ?_
    refine g_aload_n C 0 rfl rfl dL_waits_2 ?_
    refine g_iload_n C 1 rfl rfl dL_waits_3 ?_
    refine g_iload_n C 2 rfl rfl dL_waits_4 ?_
    refine g_callX (As := [.int p1, .int p2]) (n9 := 2) (st := [.int 0, .ref o1]) (w2 := fun a => [(o1, .inl (cJ E, 1, .inr (.inl fo)))] ++ wr a) C hM gL_waits_X4_waits rfl (by decide +kernel) rfl ⟨by decide, by decide, by decide, by decide, Nat.le_of_ble_eq_true rfl⟩ 0 hb0 rfl (gSub.post rfl) (fun _ => rfl) dL_waits_5 (fun x hx q => ?_) (fun a ha => ?_)
    · rcases hex x hx with rfl | rfl
      · subst hx
        refine g_catch [] ⟨0, 10, 13, 13⟩ [⟨0, 10, 17, 34⟩] C rfl (fun z hz => nomatch hz) (by decide +kernel) (by decide) m_L_waits_0 (by decide +kernel) ?_
        refine g_astore C (lv2 := [(4, .ref q), (0, .ref x0), (1, .int p1), (2, .int p2), (3, .ref o1)]) rfl (by decide) dL_waits_13 ?_
        refine g_iconst C (v := 1) (by decide) dL_waits_15 ?_
        exact g_iret C hQ (by simp [gO, wRes, ec_waits]) ⟨by decide, by decide⟩ dL_waits_16
      · subst hx
        refine g_catch [⟨0, 10, 13, 13⟩] ⟨0, 10, 17, 34⟩ [] C rfl (List.forall_mem_cons.mpr ⟨⟨by decide, "java/lang/IndexOutOfBoundsException", m_L_waits_0, by decide +kernel, by decide⟩, fun z hz => nomatch hz⟩) (by decide +kernel) (by decide) m_L_waits_1 (by decide +kernel) ?_
        refine g_astore C (lv2 := [(4, .ref q), (0, .ref x0), (1, .int p1), (2, .int p2), (3, .ref o1)]) rfl (by decide) dL_waits_17 ?_
        refine g_iconst C (v := 2) (by decide) dL_waits_19 ?_
        exact g_iret C hQ (by simp [gO, wRes, ec_waits]) ⟨by decide, by decide⟩ dL_waits_20
    · subst ha
      refine g_i2l C dL_waits_8 ?_
      refine g_last C 0 rfl (ws2 := [(o1, .inl (cJ E, 1, .inr (.inl (vp_updL fo 0 (V a).toInt64))))] ++ wr a) rfl (inB_in (by decide +kernel)) dL_waits_9 ?_
      refine g_goto C (tgt := 21) dL_waits_10 (by decide) ?_
      refine g_iconst C (v := 0) (by decide) dL_waits_21 ?_
      exact g_iret C hQ rfl ⟨by decide, by decide⟩ dL_waits_22
abbrev r_L_cameAt : Room := { frames := 10, cells := 2, slots := 12, locals := 163 }
def ec_cameAt : String → Int32 := fun x => if x = "java/lang/IndexOutOfBoundsException" then 1 else if x = "java/util/NoSuchElementException" then 2 else 0
theorem m_L_cameAt_0 : Cond.classLink RL 13 "java/lang/IndexOutOfBoundsException" ∈ wsL_cameAt := by decide +kernel
theorem m_L_cameAt_1 : Cond.classLink RL 34 "java/util/NoSuchElementException" ∈ wsL_cameAt := by decide +kernel
set_option maxHeartbeats 4000000 in
set_option maxRecDepth 100000 in
theorem c_L_cameAt {α : Type} (E : gE) (o1 x0 : Nat) (fo : Nat → Int64) (p1 : Int32) (p2 : Int32) {wx : va_W} {wr : α → va_W} {V : α → Int32} {oc : String ⊕ α} {fs : List Value} (hM : Ct E yX4_cameAt wsX4_cameAt r_X4_cameAt [.ref x0, .int p1, .int p2] wx (gO (fun a => some (.int (V a))) wr oc)) (hb0 : wx[0]? = some (x0, .inr (6, fs))) (hex : ∀ x, oc = .inl x → x = "java/lang/IndexOutOfBoundsException" ∨ x = "java/util/NoSuchElementException") : Ct E yL_cameAt wsL_cameAt r_L_cameAt [.ref x0, .int p1, .int p2, .ref o1] ([(o1, .inl (cJ E, 1, .inr (.inl fo)))] ++ wx) (gO (fun u : Int32 × va_W => some (.int u.1)) (fun u => u.2) (.inr (wRes ec_cameAt ([(o1, .inl (cJ E, 1, .inr (.inl fo)))] ++ wx) (fun a => [(o1, .inl (cJ E, 1, .inr (.inl (vp_updL fo 0 (V a).toInt64))))] ++ wr a) oc))) := by
  refine Ct.ofH (cc := cL_cameAt) (nL := 5) (ret := (some .int)) (own := RL) (hh := [(0, 10, 13, 13), (0, 10, 17, 34)]) (by decide) rfl rfl (Nat.le_of_ble_eq_true rfl) rfl ?_ ?_
  · intro v w9 hh9
    cases oc with
    | inl x => cases hh9; rfl
    | inr a =>
      have had := hM.1 _ _ rfl
      cases hh9
      simp only [wRes, gAd, List.map_append, List.map_cons, List.map_nil] at had ⊢
      rw [had]
  · intro X C hQ
    refine g_aload_n C 3 rfl rfl dL_cameAt_0 ?_
    refine g_iconst C (v := 0) (by decide) dL_cameAt_1 ?_
    refine g_aload_n C 0 rfl rfl dL_cameAt_2 ?_
    refine g_iload_n C 1 rfl rfl dL_cameAt_3 ?_
    refine g_iload_n C 2 rfl rfl dL_cameAt_4 ?_
    refine g_callX (As := [.int p1, .int p2]) (n9 := 2) (st := [.int 0, .ref o1]) (w2 := fun a => [(o1, .inl (cJ E, 1, .inr (.inl fo)))] ++ wr a) C hM gL_cameAt_X4_cameAt rfl (by decide +kernel) rfl ⟨by decide, by decide, by decide, by decide, Nat.le_of_ble_eq_true rfl⟩ 0 hb0 rfl (gSub.post rfl) (fun _ => rfl) dL_cameAt_5 (fun x hx q => ?_) (fun a ha => ?_)
    · rcases hex x hx with rfl | rfl
      · subst hx
        refine g_catch [] ⟨0, 10, 13, 13⟩ [⟨0, 10, 17, 34⟩] C rfl (fun z hz => nomatch hz) (by decide +kernel) (by decide) m_L_cameAt_0 (by decide +kernel) ?_
        refine g_astore C (lv2 := [(4, .ref q), (0, .ref x0), (1, .int p1), (2, .int p2), (3, .ref o1)]) rfl (by decide) dL_cameAt_13 ?_
        refine g_iconst C (v := 1) (by decide) dL_cameAt_15 ?_
        exact g_iret C hQ (by simp [gO, wRes, ec_cameAt]) ⟨by decide, by decide⟩ dL_cameAt_16
      · subst hx
        refine g_catch [⟨0, 10, 13, 13⟩] ⟨0, 10, 17, 34⟩ [] C rfl (List.forall_mem_cons.mpr ⟨⟨by decide, "java/lang/IndexOutOfBoundsException", m_L_cameAt_0, by decide +kernel, by decide⟩, fun z hz => nomatch hz⟩) (by decide +kernel) (by decide) m_L_cameAt_1 (by decide +kernel) ?_
        refine g_astore C (lv2 := [(4, .ref q), (0, .ref x0), (1, .int p1), (2, .int p2), (3, .ref o1)]) rfl (by decide) dL_cameAt_17 ?_
        refine g_iconst C (v := 2) (by decide) dL_cameAt_19 ?_
        exact g_iret C hQ (by simp [gO, wRes, ec_cameAt]) ⟨by decide, by decide⟩ dL_cameAt_20
    · subst ha
      refine g_i2l C dL_cameAt_8 ?_
      refine g_last C 0 rfl (ws2 := [(o1, .inl (cJ E, 1, .inr (.inl (vp_updL fo 0 (V a).toInt64))))] ++ wr a) rfl (inB_in (by decide +kernel)) dL_cameAt_9 ?_
      refine g_goto C (tgt := 21) dL_cameAt_10 (by decide) ?_
      refine g_iconst C (v := 0) (by decide) dL_cameAt_21 ?_
      exact g_iret C hQ rfl ⟨by decide, by decide⟩ dL_cameAt_22
abbrev r_L_nextTime : Room := { frames := 10, cells := 2, slots := 12, locals := 165 }
def ec_nextTime : String → Int32 := fun x => if x = "java/lang/IndexOutOfBoundsException" then 1 else if x = "java/util/NoSuchElementException" then 2 else 0
theorem m_L_nextTime_0 : Cond.classLink RL 13 "java/lang/IndexOutOfBoundsException" ∈ wsL_nextTime := by decide +kernel
theorem m_L_nextTime_1 : Cond.classLink RL 34 "java/util/NoSuchElementException" ∈ wsL_nextTime := by decide +kernel
set_option maxHeartbeats 4000000 in
set_option maxRecDepth 100000 in
theorem c_L_nextTime {α : Type} (E : gE) (o1 x0 : Nat) (fo : Nat → Int64) (p1 : Int32) (p2 : Int32) {wx : va_W} {wr : α → va_W} {V : α → Int32} {oc : String ⊕ α} {fs : List Value} (hM : Ct E yX4_nextTime wsX4_nextTime r_X4_nextTime [.ref x0, .int p1, .int p2] wx (gO (fun a => some (.int (V a))) wr oc)) (hb0 : wx[0]? = some (x0, .inr (6, fs))) (hex : ∀ x, oc = .inl x → x = "java/lang/IndexOutOfBoundsException" ∨ x = "java/util/NoSuchElementException") : Ct E yL_nextTime wsL_nextTime r_L_nextTime [.ref x0, .int p1, .int p2, .ref o1] ([(o1, .inl (cJ E, 1, .inr (.inl fo)))] ++ wx) (gO (fun u : Int32 × va_W => some (.int u.1)) (fun u => u.2) (.inr (wRes ec_nextTime ([(o1, .inl (cJ E, 1, .inr (.inl fo)))] ++ wx) (fun a => [(o1, .inl (cJ E, 1, .inr (.inl (vp_updL fo 0 (V a).toInt64))))] ++ wr a) oc))) := by
  refine Ct.ofH (cc := cL_nextTime) (nL := 5) (ret := (some .int)) (own := RL) (hh := [(0, 10, 13, 13), (0, 10, 17, 34)]) (by decide) rfl rfl (Nat.le_of_ble_eq_true rfl) rfl ?_ ?_
  · intro v w9 hh9
    cases oc with
    | inl x => cases hh9; rfl
    | inr a =>
      have had := hM.1 _ _ rfl
      cases hh9
      simp only [wRes, gAd, List.map_append, List.map_cons, List.map_nil] at had ⊢
      rw [had]
  · intro X C hQ
    refine g_aload_n C 3 rfl rfl dL_nextTime_0 ?_
    refine g_iconst C (v := 0) (by decide) dL_nextTime_1 ?_
    refine g_aload_n C 0 rfl rfl dL_nextTime_2 ?_
    refine g_iload_n C 1 rfl rfl dL_nextTime_3 ?_
    refine g_iload_n C 2 rfl rfl dL_nextTime_4 ?_
    refine g_callX (As := [.int p1, .int p2]) (n9 := 2) (st := [.int 0, .ref o1]) (w2 := fun a => [(o1, .inl (cJ E, 1, .inr (.inl fo)))] ++ wr a) C hM gL_nextTime_X4_nextTime rfl (by decide +kernel) rfl ⟨by decide, by decide, by decide, by decide, Nat.le_of_ble_eq_true rfl⟩ 0 hb0 rfl (gSub.post rfl) (fun _ => rfl) dL_nextTime_5 (fun x hx q => ?_) (fun a ha => ?_)
    · rcases hex x hx with rfl | rfl
      · subst hx
        refine g_catch [] ⟨0, 10, 13, 13⟩ [⟨0, 10, 17, 34⟩] C rfl (fun z hz => nomatch hz) (by decide +kernel) (by decide) m_L_nextTime_0 (by decide +kernel) ?_
        refine g_astore C (lv2 := [(4, .ref q), (0, .ref x0), (1, .int p1), (2, .int p2), (3, .ref o1)]) rfl (by decide) dL_nextTime_13 ?_
        refine g_iconst C (v := 1) (by decide) dL_nextTime_15 ?_
        exact g_iret C hQ (by simp [gO, wRes, ec_nextTime]) ⟨by decide, by decide⟩ dL_nextTime_16
      · subst hx
        refine g_catch [⟨0, 10, 13, 13⟩] ⟨0, 10, 17, 34⟩ [] C rfl (List.forall_mem_cons.mpr ⟨⟨by decide, "java/lang/IndexOutOfBoundsException", m_L_nextTime_0, by decide +kernel, by decide⟩, fun z hz => nomatch hz⟩) (by decide +kernel) (by decide) m_L_nextTime_1 (by decide +kernel) ?_
        refine g_astore C (lv2 := [(4, .ref q), (0, .ref x0), (1, .int p1), (2, .int p2), (3, .ref o1)]) rfl (by decide) dL_nextTime_17 ?_
        refine g_iconst C (v := 2) (by decide) dL_nextTime_19 ?_
        exact g_iret C hQ (by simp [gO, wRes, ec_nextTime]) ⟨by decide, by decide⟩ dL_nextTime_20
    · subst ha
      refine g_i2l C dL_nextTime_8 ?_
      refine g_last C 0 rfl (ws2 := [(o1, .inl (cJ E, 1, .inr (.inl (vp_updL fo 0 (V a).toInt64))))] ++ wr a) rfl (inB_in (by decide +kernel)) dL_nextTime_9 ?_
      refine g_goto C (tgt := 21) dL_nextTime_10 (by decide) ?_
      refine g_iconst C (v := 0) (by decide) dL_nextTime_21 ?_
      exact g_iret C hQ rfl ⟨by decide, by decide⟩ dL_nextTime_22
abbrev r_L_about : Room := { frames := 8, cells := 1, slots := 6, locals := 142 }
def ec_about : String → Int32 := fun x => if x = "java/lang/IndexOutOfBoundsException" then 1 else if x = "java/lang/IllegalArgumentException" then 2 else 0
theorem m_L_about_0 : Cond.classLink RL 13 "java/lang/IndexOutOfBoundsException" ∈ wsL_about := by decide +kernel
theorem m_L_about_1 : Cond.classLink RL 15 "java/lang/IllegalArgumentException" ∈ wsL_about := by decide +kernel
set_option maxHeartbeats 4000000 in
set_option maxRecDepth 100000 in
theorem c_L_about {α : Type} (E : gE) (o1 x0 : Nat) (fo : Nat → Int64) (p1 : Int32) (p2 : Int32) {wx : va_W} {wr : α → va_W} {V : α → Int64} {oc : String ⊕ α} {fs : List Value} (hM : Ct E yX4_about wsX4_about r_X4_about [.ref x0, .int p1, .int p2] wx (gO (fun a => some (.long (V a))) wr oc)) (hb0 : wx[0]? = some (x0, .inr (6, fs))) (hex : ∀ x, oc = .inl x → x = "java/lang/IndexOutOfBoundsException" ∨ x = "java/lang/IllegalArgumentException") : Ct E yL_about wsL_about r_L_about [.ref x0, .int p1, .int p2, .ref o1] ([(o1, .inl (cJ E, 1, .inr (.inl fo)))] ++ wx) (gO (fun u : Int32 × va_W => some (.int u.1)) (fun u => u.2) (.inr (wRes ec_about ([(o1, .inl (cJ E, 1, .inr (.inl fo)))] ++ wx) (fun a => [(o1, .inl (cJ E, 1, .inr (.inl (vp_updL fo 0 (V a)))))] ++ wr a) oc))) := by
  refine Ct.ofH (cc := cL_about) (nL := 5) (ret := (some .int)) (own := RL) (hh := [(0, 9, 12, 13), (0, 9, 16, 15)]) (by decide) rfl rfl (Nat.le_of_ble_eq_true rfl) rfl ?_ ?_
  · intro v w9 hh9
    cases oc with
    | inl x => cases hh9; rfl
    | inr a =>
      have had := hM.1 _ _ rfl
      cases hh9
      simp only [wRes, gAd, List.map_append, List.map_cons, List.map_nil] at had ⊢
      rw [had]
  · intro X C hQ
    refine g_aload_n C 3 rfl rfl dL_about_0 ?_
    refine g_iconst C (v := 0) (by decide) dL_about_1 ?_
    refine g_aload_n C 0 rfl rfl dL_about_2 ?_
    refine g_iload_n C 1 rfl rfl dL_about_3 ?_
    refine g_iload_n C 2 rfl rfl dL_about_4 ?_
    refine g_callX (As := [.int p1, .int p2]) (n9 := 2) (st := [.int 0, .ref o1]) (w2 := fun a => [(o1, .inl (cJ E, 1, .inr (.inl fo)))] ++ wr a) C hM gL_about_X4_about rfl (by decide +kernel) rfl ⟨by decide, by decide, by decide, by decide, Nat.le_of_ble_eq_true rfl⟩ 0 hb0 rfl (gSub.post rfl) (fun _ => rfl) dL_about_5 (fun x hx q => ?_) (fun a ha => ?_)
    · rcases hex x hx with rfl | rfl
      · subst hx
        refine g_catch [] ⟨0, 9, 12, 13⟩ [⟨0, 9, 16, 15⟩] C rfl (fun z hz => nomatch hz) (by decide +kernel) (by decide) m_L_about_0 (by decide +kernel) ?_
        refine g_astore C (lv2 := [(4, .ref q), (0, .ref x0), (1, .int p1), (2, .int p2), (3, .ref o1)]) rfl (by decide) dL_about_12 ?_
        refine g_iconst C (v := 1) (by decide) dL_about_14 ?_
        exact g_iret C hQ (by simp [gO, wRes, ec_about]) ⟨by decide, by decide⟩ dL_about_15
      · subst hx
        refine g_catch [⟨0, 9, 12, 13⟩] ⟨0, 9, 16, 15⟩ [] C rfl (List.forall_mem_cons.mpr ⟨⟨by decide, "java/lang/IndexOutOfBoundsException", m_L_about_0, by decide +kernel, by decide⟩, fun z hz => nomatch hz⟩) (by decide +kernel) (by decide) m_L_about_1 (by decide +kernel) ?_
        refine g_astore C (lv2 := [(4, .ref q), (0, .ref x0), (1, .int p1), (2, .int p2), (3, .ref o1)]) rfl (by decide) dL_about_16 ?_
        refine g_iconst C (v := 2) (by decide) dL_about_18 ?_
        exact g_iret C hQ (by simp [gO, wRes, ec_about]) ⟨by decide, by decide⟩ dL_about_19
    · subst ha
      refine g_last C 0 rfl (ws2 := [(o1, .inl (cJ E, 1, .inr (.inl (vp_updL fo 0 (V a)))))] ++ wr a) rfl (inB_in (by decide +kernel)) dL_about_8 ?_
      refine g_goto C (tgt := 20) dL_about_9 (by decide) ?_
      refine g_iconst C (v := 0) (by decide) dL_about_20 ?_
      exact g_iret C hQ rfl ⟨by decide, by decide⟩ dL_about_21
abbrev r_L_crowd : Room := { frames := 10, cells := 1, slots := 6, locals := 163 }
def ec_crowd : String → Int32 := fun x => if x = "java/lang/IndexOutOfBoundsException" then 1 else 0
theorem m_L_crowd_0 : Cond.classLink RL 13 "java/lang/IndexOutOfBoundsException" ∈ wsL_crowd := by decide +kernel
set_option maxHeartbeats 4000000 in
set_option maxRecDepth 100000 in
theorem c_L_crowd {α : Type} (E : gE) (o1 x0 : Nat) (fo : Nat → Int64) (p1 : Int32) (p2 : Int32) {wx : va_W} {wr : α → va_W} {V : α → Int32} {oc : String ⊕ α} {fs : List Value} (hM : Ct E yX4_crowd wsX4_crowd r_X4_crowd [.ref x0, .int p1, .int p2] wx (gO (fun a => some (.int (V a))) wr oc)) (hb0 : wx[0]? = some (x0, .inr (6, fs))) (hex : ∀ x, oc = .inl x → x = "java/lang/IndexOutOfBoundsException") : Ct E yL_crowd wsL_crowd r_L_crowd [.ref x0, .int p1, .int p2, .ref o1] ([(o1, .inl (cJ E, 1, .inr (.inl fo)))] ++ wx) (gO (fun u : Int32 × va_W => some (.int u.1)) (fun u => u.2) (.inr (wRes ec_crowd ([(o1, .inl (cJ E, 1, .inr (.inl fo)))] ++ wx) (fun a => [(o1, .inl (cJ E, 1, .inr (.inl (vp_updL fo 0 (V a).toInt64))))] ++ wr a) oc))) := by
  refine Ct.ofH (cc := cL_crowd) (nL := 5) (ret := (some .int)) (own := RL) (hh := [(0, 10, 13, 13)]) (by decide) rfl rfl (Nat.le_of_ble_eq_true rfl) rfl ?_ ?_
  · intro v w9 hh9
    cases oc with
    | inl x => cases hh9; rfl
    | inr a =>
      have had := hM.1 _ _ rfl
      cases hh9
      simp only [wRes, gAd, List.map_append, List.map_cons, List.map_nil] at had ⊢
      rw [had]
  · intro X C hQ
    refine g_aload_n C 3 rfl rfl dL_crowd_0 ?_
    refine g_iconst C (v := 0) (by decide) dL_crowd_1 ?_
    refine g_aload_n C 0 rfl rfl dL_crowd_2 ?_
    refine g_iload_n C 1 rfl rfl dL_crowd_3 ?_
    refine g_iload_n C 2 rfl rfl dL_crowd_4 ?_
    refine g_callX (As := [.int p1, .int p2]) (n9 := 2) (st := [.int 0, .ref o1]) (w2 := fun a => [(o1, .inl (cJ E, 1, .inr (.inl fo)))] ++ wr a) C hM gL_crowd_X4_crowd rfl (by decide +kernel) rfl ⟨by decide, by decide, by decide, by decide, Nat.le_of_ble_eq_true rfl⟩ 0 hb0 rfl (gSub.post rfl) (fun _ => rfl) dL_crowd_5 (fun x hx q => ?_) (fun a ha => ?_)
    · have hx2 := hex x hx
      subst hx2
      subst hx
      refine g_catch [] ⟨0, 10, 13, 13⟩ [] C rfl (fun z hz => nomatch hz) (by decide +kernel) (by decide) m_L_crowd_0 (by decide +kernel) ?_
      refine g_astore C (lv2 := [(4, .ref q), (0, .ref x0), (1, .int p1), (2, .int p2), (3, .ref o1)]) rfl (by decide) dL_crowd_13 ?_
      refine g_iconst C (v := 1) (by decide) dL_crowd_15 ?_
      exact g_iret C hQ (by simp [gO, wRes, ec_crowd]) ⟨by decide, by decide⟩ dL_crowd_16
    · subst ha
      refine g_i2l C dL_crowd_8 ?_
      refine g_last C 0 rfl (ws2 := [(o1, .inl (cJ E, 1, .inr (.inl (vp_updL fo 0 (V a).toInt64))))] ++ wr a) rfl (inB_in (by decide +kernel)) dL_crowd_9 ?_
      refine g_goto C (tgt := 17) dL_crowd_10 (by decide) ?_
      refine g_iconst C (v := 0) (by decide) dL_crowd_17 ?_
      exact g_iret C hQ rfl ⟨by decide, by decide⟩ dL_crowd_18
abbrev r_L_change : Room := { frames := 10, cells := 1, slots := 6, locals := 163 }
def ec_change : String → Int32 := fun x => if x = "java/lang/IndexOutOfBoundsException" then 1 else 0
theorem m_L_change_0 : Cond.classLink RL 13 "java/lang/IndexOutOfBoundsException" ∈ wsL_change := by decide +kernel
set_option maxHeartbeats 4000000 in
set_option maxRecDepth 100000 in
theorem c_L_change {α : Type} (E : gE) (o1 x0 : Nat) (fo : Nat → Int64) (p1 : Int32) (p2 : Int32) {wx : va_W} {wr : α → va_W} {V : α → Int32} {oc : String ⊕ α} {fs : List Value} (hM : Ct E yX4_change wsX4_change r_X4_change [.ref x0, .int p1, .int p2] wx (gO (fun a => some (.int (V a))) wr oc)) (hb0 : wx[0]? = some (x0, .inr (6, fs))) (hex : ∀ x, oc = .inl x → x = "java/lang/IndexOutOfBoundsException") : Ct E yL_change wsL_change r_L_change [.ref x0, .int p1, .int p2, .ref o1] ([(o1, .inl (cJ E, 1, .inr (.inl fo)))] ++ wx) (gO (fun u : Int32 × va_W => some (.int u.1)) (fun u => u.2) (.inr (wRes ec_change ([(o1, .inl (cJ E, 1, .inr (.inl fo)))] ++ wx) (fun a => [(o1, .inl (cJ E, 1, .inr (.inl (vp_updL fo 0 (V a).toInt64))))] ++ wr a) oc))) := by
  refine Ct.ofH (cc := cL_change) (nL := 5) (ret := (some .int)) (own := RL) (hh := [(0, 10, 13, 13)]) (by decide) rfl rfl (Nat.le_of_ble_eq_true rfl) rfl ?_ ?_
  · intro v w9 hh9
    cases oc with
    | inl x => cases hh9; rfl
    | inr a =>
      have had := hM.1 _ _ rfl
      cases hh9
      simp only [wRes, gAd, List.map_append, List.map_cons, List.map_nil] at had ⊢
      rw [had]
  · intro X C hQ
    refine g_aload_n C 3 rfl rfl dL_change_0 ?_
    refine g_iconst C (v := 0) (by decide) dL_change_1 ?_
    refine g_aload_n C 0 rfl rfl dL_change_2 ?_
    refine g_iload_n C 1 rfl rfl dL_change_3 ?_
    refine g_iload_n C 2 rfl rfl dL_change_4 ?_
    refine g_callX (As := [.int p1, .int p2]) (n9 := 2) (st := [.int 0, .ref o1]) (w2 := fun a => [(o1, .inl (cJ E, 1, .inr (.inl fo)))] ++ wr a) C hM gL_change_X4_change rfl (by decide +kernel) rfl ⟨by decide, by decide, by decide, by decide, Nat.le_of_ble_eq_true rfl⟩ 0 hb0 rfl (gSub.post rfl) (fun _ => rfl) dL_change_5 (fun x hx q => ?_) (fun a ha => ?_)
    · have hx2 := hex x hx
      subst hx2
      subst hx
      refine g_catch [] ⟨0, 10, 13, 13⟩ [] C rfl (fun z hz => nomatch hz) (by decide +kernel) (by decide) m_L_change_0 (by decide +kernel) ?_
      refine g_astore C (lv2 := [(4, .ref q), (0, .ref x0), (1, .int p1), (2, .int p2), (3, .ref o1)]) rfl (by decide) dL_change_13 ?_
      refine g_iconst C (v := 1) (by decide) dL_change_15 ?_
      exact g_iret C hQ (by simp [gO, wRes, ec_change]) ⟨by decide, by decide⟩ dL_change_16
    · subst ha
      refine g_i2l C dL_change_8 ?_
      refine g_last C 0 rfl (ws2 := [(o1, .inl (cJ E, 1, .inr (.inl (vp_updL fo 0 (V a).toInt64))))] ++ wr a) rfl (inB_in (by decide +kernel)) dL_change_9 ?_
      refine g_goto C (tgt := 17) dL_change_10 (by decide) ?_
      refine g_iconst C (v := 0) (by decide) dL_change_17 ?_
      exact g_iret C hQ rfl ⟨by decide, by decide⟩ dL_change_18
abbrev r_L_greatest : Room := { frames := 10, cells := 1, slots := 6, locals := 162 }
def ec_greatest : String → Int32 := fun x => if x = "java/lang/IndexOutOfBoundsException" then 1 else 0
theorem m_L_greatest_0 : Cond.classLink RL 13 "java/lang/IndexOutOfBoundsException" ∈ wsL_greatest := by decide +kernel
set_option maxHeartbeats 4000000 in
set_option maxRecDepth 100000 in
theorem c_L_greatest {α : Type} (E : gE) (o1 x0 : Nat) (fo : Nat → Int64) (p1 : Int32) {wx : va_W} {wr : α → va_W} {V : α → Int32} {oc : String ⊕ α} {fs : List Value} (hM : Ct E yX4_greatest wsX4_greatest r_X4_greatest [.ref x0, .int p1] wx (gO (fun a => some (.int (V a))) wr oc)) (hb0 : wx[0]? = some (x0, .inr (6, fs))) (hex : ∀ x, oc = .inl x → x = "java/lang/IndexOutOfBoundsException") : Ct E yL_greatest wsL_greatest r_L_greatest [.ref x0, .int p1, .ref o1] ([(o1, .inl (cJ E, 1, .inr (.inl fo)))] ++ wx) (gO (fun u : Int32 × va_W => some (.int u.1)) (fun u => u.2) (.inr (wRes ec_greatest ([(o1, .inl (cJ E, 1, .inr (.inl fo)))] ++ wx) (fun a => [(o1, .inl (cJ E, 1, .inr (.inl (vp_updL fo 0 (V a).toInt64))))] ++ wr a) oc))) := by
  refine Ct.ofH (cc := cL_greatest) (nL := 4) (ret := (some .int)) (own := RL) (hh := [(0, 9, 12, 13)]) (by decide) rfl rfl (Nat.le_of_ble_eq_true rfl) rfl ?_ ?_
  · intro v w9 hh9
    cases oc with
    | inl x => cases hh9; rfl
    | inr a =>
      have had := hM.1 _ _ rfl
      cases hh9
      simp only [wRes, gAd, List.map_append, List.map_cons, List.map_nil] at had ⊢
      rw [had]
  · intro X C hQ
    refine g_aload_n C 2 rfl rfl dL_greatest_0 ?_
    refine g_iconst C (v := 0) (by decide) dL_greatest_1 ?_
    refine g_aload_n C 0 rfl rfl dL_greatest_2 ?_
    refine g_iload_n C 1 rfl rfl dL_greatest_3 ?_
    refine g_callX (As := [.int p1]) (n9 := 1) (st := [.int 0, .ref o1]) (w2 := fun a => [(o1, .inl (cJ E, 1, .inr (.inl fo)))] ++ wr a) C hM gL_greatest_X4_greatest rfl (by decide +kernel) rfl ⟨by decide, by decide, by decide, by decide, Nat.le_of_ble_eq_true rfl⟩ 0 hb0 rfl (gSub.post rfl) (fun _ => rfl) dL_greatest_4 (fun x hx q => ?_) (fun a ha => ?_)
    · have hx2 := hex x hx
      subst hx2
      subst hx
      refine g_catch [] ⟨0, 9, 12, 13⟩ [] C rfl (fun z hz => nomatch hz) (by decide +kernel) (by decide) m_L_greatest_0 (by decide +kernel) ?_
      refine g_astore_n C (lv2 := [(3, .ref q), (0, .ref x0), (1, .int p1), (2, .ref o1)]) rfl (by decide) rfl dL_greatest_12 ?_
      refine g_iconst C (v := 1) (by decide) dL_greatest_13 ?_
      exact g_iret C hQ (by simp [gO, wRes, ec_greatest]) ⟨by decide, by decide⟩ dL_greatest_14
    · subst ha
      refine g_i2l C dL_greatest_7 ?_
      refine g_last C 0 rfl (ws2 := [(o1, .inl (cJ E, 1, .inr (.inl (vp_updL fo 0 (V a).toInt64))))] ++ wr a) rfl (inB_in (by decide +kernel)) dL_greatest_8 ?_
      refine g_goto C (tgt := 15) dL_greatest_9 (by decide) ?_
      refine g_iconst C (v := 0) (by decide) dL_greatest_15 ?_
      exact g_iret C hQ rfl ⟨by decide, by decide⟩ dL_greatest_16
abbrev r_L_greatestFrom : Room := { frames := 10, cells := 2, slots := 12, locals := 163 }
def ec_greatestFrom : String → Int32 := fun x => if x = "java/lang/IndexOutOfBoundsException" then 1 else if x = "java/util/NoSuchElementException" then 2 else 0
theorem m_L_greatestFrom_0 : Cond.classLink RL 13 "java/lang/IndexOutOfBoundsException" ∈ wsL_greatestFrom := by decide +kernel
theorem m_L_greatestFrom_1 : Cond.classLink RL 34 "java/util/NoSuchElementException" ∈ wsL_greatestFrom := by decide +kernel
set_option maxHeartbeats 4000000 in
set_option maxRecDepth 100000 in
theorem c_L_greatestFrom {α : Type} (E : gE) (o1 x0 : Nat) (fo : Nat → Int64) (p1 : Int32) {wx : va_W} {wr : α → va_W} {V : α → Int32} {oc : String ⊕ α} {fs : List Value} (hM : Ct E yX4_greatestFrom wsX4_greatestFrom r_X4_greatestFrom [.ref x0, .int p1] wx (gO (fun a => some (.int (V a))) wr oc)) (hb0 : wx[0]? = some (x0, .inr (6, fs))) (hex : ∀ x, oc = .inl x → x = "java/lang/IndexOutOfBoundsException" ∨ x = "java/util/NoSuchElementException") : Ct E yL_greatestFrom wsL_greatestFrom r_L_greatestFrom [.ref x0, .int p1, .ref o1] ([(o1, .inl (cJ E, 1, .inr (.inl fo)))] ++ wx) (gO (fun u : Int32 × va_W => some (.int u.1)) (fun u => u.2) (.inr (wRes ec_greatestFrom ([(o1, .inl (cJ E, 1, .inr (.inl fo)))] ++ wx) (fun a => [(o1, .inl (cJ E, 1, .inr (.inl (vp_updL fo 0 (V a).toInt64))))] ++ wr a) oc))) := by
  refine Ct.ofH (cc := cL_greatestFrom) (nL := 4) (ret := (some .int)) (own := RL) (hh := [(0, 9, 12, 13), (0, 9, 15, 34)]) (by decide) rfl rfl (Nat.le_of_ble_eq_true rfl) rfl ?_ ?_
  · intro v w9 hh9
    cases oc with
    | inl x => cases hh9; rfl
    | inr a =>
      have had := hM.1 _ _ rfl
      cases hh9
      simp only [wRes, gAd, List.map_append, List.map_cons, List.map_nil] at had ⊢
      rw [had]
  · intro X C hQ
    refine g_aload_n C 2 rfl rfl dL_greatestFrom_0 ?_
    refine g_iconst C (v := 0) (by decide) dL_greatestFrom_1 ?_
    refine g_aload_n C 0 rfl rfl dL_greatestFrom_2 ?_
    refine g_iload_n C 1 rfl rfl dL_greatestFrom_3 ?_
    refine g_callX (As := [.int p1]) (n9 := 1) (st := [.int 0, .ref o1]) (w2 := fun a => [(o1, .inl (cJ E, 1, .inr (.inl fo)))] ++ wr a) C hM gL_greatestFrom_X4_greatestFrom rfl (by decide +kernel) rfl ⟨by decide, by decide, by decide, by decide, Nat.le_of_ble_eq_true rfl⟩ 0 hb0 rfl (gSub.post rfl) (fun _ => rfl) dL_greatestFrom_4 (fun x hx q => ?_) (fun a ha => ?_)
    · rcases hex x hx with rfl | rfl
      · subst hx
        refine g_catch [] ⟨0, 9, 12, 13⟩ [⟨0, 9, 15, 34⟩] C rfl (fun z hz => nomatch hz) (by decide +kernel) (by decide) m_L_greatestFrom_0 (by decide +kernel) ?_
        refine g_astore_n C (lv2 := [(3, .ref q), (0, .ref x0), (1, .int p1), (2, .ref o1)]) rfl (by decide) rfl dL_greatestFrom_12 ?_
        refine g_iconst C (v := 1) (by decide) dL_greatestFrom_13 ?_
        exact g_iret C hQ (by simp [gO, wRes, ec_greatestFrom]) ⟨by decide, by decide⟩ dL_greatestFrom_14
      · subst hx
        refine g_catch [⟨0, 9, 12, 13⟩] ⟨0, 9, 15, 34⟩ [] C rfl (List.forall_mem_cons.mpr ⟨⟨by decide, "java/lang/IndexOutOfBoundsException", m_L_greatestFrom_0, by decide +kernel, by decide⟩, fun z hz => nomatch hz⟩) (by decide +kernel) (by decide) m_L_greatestFrom_1 (by decide +kernel) ?_
        refine g_astore_n C (lv2 := [(3, .ref q), (0, .ref x0), (1, .int p1), (2, .ref o1)]) rfl (by decide) rfl dL_greatestFrom_15 ?_
        refine g_iconst C (v := 2) (by decide) dL_greatestFrom_16 ?_
        exact g_iret C hQ (by simp [gO, wRes, ec_greatestFrom]) ⟨by decide, by decide⟩ dL_greatestFrom_17
    · subst ha
      refine g_i2l C dL_greatestFrom_7 ?_
      refine g_last C 0 rfl (ws2 := [(o1, .inl (cJ E, 1, .inr (.inl (vp_updL fo 0 (V a).toInt64))))] ++ wr a) rfl (inB_in (by decide +kernel)) dL_greatestFrom_8 ?_
      refine g_goto C (tgt := 18) dL_greatestFrom_9 (by decide) ?_
      refine g_iconst C (v := 0) (by decide) dL_greatestFrom_18 ?_
      exact g_iret C hQ rfl ⟨by decide, by decide⟩ dL_greatestFrom_19
abbrev r_L_busy : Room := { frames := 10, cells := 2, slots := 12, locals := 165 }
def ec_busy : String → Int32 := fun x => if x = "java/lang/IndexOutOfBoundsException" then 1 else if x = "java/lang/IllegalArgumentException" then 2 else 0
theorem m_L_busy_0 : Cond.classLink RL 13 "java/lang/IndexOutOfBoundsException" ∈ wsL_busy := by decide +kernel
theorem m_L_busy_1 : Cond.classLink RL 15 "java/lang/IllegalArgumentException" ∈ wsL_busy := by decide +kernel
set_option maxHeartbeats 4000000 in
set_option maxRecDepth 100000 in
theorem c_L_busy {α : Type} (E : gE) (o1 x0 : Nat) (fo : Nat → Int64) (p1 : Int32) (p2 : Int32) (p3 : Int32) {wx : va_W} {wr : α → va_W} {V : α → Int32} {oc : String ⊕ α} {fs : List Value} (hM : Ct E yX4_busy wsX4_busy r_X4_busy [.ref x0, .int p1, .int p2, .int p3] wx (gO (fun a => some (.int (V a))) wr oc)) (hb0 : wx[0]? = some (x0, .inr (6, fs))) (hex : ∀ x, oc = .inl x → x = "java/lang/IndexOutOfBoundsException" ∨ x = "java/lang/IllegalArgumentException") : Ct E yL_busy wsL_busy r_L_busy [.ref x0, .int p1, .int p2, .int p3, .ref o1] ([(o1, .inl (cJ E, 1, .inr (.inl fo)))] ++ wx) (gO (fun u : Int32 × va_W => some (.int u.1)) (fun u => u.2) (.inr (wRes ec_busy ([(o1, .inl (cJ E, 1, .inr (.inl fo)))] ++ wx) (fun a => [(o1, .inl (cJ E, 1, .inr (.inl (vp_updL fo 0 (V a).toInt64))))] ++ wr a) oc))) := by
  refine Ct.ofH (cc := cL_busy) (nL := 6) (ret := (some .int)) (own := RL) (hh := [(0, 12, 15, 13), (0, 12, 19, 15)]) (by decide) rfl rfl (Nat.le_of_ble_eq_true rfl) rfl ?_ ?_
  · intro v w9 hh9
    cases oc with
    | inl x => cases hh9; rfl
    | inr a =>
      have had := hM.1 _ _ rfl
      cases hh9
      simp only [wRes, gAd, List.map_append, List.map_cons, List.map_nil] at had ⊢
      rw [had]
  · intro X C hQ
    refine g_aload C 4 rfl dL_busy_0 ?_
    refine g_iconst C (v := 0) (by decide) dL_busy_2 ?_
    refine g_aload_n C 0 rfl rfl dL_busy_3 ?_
    refine g_iload_n C 1 rfl rfl dL_busy_4 ?_
    refine g_iload_n C 2 rfl rfl dL_busy_5 ?_
    refine g_iload_n C 3 rfl rfl dL_busy_6 ?_
    refine g_callX (As := [.int p1, .int p2, .int p3]) (n9 := 3) (st := [.int 0, .ref o1]) (w2 := fun a => [(o1, .inl (cJ E, 1, .inr (.inl fo)))] ++ wr a) C hM gL_busy_X4_busy rfl (by decide +kernel) rfl ⟨by decide, by decide, by decide, by decide, Nat.le_of_ble_eq_true rfl⟩ 0 hb0 rfl (gSub.post rfl) (fun _ => rfl) dL_busy_7 (fun x hx q => ?_) (fun a ha => ?_)
    · rcases hex x hx with rfl | rfl
      · subst hx
        refine g_catch [] ⟨0, 12, 15, 13⟩ [⟨0, 12, 19, 15⟩] C rfl (fun z hz => nomatch hz) (by decide +kernel) (by decide) m_L_busy_0 (by decide +kernel) ?_
        refine g_astore C (lv2 := [(5, .ref q), (0, .ref x0), (1, .int p1), (2, .int p2), (3, .int p3), (4, .ref o1)]) rfl (by decide) dL_busy_15 ?_
        refine g_iconst C (v := 1) (by decide) dL_busy_17 ?_
        exact g_iret C hQ (by simp [gO, wRes, ec_busy]) ⟨by decide, by decide⟩ dL_busy_18
      · subst hx
        refine g_catch [⟨0, 12, 15, 13⟩] ⟨0, 12, 19, 15⟩ [] C rfl (List.forall_mem_cons.mpr ⟨⟨by decide, "java/lang/IndexOutOfBoundsException", m_L_busy_0, by decide +kernel, by decide⟩, fun z hz => nomatch hz⟩) (by decide +kernel) (by decide) m_L_busy_1 (by decide +kernel) ?_
        refine g_astore C (lv2 := [(5, .ref q), (0, .ref x0), (1, .int p1), (2, .int p2), (3, .int p3), (4, .ref o1)]) rfl (by decide) dL_busy_19 ?_
        refine g_iconst C (v := 2) (by decide) dL_busy_21 ?_
        exact g_iret C hQ (by simp [gO, wRes, ec_busy]) ⟨by decide, by decide⟩ dL_busy_22
    · subst ha
      refine g_i2l C dL_busy_10 ?_
      refine g_last C 0 rfl (ws2 := [(o1, .inl (cJ E, 1, .inr (.inl (vp_updL fo 0 (V a).toInt64))))] ++ wr a) rfl (inB_in (by decide +kernel)) dL_busy_11 ?_
      refine g_goto C (tgt := 23) dL_busy_12 (by decide) ?_
      refine g_iconst C (v := 0) (by decide) dL_busy_23 ?_
      exact g_iret C hQ rfl ⟨by decide, by decide⟩ dL_busy_24
abbrev r_L_spans : Room := { frames := 10, cells := 1, slots := 6, locals := 162 }
def ec_spans : String → Int32 := fun x => if x = "java/lang/IndexOutOfBoundsException" then 1 else 0
theorem m_L_spans_0 : Cond.classLink RL 13 "java/lang/IndexOutOfBoundsException" ∈ wsL_spans := by decide +kernel
set_option maxHeartbeats 4000000 in
set_option maxRecDepth 100000 in
theorem c_L_spans {α : Type} (E : gE) (o1 x0 : Nat) (fo : Nat → Int64) (p1 : Int32) {wx : va_W} {wr : α → va_W} {V : α → Int32} {oc : String ⊕ α} {fs : List Value} (hM : Ct E yX4_spans wsX4_spans r_X4_spans [.ref x0, .int p1] wx (gO (fun a => some (.int (V a))) wr oc)) (hb0 : wx[0]? = some (x0, .inr (6, fs))) (hex : ∀ x, oc = .inl x → x = "java/lang/IndexOutOfBoundsException") : Ct E yL_spans wsL_spans r_L_spans [.ref x0, .int p1, .ref o1] ([(o1, .inl (cJ E, 1, .inr (.inl fo)))] ++ wx) (gO (fun u : Int32 × va_W => some (.int u.1)) (fun u => u.2) (.inr (wRes ec_spans ([(o1, .inl (cJ E, 1, .inr (.inl fo)))] ++ wx) (fun a => [(o1, .inl (cJ E, 1, .inr (.inl (vp_updL fo 0 (V a).toInt64))))] ++ wr a) oc))) := by
  refine Ct.ofH (cc := cL_spans) (nL := 4) (ret := (some .int)) (own := RL) (hh := [(0, 9, 12, 13)]) (by decide) rfl rfl (Nat.le_of_ble_eq_true rfl) rfl ?_ ?_
  · intro v w9 hh9
    cases oc with
    | inl x => cases hh9; rfl
    | inr a =>
      have had := hM.1 _ _ rfl
      cases hh9
      simp only [wRes, gAd, List.map_append, List.map_cons, List.map_nil] at had ⊢
      rw [had]
  · intro X C hQ
    refine g_aload_n C 2 rfl rfl dL_spans_0 ?_
    refine g_iconst C (v := 0) (by decide) dL_spans_1 ?_
    refine g_aload_n C 0 rfl rfl dL_spans_2 ?_
    refine g_iload_n C 1 rfl rfl dL_spans_3 ?_
    refine g_callX (As := [.int p1]) (n9 := 1) (st := [.int 0, .ref o1]) (w2 := fun a => [(o1, .inl (cJ E, 1, .inr (.inl fo)))] ++ wr a) C hM gL_spans_X4_spans rfl (by decide +kernel) rfl ⟨by decide, by decide, by decide, by decide, Nat.le_of_ble_eq_true rfl⟩ 0 hb0 rfl (gSub.post rfl) (fun _ => rfl) dL_spans_4 (fun x hx q => ?_) (fun a ha => ?_)
    · have hx2 := hex x hx
      subst hx2
      subst hx
      refine g_catch [] ⟨0, 9, 12, 13⟩ [] C rfl (fun z hz => nomatch hz) (by decide +kernel) (by decide) m_L_spans_0 (by decide +kernel) ?_
      refine g_astore_n C (lv2 := [(3, .ref q), (0, .ref x0), (1, .int p1), (2, .ref o1)]) rfl (by decide) rfl dL_spans_12 ?_
      refine g_iconst C (v := 1) (by decide) dL_spans_13 ?_
      exact g_iret C hQ (by simp [gO, wRes, ec_spans]) ⟨by decide, by decide⟩ dL_spans_14
    · subst ha
      refine g_i2l C dL_spans_7 ?_
      refine g_last C 0 rfl (ws2 := [(o1, .inl (cJ E, 1, .inr (.inl (vp_updL fo 0 (V a).toInt64))))] ++ wr a) rfl (inB_in (by decide +kernel)) dL_spans_8 ?_
      refine g_goto C (tgt := 15) dL_spans_9 (by decide) ?_
      refine g_iconst C (v := 0) (by decide) dL_spans_15 ?_
      exact g_iret C hQ rfl ⟨by decide, by decide⟩ dL_spans_16
abbrev r_L_span : Room := { frames := 10, cells := 2, slots := 12, locals := 166 }
def ec_span : String → Int32 := fun x => if x = "java/lang/IndexOutOfBoundsException" then 1 else if x = "java/lang/IllegalArgumentException" then 2 else if x = "java/util/NoSuchElementException" then 3 else 0
theorem m_L_span_0 : Cond.classLink RL 13 "java/lang/IndexOutOfBoundsException" ∈ wsL_span := by decide +kernel
theorem m_L_span_1 : Cond.classLink RL 15 "java/lang/IllegalArgumentException" ∈ wsL_span := by decide +kernel
theorem m_L_span_2 : Cond.classLink RL 34 "java/util/NoSuchElementException" ∈ wsL_span := by decide +kernel
set_option maxHeartbeats 4000000 in
set_option maxRecDepth 100000 in
theorem c_L_span {α : Type} (E : gE) (o1 x0 : Nat) (fo : Nat → Int64) (p1 : Int32) (p2 : Int32) (p3 : Int32) {wx : va_W} {wr : α → va_W} {V : α → Int32} {oc : String ⊕ α} {fs : List Value} (hM : Ct E yX4_span wsX4_span r_X4_span [.ref x0, .int p1, .int p2, .int p3] wx (gO (fun a => some (.int (V a))) wr oc)) (hb0 : wx[0]? = some (x0, .inr (6, fs))) (hex : ∀ x, oc = .inl x → x = "java/lang/IndexOutOfBoundsException" ∨ x = "java/lang/IllegalArgumentException" ∨ x = "java/util/NoSuchElementException") : Ct E yL_span wsL_span r_L_span [.ref x0, .int p1, .int p2, .int p3, .ref o1] ([(o1, .inl (cJ E, 1, .inr (.inl fo)))] ++ wx) (gO (fun u : Int32 × va_W => some (.int u.1)) (fun u => u.2) (.inr (wRes ec_span ([(o1, .inl (cJ E, 1, .inr (.inl fo)))] ++ wx) (fun a => [(o1, .inl (cJ E, 1, .inr (.inl (vp_updL fo 0 (V a).toInt64))))] ++ wr a) oc))) := by
  refine Ct.ofH (cc := cL_span) (nL := 6) (ret := (some .int)) (own := RL) (hh := [(0, 12, 15, 13), (0, 12, 19, 15), (0, 12, 23, 34)]) (by decide) rfl rfl (Nat.le_of_ble_eq_true rfl) rfl ?_ ?_
  · intro v w9 hh9
    cases oc with
    | inl x => cases hh9; rfl
    | inr a =>
      have had := hM.1 _ _ rfl
      cases hh9
      simp only [wRes, gAd, List.map_append, List.map_cons, List.map_nil] at had ⊢
      rw [had]
  · intro X C hQ
    refine g_aload C 4 rfl dL_span_0 ?_
    refine g_iconst C (v := 0) (by decide) dL_span_2 ?_
    refine g_aload_n C 0 rfl rfl dL_span_3 ?_
    refine g_iload_n C 1 rfl rfl dL_span_4 ?_
    refine g_iload_n C 2 rfl rfl dL_span_5 ?_
    refine g_iload_n C 3 rfl rfl dL_span_6 ?_
    refine g_callX (As := [.int p1, .int p2, .int p3]) (n9 := 3) (st := [.int 0, .ref o1]) (w2 := fun a => [(o1, .inl (cJ E, 1, .inr (.inl fo)))] ++ wr a) C hM gL_span_X4_span rfl (by decide +kernel) rfl ⟨by decide, by decide, by decide, by decide, Nat.le_of_ble_eq_true rfl⟩ 0 hb0 rfl (gSub.post rfl) (fun _ => rfl) dL_span_7 (fun x hx q => ?_) (fun a ha => ?_)
    · rcases hex x hx with rfl | rfl | rfl
      · subst hx
        refine g_catch [] ⟨0, 12, 15, 13⟩ [⟨0, 12, 19, 15⟩, ⟨0, 12, 23, 34⟩] C rfl (fun z hz => nomatch hz) (by decide +kernel) (by decide) m_L_span_0 (by decide +kernel) ?_
        refine g_astore C (lv2 := [(5, .ref q), (0, .ref x0), (1, .int p1), (2, .int p2), (3, .int p3), (4, .ref o1)]) rfl (by decide) dL_span_15 ?_
        refine g_iconst C (v := 1) (by decide) dL_span_17 ?_
        exact g_iret C hQ (by simp [gO, wRes, ec_span]) ⟨by decide, by decide⟩ dL_span_18
      · subst hx
        refine g_catch [⟨0, 12, 15, 13⟩] ⟨0, 12, 19, 15⟩ [⟨0, 12, 23, 34⟩] C rfl (List.forall_mem_cons.mpr ⟨⟨by decide, "java/lang/IndexOutOfBoundsException", m_L_span_0, by decide +kernel, by decide⟩, fun z hz => nomatch hz⟩) (by decide +kernel) (by decide) m_L_span_1 (by decide +kernel) ?_
        refine g_astore C (lv2 := [(5, .ref q), (0, .ref x0), (1, .int p1), (2, .int p2), (3, .int p3), (4, .ref o1)]) rfl (by decide) dL_span_19 ?_
        refine g_iconst C (v := 2) (by decide) dL_span_21 ?_
        exact g_iret C hQ (by simp [gO, wRes, ec_span]) ⟨by decide, by decide⟩ dL_span_22
      · subst hx
        refine g_catch [⟨0, 12, 15, 13⟩, ⟨0, 12, 19, 15⟩] ⟨0, 12, 23, 34⟩ [] C rfl (List.forall_mem_cons.mpr ⟨⟨by decide, "java/lang/IndexOutOfBoundsException", m_L_span_0, by decide +kernel, by decide⟩, List.forall_mem_cons.mpr ⟨⟨by decide, "java/lang/IllegalArgumentException", m_L_span_1, by decide +kernel, by decide⟩, fun z hz => nomatch hz⟩⟩) (by decide +kernel) (by decide) m_L_span_2 (by decide +kernel) ?_
        refine g_astore C (lv2 := [(5, .ref q), (0, .ref x0), (1, .int p1), (2, .int p2), (3, .int p3), (4, .ref o1)]) rfl (by decide) dL_span_23 ?_
        refine g_iconst C (v := 3) (by decide) dL_span_25 ?_
        exact g_iret C hQ (by simp [gO, wRes, ec_span]) ⟨by decide, by decide⟩ dL_span_26
    · subst ha
      refine g_i2l C dL_span_10 ?_
      refine g_last C 0 rfl (ws2 := [(o1, .inl (cJ E, 1, .inr (.inl (vp_updL fo 0 (V a).toInt64))))] ++ wr a) rfl (inB_in (by decide +kernel)) dL_span_11 ?_
      refine g_goto C (tgt := 27) dL_span_12 (by decide) ?_
      refine g_iconst C (v := 0) (by decide) dL_span_27 ?_
      exact g_iret C hQ rfl ⟨by decide, by decide⟩ dL_span_28
abbrev r_L_free : Room := { frames := 10, cells := 2, slots := 12, locals := 165 }
def ec_free : String → Int32 := fun x => if x = "java/lang/IndexOutOfBoundsException" then 1 else if x = "java/lang/IllegalArgumentException" then 2 else 0
theorem m_L_free_0 : Cond.classLink RL 13 "java/lang/IndexOutOfBoundsException" ∈ wsL_free := by decide +kernel
theorem m_L_free_1 : Cond.classLink RL 15 "java/lang/IllegalArgumentException" ∈ wsL_free := by decide +kernel
set_option maxHeartbeats 4000000 in
set_option maxRecDepth 100000 in
theorem c_L_free {α : Type} (E : gE) (o1 x0 : Nat) (fo : Nat → Int64) (p1 : Int32) (p2 : Int32) (p3 : Int32) {wx : va_W} {wr : α → va_W} {V : α → Int32} {oc : String ⊕ α} {fs : List Value} (hM : Ct E yX4_free wsX4_free r_X4_free [.ref x0, .int p1, .int p2, .int p3] wx (gO (fun a => some (.int (V a))) wr oc)) (hb0 : wx[0]? = some (x0, .inr (6, fs))) (hex : ∀ x, oc = .inl x → x = "java/lang/IndexOutOfBoundsException" ∨ x = "java/lang/IllegalArgumentException") : Ct E yL_free wsL_free r_L_free [.ref x0, .int p1, .int p2, .int p3, .ref o1] ([(o1, .inl (cJ E, 1, .inr (.inl fo)))] ++ wx) (gO (fun u : Int32 × va_W => some (.int u.1)) (fun u => u.2) (.inr (wRes ec_free ([(o1, .inl (cJ E, 1, .inr (.inl fo)))] ++ wx) (fun a => [(o1, .inl (cJ E, 1, .inr (.inl (vp_updL fo 0 (V a).toInt64))))] ++ wr a) oc))) := by
  refine Ct.ofH (cc := cL_free) (nL := 6) (ret := (some .int)) (own := RL) (hh := [(0, 12, 15, 13), (0, 12, 19, 15)]) (by decide) rfl rfl (Nat.le_of_ble_eq_true rfl) rfl ?_ ?_
  · intro v w9 hh9
    cases oc with
    | inl x => cases hh9; rfl
    | inr a =>
      have had := hM.1 _ _ rfl
      cases hh9
      simp only [wRes, gAd, List.map_append, List.map_cons, List.map_nil] at had ⊢
      rw [had]
  · intro X C hQ
    refine g_aload C 4 rfl dL_free_0 ?_
    refine g_iconst C (v := 0) (by decide) dL_free_2 ?_
    refine g_aload_n C 0 rfl rfl dL_free_3 ?_
    refine g_iload_n C 1 rfl rfl dL_free_4 ?_
    refine g_iload_n C 2 rfl rfl dL_free_5 ?_
    refine g_iload_n C 3 rfl rfl dL_free_6 ?_
    refine g_callX (As := [.int p1, .int p2, .int p3]) (n9 := 3) (st := [.int 0, .ref o1]) (w2 := fun a => [(o1, .inl (cJ E, 1, .inr (.inl fo)))] ++ wr a) C hM gL_free_X4_free rfl (by decide +kernel) rfl ⟨by decide, by decide, by decide, by decide, Nat.le_of_ble_eq_true rfl⟩ 0 hb0 rfl (gSub.post rfl) (fun _ => rfl) dL_free_7 (fun x hx q => ?_) (fun a ha => ?_)
    · rcases hex x hx with rfl | rfl
      · subst hx
        refine g_catch [] ⟨0, 12, 15, 13⟩ [⟨0, 12, 19, 15⟩] C rfl (fun z hz => nomatch hz) (by decide +kernel) (by decide) m_L_free_0 (by decide +kernel) ?_
        refine g_astore C (lv2 := [(5, .ref q), (0, .ref x0), (1, .int p1), (2, .int p2), (3, .int p3), (4, .ref o1)]) rfl (by decide) dL_free_15 ?_
        refine g_iconst C (v := 1) (by decide) dL_free_17 ?_
        exact g_iret C hQ (by simp [gO, wRes, ec_free]) ⟨by decide, by decide⟩ dL_free_18
      · subst hx
        refine g_catch [⟨0, 12, 15, 13⟩] ⟨0, 12, 19, 15⟩ [] C rfl (List.forall_mem_cons.mpr ⟨⟨by decide, "java/lang/IndexOutOfBoundsException", m_L_free_0, by decide +kernel, by decide⟩, fun z hz => nomatch hz⟩) (by decide +kernel) (by decide) m_L_free_1 (by decide +kernel) ?_
        refine g_astore C (lv2 := [(5, .ref q), (0, .ref x0), (1, .int p1), (2, .int p2), (3, .int p3), (4, .ref o1)]) rfl (by decide) dL_free_19 ?_
        refine g_iconst C (v := 2) (by decide) dL_free_21 ?_
        exact g_iret C hQ (by simp [gO, wRes, ec_free]) ⟨by decide, by decide⟩ dL_free_22
    · subst ha
      refine g_i2l C dL_free_10 ?_
      refine g_last C 0 rfl (ws2 := [(o1, .inl (cJ E, 1, .inr (.inl (vp_updL fo 0 (V a).toInt64))))] ++ wr a) rfl (inB_in (by decide +kernel)) dL_free_11 ?_
      refine g_goto C (tgt := 23) dL_free_12 (by decide) ?_
      refine g_iconst C (v := 0) (by decide) dL_free_23 ?_
      exact g_iret C hQ rfl ⟨by decide, by decide⟩ dL_free_24
abbrev r_L_load : Room := { frames := 10, cells := 1, slots := 6, locals := 162 }
def ec_load : String → Int32 := fun x => if x = "java/lang/IndexOutOfBoundsException" then 1 else 0
theorem m_L_load_0 : Cond.classLink RL 13 "java/lang/IndexOutOfBoundsException" ∈ wsL_load := by decide +kernel
set_option maxHeartbeats 4000000 in
set_option maxRecDepth 100000 in
theorem c_L_load {α : Type} (E : gE) (o1 x0 : Nat) (fo : Nat → Int64) (p1 : Int32) {wx : va_W} {wr : α → va_W} {V : α → Int64} {oc : String ⊕ α} {fs : List Value} (hM : Ct E yX4_load wsX4_load r_X4_load [.ref x0, .int p1] wx (gO (fun a => some (.long (V a))) wr oc)) (hb0 : wx[0]? = some (x0, .inr (6, fs))) (hex : ∀ x, oc = .inl x → x = "java/lang/IndexOutOfBoundsException") : Ct E yL_load wsL_load r_L_load [.ref x0, .int p1, .ref o1] ([(o1, .inl (cJ E, 1, .inr (.inl fo)))] ++ wx) (gO (fun u : Int32 × va_W => some (.int u.1)) (fun u => u.2) (.inr (wRes ec_load ([(o1, .inl (cJ E, 1, .inr (.inl fo)))] ++ wx) (fun a => [(o1, .inl (cJ E, 1, .inr (.inl (vp_updL fo 0 (V a)))))] ++ wr a) oc))) := by
  refine Ct.ofH (cc := cL_load) (nL := 4) (ret := (some .int)) (own := RL) (hh := [(0, 8, 11, 13)]) (by decide) rfl rfl (Nat.le_of_ble_eq_true rfl) rfl ?_ ?_
  · intro v w9 hh9
    cases oc with
    | inl x => cases hh9; rfl
    | inr a =>
      have had := hM.1 _ _ rfl
      cases hh9
      simp only [wRes, gAd, List.map_append, List.map_cons, List.map_nil] at had ⊢
      rw [had]
  · intro X C hQ
    refine g_aload_n C 2 rfl rfl dL_load_0 ?_
    refine g_iconst C (v := 0) (by decide) dL_load_1 ?_
    refine g_aload_n C 0 rfl rfl dL_load_2 ?_
    refine g_iload_n C 1 rfl rfl dL_load_3 ?_
    refine g_callX (As := [.int p1]) (n9 := 1) (st := [.int 0, .ref o1]) (w2 := fun a => [(o1, .inl (cJ E, 1, .inr (.inl fo)))] ++ wr a) C hM gL_load_X4_load rfl (by decide +kernel) rfl ⟨by decide, by decide, by decide, by decide, Nat.le_of_ble_eq_true rfl⟩ 0 hb0 rfl (gSub.post rfl) (fun _ => rfl) dL_load_4 (fun x hx q => ?_) (fun a ha => ?_)
    · have hx2 := hex x hx
      subst hx2
      subst hx
      refine g_catch [] ⟨0, 8, 11, 13⟩ [] C rfl (fun z hz => nomatch hz) (by decide +kernel) (by decide) m_L_load_0 (by decide +kernel) ?_
      refine g_astore_n C (lv2 := [(3, .ref q), (0, .ref x0), (1, .int p1), (2, .ref o1)]) rfl (by decide) rfl dL_load_11 ?_
      refine g_iconst C (v := 1) (by decide) dL_load_12 ?_
      exact g_iret C hQ (by simp [gO, wRes, ec_load]) ⟨by decide, by decide⟩ dL_load_13
    · subst ha
      refine g_last C 0 rfl (ws2 := [(o1, .inl (cJ E, 1, .inr (.inl (vp_updL fo 0 (V a)))))] ++ wr a) rfl (inB_in (by decide +kernel)) dL_load_7 ?_
      refine g_goto C (tgt := 14) dL_load_8 (by decide) ?_
      refine g_iconst C (v := 0) (by decide) dL_load_14 ?_
      exact g_iret C hQ rfl ⟨by decide, by decide⟩ dL_load_15
abbrev r_L_mean : Room := { frames := 10, cells := 2, slots := 12, locals := 164 }
def ec_mean : String → Int32 := fun x => if x = "java/lang/IndexOutOfBoundsException" then 1 else if x = "java/lang/ArithmeticException" then 2 else 0
theorem m_L_mean_0 : Cond.classLink RL 13 "java/lang/IndexOutOfBoundsException" ∈ wsL_mean := by decide +kernel
theorem m_L_mean_1 : Cond.classLink RL 108 "java/lang/ArithmeticException" ∈ wsL_mean := by decide +kernel
set_option maxHeartbeats 4000000 in
set_option maxRecDepth 100000 in
theorem c_L_mean {α : Type} (E : gE) (o1 x0 : Nat) (fo : Nat → UInt64) (p1 : Int32) {wx : va_W} {wr : α → va_W} {V : α → UInt64} {oc : String ⊕ α} {fs : List Value} (hM : Ct E yX4_mean wsX4_mean r_X4_mean [.ref x0, .int p1] wx (gO (fun a => some (.double (V a))) wr oc)) (hb0 : wx[0]? = some (x0, .inr (6, fs))) (hex : ∀ x, oc = .inl x → x = "java/lang/IndexOutOfBoundsException" ∨ x = "java/lang/ArithmeticException") : Ct E yL_mean wsL_mean r_L_mean [.ref x0, .int p1, .ref o1] ([(o1, .inl (cD E, 1, .inr (.inr (.inr (.inl fo)))))] ++ wx) (gO (fun u : Int32 × va_W => some (.int u.1)) (fun u => u.2) (.inr (wRes ec_mean ([(o1, .inl (cD E, 1, .inr (.inr (.inr (.inl fo)))))] ++ wx) (fun a => [(o1, .inl (cD E, 1, .inr (.inr (.inr (.inl (vf_upd fo 0 (V a)))))))] ++ wr a) oc))) := by
  refine Ct.ofH (cc := cL_mean) (nL := 4) (ret := (some .int)) (own := RL) (hh := [(0, 8, 11, 13), (0, 8, 14, 108)]) (by decide) rfl rfl (Nat.le_of_ble_eq_true rfl) rfl ?_ ?_
  · intro v w9 hh9
    cases oc with
    | inl x => cases hh9; rfl
    | inr a =>
      have had := hM.1 _ _ rfl
      cases hh9
      simp only [wRes, gAd, List.map_append, List.map_cons, List.map_nil] at had ⊢
      rw [had]
  · intro X C hQ
    refine g_aload_n C 2 rfl rfl dL_mean_0 ?_
    refine g_iconst C (v := 0) (by decide) dL_mean_1 ?_
    refine g_aload_n C 0 rfl rfl dL_mean_2 ?_
    refine g_iload_n C 1 rfl rfl dL_mean_3 ?_
    refine g_callX (As := [.int p1]) (n9 := 1) (st := [.int 0, .ref o1]) (w2 := fun a => [(o1, .inl (cD E, 1, .inr (.inr (.inr (.inl fo)))))] ++ wr a) C hM gL_mean_X4_mean rfl (by decide +kernel) rfl ⟨by decide, by decide, by decide, by decide, Nat.le_of_ble_eq_true rfl⟩ 0 hb0 rfl (gSub.post rfl) (fun _ => rfl) dL_mean_4 (fun x hx q => ?_) (fun a ha => ?_)
    · rcases hex x hx with rfl | rfl
      · subst hx
        refine g_catch [] ⟨0, 8, 11, 13⟩ [⟨0, 8, 14, 108⟩] C rfl (fun z hz => nomatch hz) (by decide +kernel) (by decide) m_L_mean_0 (by decide +kernel) ?_
        refine g_astore_n C (lv2 := [(3, .ref q), (0, .ref x0), (1, .int p1), (2, .ref o1)]) rfl (by decide) rfl dL_mean_11 ?_
        refine g_iconst C (v := 1) (by decide) dL_mean_12 ?_
        exact g_iret C hQ (by simp [gO, wRes, ec_mean]) ⟨by decide, by decide⟩ dL_mean_13
      · subst hx
        refine g_catch [⟨0, 8, 11, 13⟩] ⟨0, 8, 14, 108⟩ [] C rfl (List.forall_mem_cons.mpr ⟨⟨by decide, "java/lang/IndexOutOfBoundsException", m_L_mean_0, by decide +kernel, by decide⟩, fun z hz => nomatch hz⟩) (by decide +kernel) (by decide) m_L_mean_1 (by decide +kernel) ?_
        refine g_astore_n C (lv2 := [(3, .ref q), (0, .ref x0), (1, .int p1), (2, .ref o1)]) rfl (by decide) rfl dL_mean_14 ?_
        refine g_iconst C (v := 2) (by decide) dL_mean_15 ?_
        exact g_iret C hQ (by simp [gO, wRes, ec_mean]) ⟨by decide, by decide⟩ dL_mean_16
    · subst ha
      refine g_dast C 0 rfl (ws2 := [(o1, .inl (cD E, 1, .inr (.inr (.inr (.inl (vf_upd fo 0 (V a)))))))] ++ wr a) rfl (inB_in (by decide +kernel)) dL_mean_7 ?_
      refine g_goto C (tgt := 17) dL_mean_8 (by decide) ?_
      refine g_iconst C (v := 0) (by decide) dL_mean_17 ?_
      exact g_iret C hQ rfl ⟨by decide, by decide⟩ dL_mean_18
abbrev r_L_share : Room := { frames := 10, cells := 2, slots := 12, locals := 164 }
def ec_share : String → Int32 := fun x => if x = "java/lang/IndexOutOfBoundsException" then 1 else if x = "java/lang/ArithmeticException" then 2 else 0
theorem m_L_share_0 : Cond.classLink RL 13 "java/lang/IndexOutOfBoundsException" ∈ wsL_share := by decide +kernel
theorem m_L_share_1 : Cond.classLink RL 108 "java/lang/ArithmeticException" ∈ wsL_share := by decide +kernel
set_option maxHeartbeats 4000000 in
set_option maxRecDepth 100000 in
theorem c_L_share {α : Type} (E : gE) (o1 x0 : Nat) (fo : Nat → UInt64) (p1 : Int32) {wx : va_W} {wr : α → va_W} {V : α → UInt32} {oc : String ⊕ α} {fs : List Value} (hM : Ct E yX4_share wsX4_share r_X4_share [.ref x0, .int p1] wx (gO (fun a => some (.float (V a))) wr oc)) (hb0 : wx[0]? = some (x0, .inr (6, fs))) (hex : ∀ x, oc = .inl x → x = "java/lang/IndexOutOfBoundsException" ∨ x = "java/lang/ArithmeticException") (hnn : ∀ a, oc = .inr a → n64 (FP.f2d (V a)) = true) : Ct E yL_share wsL_share r_L_share [.ref x0, .int p1, .ref o1] ([(o1, .inl (cD E, 1, .inr (.inr (.inr (.inl fo)))))] ++ wx) (gO (fun u : Int32 × va_W => some (.int u.1)) (fun u => u.2) (.inr (wRes ec_share ([(o1, .inl (cD E, 1, .inr (.inr (.inr (.inl fo)))))] ++ wx) (fun a => [(o1, .inl (cD E, 1, .inr (.inr (.inr (.inl (vf_upd fo 0 (FP.f2d (V a))))))))] ++ wr a) oc))) := by
  refine Ct.ofH (cc := cL_share) (nL := 4) (ret := (some .int)) (own := RL) (hh := [(0, 9, 12, 13), (0, 9, 15, 108)]) (by decide) rfl rfl (Nat.le_of_ble_eq_true rfl) rfl ?_ ?_
  · intro v w9 hh9
    cases oc with
    | inl x => cases hh9; rfl
    | inr a =>
      have had := hM.1 _ _ rfl
      cases hh9
      simp only [wRes, gAd, List.map_append, List.map_cons, List.map_nil] at had ⊢
      rw [had]
  · intro X C hQ
    refine g_aload_n C 2 rfl rfl dL_share_0 ?_
    refine g_iconst C (v := 0) (by decide) dL_share_1 ?_
    refine g_aload_n C 0 rfl rfl dL_share_2 ?_
    refine g_iload_n C 1 rfl rfl dL_share_3 ?_
    refine g_callX (As := [.int p1]) (n9 := 1) (st := [.int 0, .ref o1]) (w2 := fun a => [(o1, .inl (cD E, 1, .inr (.inr (.inr (.inl fo)))))] ++ wr a) C hM gL_share_X4_share rfl (by decide +kernel) rfl ⟨by decide, by decide, by decide, by decide, Nat.le_of_ble_eq_true rfl⟩ 0 hb0 rfl (gSub.post rfl) (fun _ => rfl) dL_share_4 (fun x hx q => ?_) (fun a ha => ?_)
    · rcases hex x hx with rfl | rfl
      · subst hx
        refine g_catch [] ⟨0, 9, 12, 13⟩ [⟨0, 9, 15, 108⟩] C rfl (fun z hz => nomatch hz) (by decide +kernel) (by decide) m_L_share_0 (by decide +kernel) ?_
        refine g_astore_n C (lv2 := [(3, .ref q), (0, .ref x0), (1, .int p1), (2, .ref o1)]) rfl (by decide) rfl dL_share_12 ?_
        refine g_iconst C (v := 1) (by decide) dL_share_13 ?_
        exact g_iret C hQ (by simp [gO, wRes, ec_share]) ⟨by decide, by decide⟩ dL_share_14
      · subst hx
        refine g_catch [⟨0, 9, 12, 13⟩] ⟨0, 9, 15, 108⟩ [] C rfl (List.forall_mem_cons.mpr ⟨⟨by decide, "java/lang/IndexOutOfBoundsException", m_L_share_0, by decide +kernel, by decide⟩, fun z hz => nomatch hz⟩) (by decide +kernel) (by decide) m_L_share_1 (by decide +kernel) ?_
        refine g_astore_n C (lv2 := [(3, .ref q), (0, .ref x0), (1, .int p1), (2, .ref o1)]) rfl (by decide) rfl dL_share_15 ?_
        refine g_iconst C (v := 2) (by decide) dL_share_16 ?_
        exact g_iret C hQ (by simp [gO, wRes, ec_share]) ⟨by decide, by decide⟩ dL_share_17
    · subst ha
      refine g_f2d C (hnn a rfl) dL_share_7 ?_
      refine g_dast C 0 rfl (ws2 := [(o1, .inl (cD E, 1, .inr (.inr (.inr (.inl (vf_upd fo 0 (FP.f2d (V a))))))))] ++ wr a) rfl (inB_in (by decide +kernel)) dL_share_8 ?_
      refine g_goto C (tgt := 18) dL_share_9 (by decide) ?_
      refine g_iconst C (v := 0) (by decide) dL_share_18 ?_
      exact g_iret C hQ rfl ⟨by decide, by decide⟩ dL_share_19
abbrev r_L_isQuiet : Room := { frames := 10, cells := 1, slots := 6, locals := 163 }
def ec_isQuiet : String → Int32 := fun x => if x = "java/lang/IndexOutOfBoundsException" then 1 else 0
theorem m_L_isQuiet_0 : Cond.classLink RL 13 "java/lang/IndexOutOfBoundsException" ∈ wsL_isQuiet := by decide +kernel
set_option maxHeartbeats 4000000 in
set_option maxRecDepth 100000 in
theorem c_L_isQuiet {α : Type} (E : gE) (o1 x0 : Nat) (fo : Nat → Int64) (p1 : Int32) {wx : va_W} {wr : α → va_W} {V : α → Bool} {oc : String ⊕ α} {fs : List Value} (hM : Ct E yX4_isQuiet wsX4_isQuiet r_X4_isQuiet [.ref x0, .int p1] wx (gO (fun a => some (.int (bI (V a)))) wr oc)) (hb0 : wx[0]? = some (x0, .inr (6, fs))) (hex : ∀ x, oc = .inl x → x = "java/lang/IndexOutOfBoundsException") : Ct E yL_isQuiet wsL_isQuiet r_L_isQuiet [.ref x0, .int p1, .ref o1] ([(o1, .inl (cJ E, 1, .inr (.inl fo)))] ++ wx) (gO (fun u : Int32 × va_W => some (.int u.1)) (fun u => u.2) (.inr (wRes ec_isQuiet ([(o1, .inl (cJ E, 1, .inr (.inl fo)))] ++ wx) (fun a => [(o1, .inl (cJ E, 1, .inr (.inl (vp_updL fo 0 (if bI (V a) = 0 then 0 else 1)))))] ++ wr a) oc))) := by
  refine Ct.ofH (cc := cL_isQuiet) (nL := 4) (ret := (some .int)) (own := RL) (hh := [(0, 16, 19, 13)]) (by decide) rfl rfl (Nat.le_of_ble_eq_true rfl) rfl ?_ ?_
  · intro v w9 hh9
    cases oc with
    | inl x => cases hh9; rfl
    | inr a =>
      have had := hM.1 _ _ rfl
      cases hh9
      simp only [wRes, gAd, List.map_append, List.map_cons, List.map_nil] at had ⊢
      rw [had]
  · intro X C hQ
    refine g_aload_n C 2 rfl rfl dL_isQuiet_0 ?_
    refine g_iconst C (v := 0) (by decide) dL_isQuiet_1 ?_
    refine g_aload_n C 0 rfl rfl dL_isQuiet_2 ?_
    refine g_iload_n C 1 rfl rfl dL_isQuiet_3 ?_
    refine g_callX (As := [.int p1]) (n9 := 1) (st := [.int 0, .ref o1]) (w2 := fun a => [(o1, .inl (cJ E, 1, .inr (.inl fo)))] ++ wr a) C hM gL_isQuiet_X4_isQuiet rfl (by decide +kernel) rfl ⟨by decide, by decide, by decide, by decide, Nat.le_of_ble_eq_true rfl⟩ 0 hb0 rfl (gSub.post rfl) (fun _ => rfl) dL_isQuiet_4 (fun x hx q => ?_) (fun a ha => ?_)
    · have hx2 := hex x hx
      subst hx2
      subst hx
      refine g_catch [] ⟨0, 16, 19, 13⟩ [] C rfl (fun z hz => nomatch hz) (by decide +kernel) (by decide) m_L_isQuiet_0 (by decide +kernel) ?_
      refine g_astore_n C (lv2 := [(3, .ref q), (0, .ref x0), (1, .int p1), (2, .ref o1)]) rfl (by decide) rfl dL_isQuiet_19 ?_
      refine g_iconst C (v := 1) (by decide) dL_isQuiet_20 ?_
      exact g_iret C hQ (by simp [gO, wRes, ec_isQuiet]) ⟨by decide, by decide⟩ dL_isQuiet_21
    · subst ha
      refine g_if_eq C (tgt := 14) dL_isQuiet_7 (by decide) (fun c9 => ?_) (fun c9 => ?_)
      · refine g_lconst C (v := 0) (by decide) dL_isQuiet_14 ?_
        refine g_last C 0 rfl (ws2 := [(o1, .inl (cJ E, 1, .inr (.inl (vp_updL fo 0 0))))] ++ wr a) rfl (inB_in (by decide +kernel)) dL_isQuiet_15 ?_
        refine g_goto C (tgt := 22) dL_isQuiet_16 (by decide) ?_
        refine g_iconst C (v := 0) (by decide) dL_isQuiet_22 ?_
        exact g_iret C hQ (by simp [gO, wRes, c9]) ⟨by decide, by decide⟩ dL_isQuiet_23
      · refine g_lconst C (v := 1) (by decide) dL_isQuiet_10 ?_
        refine g_goto C (tgt := 15) dL_isQuiet_11 (by decide) ?_
        refine g_last C 0 rfl (ws2 := [(o1, .inl (cJ E, 1, .inr (.inl (vp_updL fo 0 1))))] ++ wr a) rfl (inB_in (by decide +kernel)) dL_isQuiet_15 ?_
        refine g_goto C (tgt := 22) dL_isQuiet_16 (by decide) ?_
        refine g_iconst C (v := 0) (by decide) dL_isQuiet_22 ?_
        exact g_iret C hQ (by simp [gO, wRes, c9]) ⟨by decide, by decide⟩ dL_isQuiet_23
