/-! the calls that only ask: both sides answer alike -/
section OPS3
variable {bd k : Nat} {lt ls lw lh lx : RS} {zf : Nat → Int32} {qf uf tf cf : Nat → RS} {ma st : Int32} {ti sp we ho sa ca cl : Nat → Int32} {p1 : Int32}
theorem st_clock (R : RQ bd lt ls lw lh lx zf qf uf tf cf ma st ti sp we ho sa ca cl) (hp : p1.toInt = k) (hk : k < 4)  : ∃ oc r, f_X4_clock (zf k) p1  = some oc ∧ f_X5_clock cl p1  = some r ∧ ((∃ e, oc = .inl e ∧ (e, r.2) ∈ ([] : List (String × Int32))) ∨ (oc = .inr r.1 ∧ r.2 = 0)) := by
  obtain ⟨n, T, S, W, Hm, X, K, kst, G, hks, old⟩ := R
  obtain ⟨ck, Q, P, L, H, C, hz, c9, hcv⟩ := old k hk
  have ok := G.1
  have Rm := G.2.2.2.2.2.2.2.1
  have h120 := Rm.1
  have eh4 := houseAt_t hp hk
  have eh5 := house_t hp hk
  have ehi := inB_t hp hk
  have ecl := clampN hp
  have hr := c9.2.2
  have hC := H.2.2.2.2.1
  refine ⟨.inr (zf k), (cl k, 0), ?_, ?_, Or.inr ⟨congrArg Sum.inr (eqI2 hz hcv rfl), rfl⟩⟩
  · simp only [tB_r, tB_l, Option.bind_some, if_neg bIt0, if_pos bI_f, thr_t, thr_f, sz_t, f_X4_clock, eh4]
  · simp only [tB_r, tB_l, Option.bind_some, if_neg bIt0, if_pos bI_f, thr_t, thr_f, sz_t, f_X5_clock, eh5, b_X5_clock_13, if_pos ehi, ecl]
theorem st_waiting (R : RQ bd lt ls lw lh lx zf qf uf tf cf ma st ti sp we ho sa ca cl) (hp : p1.toInt = k) (hk : k < 4)  : ∃ oc r, f_X4_waiting (qf k) p1  = some oc ∧ f_X5_waiting ma ho sa p1  = some r ∧ ((∃ e, oc = .inl e ∧ (e, r.2) ∈ ([] : List (String × Int32))) ∨ (oc = .inr r.1 ∧ r.2 = 0)) := by
  obtain ⟨n, T, S, W, Hm, X, K, kst, G, hks, old⟩ := R
  obtain ⟨ck, Q, P, L, H, C, hz, c9, hcv⟩ := old k hk
  have ok := G.1
  have Rm := G.2.2.2.2.2.2.2.1
  have h120 := Rm.1
  have eh4 := houseAt_t hp hk
  have eh5 := house_t hp hk
  have ehi := inB_t hp hk
  have ecl := clampN hp
  have hr := c9.2.2
  have hC := H.2.2.2.2.1
  obtain ⟨mw, em, emt⟩ := many_s Rm hp (x := 0) t0
  rw [q_cnt H.1] at emt
  refine ⟨.inr (qf k).2, (mw, 0), ?_, ?_, Or.inr ⟨congrArg Sum.inr (eqI2 (qr_len c9.1) emt rfl), rfl⟩⟩
  · simp only [tB_r, tB_l, Option.bind_some, if_neg bIt0, if_pos bI_f, thr_t, thr_f, sz_t, f_X4_waiting, eh4]
  · simp only [tB_r, tB_l, Option.bind_some, if_neg bIt0, if_pos bI_f, thr_t, thr_f, sz_t, f_X5_waiting, eh5, b_X5_waiting_13, em]
theorem st_came (R : RQ bd lt ls lw lh lx zf qf uf tf cf ma st ti sp we ho sa ca cl) (hp : p1.toInt = k) (hk : k < 4)  : ∃ oc r, f_X4_came (uf k) p1  = some oc ∧ f_X5_came ma ho sa p1  = some r ∧ ((∃ e, oc = .inl e ∧ (e, r.2) ∈ ([] : List (String × Int32))) ∨ (oc = .inr r.1 ∧ r.2 = 0)) := by
  obtain ⟨n, T, S, W, Hm, X, K, kst, G, hks, old⟩ := R
  obtain ⟨ck, Q, P, L, H, C, hz, c9, hcv⟩ := old k hk
  have ok := G.1
  have Rm := G.2.2.2.2.2.2.2.1
  have h120 := Rm.1
  have eh4 := houseAt_t hp hk
  have eh5 := house_t hp hk
  have ehi := inB_t hp hk
  have ecl := clampN hp
  have hr := c9.2.2
  have hC := H.2.2.2.2.1
  obtain ⟨mw, em, emt⟩ := many_s Rm hp (x := 1) t1
  rw [p_cnt H.2.2.1] at emt
  refine ⟨.inr (uf k).2, (mw, 0), ?_, ?_, Or.inr ⟨congrArg Sum.inr (eqI2 (qr_len c9.2.1) emt rfl), rfl⟩⟩
  · simp only [tB_r, tB_l, Option.bind_some, if_neg bIt0, if_pos bI_f, thr_t, thr_f, sz_t, f_X4_came, eh4]
  · simp only [tB_r, tB_l, Option.bind_some, if_neg bIt0, if_pos bI_f, thr_t, thr_f, sz_t, f_X5_came, eh5, b_X5_came_13, em]
theorem waits_l {n h : Nat} {T S W Hm X K : Nat → Nat} {Q : List Nat} {v1 v2 : Int32} {j : Int} (R : mR n T S W Hm X ma ti sp we ho sa) (hv : v1.toInt = h) (hQ : qOf n T Hm X h Q) (h2 : v2.toInt = j) (thc : Int32) : ∀ (B : List Nat) (F : Nat) (A : List Nat) (v3 v4 : Int32), Q = A ++ B → v4.toInt = ((A.length : Nat) : Int) → v3.toInt = hdI B → B.length < F → A.length + B.length ≤ 200 → (A = [] ∨ (A.length : Int) ≤ j) → ∃ w, l_X5_waits_31 ma ti ho sa v1 v2 thc F v3 v4 = b_X5_waits_55 v2 w thc ∧ (j < 0 ∨ (∃ (A' : List Nat) (b : Nat) (B' : List Nat), Q = A' ++ b :: B' ∧ (A'.length : Int) = j ∧ w.toInt = b) ∨ ((Q.length : Int) ≤ j ∧ w = -1)) := by
  intro B
  induction B with
  | nil =>
    intro F A v3 v4 e h4 h3 hF hl hA
    have h3' : v3 = -1 := eqI2 h3 m1 rfl
    cases F with
    | zero => exact absurd hF (Nat.not_lt_zero _)
    | succ F =>
      rw [l_X5_waits_31]
      have hlen : Q.length = A.length := by rw [e]; simp
      refine ⟨v3, ?_, ?_⟩
      · by_cases c : j ≤ A.length
        · rw [if_pos (leI h2 h4 c)]
        · rw [if_neg (nleI h2 h4 (by omega)), if_pos h3']
      · by_cases c : j < 0
        · exact Or.inl c
        · refine Or.inr (Or.inr ⟨?_, h3'⟩)
          rcases hA with z | z
          · have h0 : A.length = 0 := by rw [z]; rfl
            omega
          · omega
  | cons b B ih =>
    intro F A v3 v4 e h4 h3 hF hl hA
    have hb : v3.toInt = (b : Nat) := h3
    cases F with
    | zero => exact absurd hF (Nat.not_lt_zero _)
    | succ F =>
      rw [l_X5_waits_31]
      by_cases c : j ≤ A.length
      · rw [if_pos (leI h2 h4 c)]
        refine ⟨v3, rfl, ?_⟩
        by_cases c2 : j < 0
        · exact Or.inl c2
        · refine Or.inr (Or.inl ⟨A, b, B, e, ?_, hb⟩)
          rcases hA with z | z
          · rw [z] at c ⊢; simp at c ⊢; omega
          · omega
      · rw [if_neg (nleI h2 h4 (by omega)), if_neg (neI hb m1 (by omega))]
        have hQ' := hQ
        rw [e] at hQ'
        obtain ⟨w, ew, hw⟩ := behind_s R hv hQ' hb
        rw [ew]
        simp only [Option.bind_some]
        exact ih F (A ++ [b]) w (v4 + 1) (by rw [e]; simp) (by rw [inc_t h4 (by simp at hl; omega)]; simp) hw (by simp at hF; omega) (by simp at hl ⊢; omega) (Or.inr (by simp; omega))
theorem st_waits (R : RQ bd lt ls lw lh lx zf qf uf tf cf ma st ti sp we ho sa ca cl) (hp : p1.toInt = k) (hk : k < 4) (p2 : Int32) : ∃ oc r, f_X4_waits (qf k) p1 p2 = some oc ∧ f_X5_waits ma ti ho sa p1 p2 = some r ∧ ((∃ e, oc = .inl e ∧ (e, r.2) ∈ ([("java/util/NoSuchElementException", 2)] : List (String × Int32))) ∨ (oc = .inr r.1 ∧ r.2 = 0)) := by
  obtain ⟨n, T, S, W, Hm, X, K, kst, G, hks, old⟩ := R
  obtain ⟨ck, Q, P, L, H, C, hz, c9, hcv⟩ := old k hk
  have ok := G.1
  have Rm := G.2.2.2.2.2.2.2.1
  have h120 := Rm.1
  have eh4 := houseAt_t hp hk
  have eh5 := house_t hp hk
  have ehi := inB_t hp hk
  have ecl := clampN hp
  have hr := c9.2.2
  have hC := H.2.2.2.2.1
  obtain ⟨f, ef, eft⟩ := first_s Rm hp H.1
  obtain ⟨w, ew, hw⟩ := waits_l (K := K) Rm hp H.1 (v2 := p2) rfl 0 Q FU [] f 0 rfl t0 eft (by have := H.2.1; show _ < 1000000; omega) (by have := H.2.1; simp; omega) (Or.inl rfl)
  have hl := qr_len c9.1
  rcases Int.lt_or_le p2.toInt 0 with c | c
  · refine ⟨.inl "java/util/NoSuchElementException", (0, 2), ?_, ?_, Or.inl ⟨_, rfl, by simp⟩⟩
    · simp only [tB_r, tB_l, Option.bind_some, if_neg bIt0, if_pos bI_f, thr_t, thr_f, sz_t, f_X4_waits, eh4, f_X4_itemAt, rp_holds_f c9.1.1 (Or.inl c)]
    · simp only [tB_r, tB_l, Option.bind_some, if_neg bIt0, if_pos bI_f, thr_t, thr_f, sz_t, f_X5_waits, eh5, b_X5_waits_13, ef, ew, b_X5_waits_55, if_pos (ltI rfl t0 c), b_X5_waits_70]
  · rcases hw with hw | ⟨A, b, B, eQ, hj, hw⟩ | ⟨hj, hw⟩
    · omega
    · have row := c9.1
      rw [eQ] at row
      have eg := qr_get row hj.symm
      have eh := rp_holds_t row.1 hj.symm (by simp)
      refine ⟨.inr (iz ((b : Nat) : Int)), (w, 0), ?_, ?_, Or.inr ⟨congrArg Sum.inr (eqI2 (qr_b row (by simp)) hw rfl), rfl⟩⟩
      · simp only [tB_r, tB_l, Option.bind_some, if_neg bIt0, if_pos bI_f, thr_t, thr_f, sz_t, f_X4_waits, eh4, f_X4_itemAt, eh, eg]
      · simp only [tB_r, tB_l, Option.bind_some, if_neg bIt0, if_pos bI_f, thr_t, thr_f, sz_t, f_X5_waits, eh5, b_X5_waits_13, ef, ew, b_X5_waits_55, if_neg (nltI rfl t0 c), if_neg (neI hw m1 (by omega)), b_X5_waits_70]
    · refine ⟨.inl "java/util/NoSuchElementException", (0, 2), ?_, ?_, Or.inl ⟨_, rfl, by simp⟩⟩
      · simp only [tB_r, tB_l, Option.bind_some, if_neg bIt0, if_pos bI_f, thr_t, thr_f, sz_t, f_X4_waits, eh4, f_X4_itemAt, rp_holds_f c9.1.1 (Or.inr (by rw [List.length_map]; exact hj))]
      · simp only [tB_r, tB_l, Option.bind_some, if_neg bIt0, if_pos bI_f, thr_t, thr_f, sz_t, f_X5_waits, eh5, b_X5_waits_13, ef, ew, b_X5_waits_55, if_neg (nltI rfl t0 c), if_pos hw, b_X5_waits_70]
theorem cameAt_l {n h : Nat} {T S W Hm X K : Nat → Nat} {Q : List Nat} {v1 v2 : Int32} {j : Int} (R : mR n T S W Hm X ma ti sp we ho sa) (hK : ∀ b, b < n → X b = 1 → (ca b).toInt = K b) (hv : v1.toInt = h) (hQ : pOf n K Hm X h Q) (h2 : v2.toInt = j) (thc : Int32) : ∀ (B : List Nat) (F : Nat) (A : List Nat) (v3 v4 : Int32), Q = A ++ B → v4.toInt = ((A.length : Nat) : Int) → v3.toInt = hdI B → B.length < F → A.length + B.length ≤ 200 → (A = [] ∨ (A.length : Int) ≤ j) → ∃ w, l_X5_cameAt_32 ma ho sa ca v1 v2 thc F v3 v4 = b_X5_cameAt_56 v2 w thc ∧ (j < 0 ∨ (∃ (A' : List Nat) (b : Nat) (B' : List Nat), Q = A' ++ b :: B' ∧ (A'.length : Int) = j ∧ w.toInt = b) ∨ ((Q.length : Int) ≤ j ∧ w = -1)) := by
  intro B
  induction B with
  | nil =>
    intro F A v3 v4 e h4 h3 hF hl hA
    have h3' : v3 = -1 := eqI2 h3 m1 rfl
    cases F with
    | zero => exact absurd hF (Nat.not_lt_zero _)
    | succ F =>
      rw [l_X5_cameAt_32]
      have hlen : Q.length = A.length := by rw [e]; simp
      refine ⟨v3, ?_, ?_⟩
      · by_cases c : j ≤ A.length
        · rw [if_pos (leI h2 h4 c)]
        · rw [if_neg (nleI h2 h4 (by omega)), if_pos h3']
      · by_cases c : j < 0
        · exact Or.inl c
        · refine Or.inr (Or.inr ⟨?_, h3'⟩)
          rcases hA with z | z
          · have h0 : A.length = 0 := by rw [z]; rfl
            omega
          · omega
  | cons b B ih =>
    intro F A v3 v4 e h4 h3 hF hl hA
    have hb : v3.toInt = (b : Nat) := h3
    cases F with
    | zero => exact absurd hF (Nat.not_lt_zero _)
    | succ F =>
      rw [l_X5_cameAt_32]
      by_cases c : j ≤ A.length
      · rw [if_pos (leI h2 h4 c)]
        refine ⟨v3, rfl, ?_⟩
        by_cases c2 : j < 0
        · exact Or.inl c2
        · refine Or.inr (Or.inl ⟨A, b, B, e, ?_, hb⟩)
          rcases hA with z | z
          · rw [z] at c ⊢; simp at c ⊢; omega
          · omega
      · rw [if_neg (nleI h2 h4 (by omega)), if_neg (neI hb m1 (by omega))]
        have hQ' := hQ
        rw [e] at hQ'
        obtain ⟨w, ew, hw⟩ := cameBehind_s R hK hv hQ' hb
        rw [ew]
        simp only [Option.bind_some]
        exact ih F (A ++ [b]) w (v4 + 1) (by rw [e]; simp) (by rw [inc_t h4 (by simp at hl; omega)]; simp) hw (by simp at hF; omega) (by simp at hl ⊢; omega) (Or.inr (by simp; omega))
theorem st_cameAt (R : RQ bd lt ls lw lh lx zf qf uf tf cf ma st ti sp we ho sa ca cl) (hp : p1.toInt = k) (hk : k < 4) (p2 : Int32) : ∃ oc r, f_X4_cameAt (uf k) p1 p2 = some oc ∧ f_X5_cameAt ma ho sa ca p1 p2 = some r ∧ ((∃ e, oc = .inl e ∧ (e, r.2) ∈ ([("java/util/NoSuchElementException", 2)] : List (String × Int32))) ∨ (oc = .inr r.1 ∧ r.2 = 0)) := by
  obtain ⟨n, T, S, W, Hm, X, K, kst, G, hks, old⟩ := R
  obtain ⟨ck, Q, P, L, H, C, hz, c9, hcv⟩ := old k hk
  have ok := G.1
  have Rm := G.2.2.2.2.2.2.2.1
  have h120 := Rm.1
  have eh4 := houseAt_t hp hk
  have eh5 := house_t hp hk
  have ehi := inB_t hp hk
  have ecl := clampN hp
  have hr := c9.2.2
  have hC := H.2.2.2.2.1
  have hKe : ∀ b, b < n → X b = 1 → (ca b).toInt = K b := fun b hb hx => (G.2.2.2.2.2.2.2.2.1 b hb hx).1
  obtain ⟨f, ef, eft⟩ := cameFirst_s Rm hKe hp H.2.2.1
  have hPl := (qr_N c9.2.1).1
  obtain ⟨w, ew, hw⟩ := cameAt_l (K := K) Rm hKe hp H.2.2.1 (v2 := p2) rfl 0 P FU [] f 0 rfl t0 eft (by show _ < 1000000; omega) (by simp; omega) (Or.inl rfl)
  have hl := qr_len c9.2.1
  rcases Int.lt_or_le p2.toInt 0 with c | c
  · refine ⟨.inl "java/util/NoSuchElementException", (0, 2), ?_, ?_, Or.inl ⟨_, rfl, by simp⟩⟩
    · simp only [tB_r, tB_l, Option.bind_some, if_neg bIt0, if_pos bI_f, thr_t, thr_f, sz_t, f_X4_cameAt, eh4, f_X4_itemAt, rp_holds_f c9.2.1.1 (Or.inl c)]
    · simp only [tB_r, tB_l, Option.bind_some, if_neg bIt0, if_pos bI_f, thr_t, thr_f, sz_t, f_X5_cameAt, eh5, b_X5_cameAt_13, ef, ew, b_X5_cameAt_56, if_pos (ltI rfl t0 c), b_X5_cameAt_71]
  · rcases hw with hw | ⟨A, b, B, eQ, hj, hw⟩ | ⟨hj, hw⟩
    · omega
    · have row := c9.2.1
      rw [eQ] at row
      have eg := qr_get row hj.symm
      have eh := rp_holds_t row.1 hj.symm (by simp)
      refine ⟨.inr (iz ((b : Nat) : Int)), (w, 0), ?_, ?_, Or.inr ⟨congrArg Sum.inr (eqI2 (qr_b row (by simp)) hw rfl), rfl⟩⟩
      · simp only [tB_r, tB_l, Option.bind_some, if_neg bIt0, if_pos bI_f, thr_t, thr_f, sz_t, f_X4_cameAt, eh4, f_X4_itemAt, eh, eg]
      · simp only [tB_r, tB_l, Option.bind_some, if_neg bIt0, if_pos bI_f, thr_t, thr_f, sz_t, f_X5_cameAt, eh5, b_X5_cameAt_13, ef, ew, b_X5_cameAt_56, if_neg (nltI rfl t0 c), if_neg (neI hw m1 (by omega)), b_X5_cameAt_71]
    · refine ⟨.inl "java/util/NoSuchElementException", (0, 2), ?_, ?_, Or.inl ⟨_, rfl, by simp⟩⟩
      · simp only [tB_r, tB_l, Option.bind_some, if_neg bIt0, if_pos bI_f, thr_t, thr_f, sz_t, f_X4_cameAt, eh4, f_X4_itemAt, rp_holds_f c9.2.1.1 (Or.inr (by rw [List.length_map]; exact hj))]
      · simp only [tB_r, tB_l, Option.bind_some, if_neg bIt0, if_pos bI_f, thr_t, thr_f, sz_t, f_X5_cameAt, eh5, b_X5_cameAt_13, ef, ew, b_X5_cameAt_56, if_neg (nltI rfl t0 c), if_pos hw, b_X5_cameAt_71]
theorem st_nextTime (R : RQ bd lt ls lw lh lx zf qf uf tf cf ma st ti sp we ho sa ca cl) (hp : p1.toInt = k) (hk : k < 4) (p2 : Int32) : ∃ oc r, f_X4_nextTime lt (qf k) p1 p2 = some oc ∧ f_X5_nextTime ma ti ho sa p1 p2 = some r ∧ ((∃ e, oc = .inl e ∧ (e, r.2) ∈ ([("java/util/NoSuchElementException", 2)] : List (String × Int32))) ∨ (oc = .inr r.1 ∧ r.2 = 0)) := by
  obtain ⟨n, T, S, W, Hm, X, K, kst, G, hks, old⟩ := R
  obtain ⟨ck, Q, P, L, H, C, hz, c9, hcv⟩ := old k hk
  have ok := G.1
  have Rm := G.2.2.2.2.2.2.2.1
  have h120 := Rm.1
  have eh4 := houseAt_t hp hk
  have eh5 := house_t hp hk
  have ehi := inB_t hp hk
  have ecl := clampN hp
  have hr := c9.2.2
  have hC := H.2.2.2.2.1
  have hQn : ∀ b ∈ Q, b < n := fun b hb => ((H.1.1 b).mp hb).1
  obtain ⟨A, B, r1, eQ, w1, w2, w3, w4⟩ := wait_s G.2.2.1 c9.1 hQn H.1.2 (v2 := p2) rfl
  obtain ⟨r, er, el⟩ := nextTime_l Rm hp (v2 := p2) rfl 0
  have hl := qr_len c9.1
  have hmem : ∀ b, b < n → Hm b = k ∧ X b = 0 ∧ p2.toInt ≤ (T b : Int) → b ∈ B := by
    intro b hb ⟨z1, z2, z3⟩
    have hbQ := (H.1.1 b).mpr ⟨hb, z1, z2⟩
    rw [eQ] at hbQ
    rcases List.mem_append.mp hbQ with z | z
    · have := w3 b z; omega
    · exact z
  cases B with
  | nil =>
    have e9 : r = 100000 := eqI2 rfl tF (by
      rcases er.2 with z | ⟨b, hb, z, -⟩
      · exact z
      · exact absurd (hmem b hb z) (fun y => (nomatch y)))
    rw [if_pos e9] at el
    refine ⟨.inl "java/util/NoSuchElementException", (0, 2), ?_, ?_, Or.inl ⟨_, rfl, by simp⟩⟩
    · simp only [tB_r, tB_l, Option.bind_some, if_neg bIt0, if_pos bI_f, thr_t, thr_f, sz_t, f_X4_nextTime, eh4, w1, if_neg (nltI w2 hl (by rw [eQ]; simp))]
    · simp only [tB_r, tB_l, Option.bind_some, if_neg bIt0, if_pos bI_f, thr_t, thr_f, sz_t, f_X5_nextTime, eh5, b_X5_nextTime_13, el, b_X5_nextTime_99]
  | cons b B =>
    have hbQ : b ∈ Q := by rw [eQ]; simp
    obtain ⟨b1, b2, b3⟩ := (H.1.1 b).mp hbQ
    have hbx := w4 b List.mem_cons_self
    have okb := (ok.2 b b1).1
    have hle : r.toInt ≤ T b := er.1 _ ⟨b, b1, ⟨b2, b3, hbx⟩, rfl⟩
    have ev : r.toInt = (T b : Int) := by
      rcases er.2 with z | ⟨d, hd, z, ez⟩
      · omega
      · rcases List.mem_cons.mp (hmem d hd z) with y | y
        · rw [ez, y]
        · have hs := H.1.2
          rw [eQ] at hs
          have := ho_in ((List.pairwise_cons.mp (pw_app hs).2.1).1 d y)
          have e3 : r.toInt = (T d : Int) := ez
          omega
    rw [if_neg (neI ev tF (by omega))] at el
    have row := c9.1
    rw [eQ] at row
    have eg := qr_get row w2
    have eg2 := lr_get G.2.2.1 (qr_b c9.1 hbQ) b1
    refine ⟨.inr (iz ((T b : Nat) : Int)), (r, 0), ?_, ?_, Or.inr ⟨congrArg Sum.inr (eqI2 (lr_t G.2.2.1 b1) ev rfl), rfl⟩⟩
    · simp only [tB_r, tB_l, Option.bind_some, if_neg bIt0, if_pos bI_f, thr_t, thr_f, sz_t, f_X4_nextTime, eh4, w1, if_pos (ltI w2 hl (by rw [eQ]; simp; omega)), eg, eg2]
    · simp only [tB_r, tB_l, Option.bind_some, if_neg bIt0, if_pos bI_f, thr_t, thr_f, sz_t, f_X5_nextTime, eh5, b_X5_nextTime_13, el, b_X5_nextTime_99]
theorem st_crowd (R : RQ bd lt ls lw lh lx zf qf uf tf cf ma st ti sp we ho sa ca cl) (hp : p1.toInt = k) (hk : k < 4) (p2 : Int32) : ∃ oc r, f_X4_crowd (tf k) (cf k) p1 p2 = some oc ∧ f_X5_crowd ma ti sp we ho sa p1 p2 = some r ∧ ((∃ e, oc = .inl e ∧ (e, r.2) ∈ ([] : List (String × Int32))) ∨ (oc = .inr r.1 ∧ r.2 = 0)) := by
  obtain ⟨n, T, S, W, Hm, X, K, kst, G, hks, old⟩ := R
  obtain ⟨ck, Q, P, L, H, C, hz, c9, hcv⟩ := old k hk
  have ok := G.1
  have Rm := G.2.2.2.2.2.2.2.1
  have h120 := Rm.1
  have eh4 := houseAt_t hp hk
  have eh5 := house_t hp hk
  have ehi := inB_t hp hk
  have ecl := clampN hp
  have hr := c9.2.2
  have hC := H.2.2.2.2.1
  obtain ⟨a, e1, e2⟩ := at_s ok hr hC (v1 := p2) rfl
  obtain ⟨b, e3, e4⟩ := crowdAt_s Rm ok hp (v2 := p2) rfl
  refine ⟨.inr a, (b, 0), ?_, ?_, Or.inr ⟨congrArg Sum.inr (eqI2 e2 e4 rfl), rfl⟩⟩
  · simp only [tB_r, tB_l, Option.bind_some, if_neg bIt0, if_pos bI_f, thr_t, thr_f, sz_t, f_X4_crowd, eh4, e1]
  · simp only [tB_r, tB_l, Option.bind_some, if_neg bIt0, if_pos bI_f, thr_t, thr_f, sz_t, f_X5_crowd, eh5, b_X5_crowd_13, e3]
theorem st_change (R : RQ bd lt ls lw lh lx zf qf uf tf cf ma st ti sp we ho sa ca cl) (hp : p1.toInt = k) (hk : k < 4) (p2 : Int32) : ∃ oc r, f_X4_change (tf k) (cf k) p1 p2 = some oc ∧ f_X5_change ma ti sp we ho sa p1 p2 = some r ∧ ((∃ e, oc = .inl e ∧ (e, r.2) ∈ ([] : List (String × Int32))) ∨ (oc = .inr r.1 ∧ r.2 = 0)) := by
  obtain ⟨n, T, S, W, Hm, X, K, kst, G, hks, old⟩ := R
  obtain ⟨ck, Q, P, L, H, C, hz, c9, hcv⟩ := old k hk
  have ok := G.1
  have Rm := G.2.2.2.2.2.2.2.1
  have h120 := Rm.1
  have eh4 := houseAt_t hp hk
  have eh5 := house_t hp hk
  have ehi := inB_t hp hk
  have ecl := clampN hp
  have hr := c9.2.2
  have hC := H.2.2.2.2.1
  obtain ⟨a, e1, e2⟩ := changeAt_s ok hr hC (v1 := p2) rfl
  obtain ⟨b, e3, e4⟩ := changeAt_m Rm ok hp (v2 := p2) rfl
  refine ⟨.inr a, (b, 0), ?_, ?_, Or.inr ⟨congrArg Sum.inr (eqI2 e2 e4 rfl), rfl⟩⟩
  · simp only [tB_r, tB_l, Option.bind_some, if_neg bIt0, if_pos bI_f, thr_t, thr_f, sz_t, f_X4_change, eh4, e1]
  · simp only [tB_r, tB_l, Option.bind_some, if_neg bIt0, if_pos bI_f, thr_t, thr_f, sz_t, f_X5_change, eh5, b_X5_change_13, e3]
/-- the greatest crowd, from those at begins -/
theorem up_all {n k : Nat} {T S W Hm X : Nat → Nat} (ok : okB n T S W) {v : Int} (h : upOf (kP n (fun b => onB S Hm X k b ∧ 0 ≤ (T b : Int) ∧ (T b : Int) < 100000) (fun b => FF n T S W (cm Hm X k) (T b))) v) : upOf (fun z => ∃ y, z = FF n T S W (cm Hm X k) y) v := by
  refine ⟨fun z ⟨y, hy⟩ => ?_, h.2.1, h.2.2.imp id (fun ⟨b, hb, hb2, e⟩ => ⟨_, e⟩)⟩
  by_cases c : FF n T S W (cm Hm X k) y = 0
  · rw [hy, c]; exact h.2.1
  · obtain ⟨b, b1, b2, b3, b4, b5⟩ := peak c
    have : FF n T S W (cm Hm X k) (T b) ≤ v := h.1 _ ⟨b, b1, ⟨⟨b2, by omega⟩, by omega, by have := (ok.2 b b1).1; omega⟩, rfl⟩
    rw [hy]
    omega
theorem st_greatest (R : RQ bd lt ls lw lh lx zf qf uf tf cf ma st ti sp we ho sa ca cl) (hp : p1.toInt = k) (hk : k < 4)  : ∃ oc r, f_X4_greatest (tf k) (cf k) p1  = some oc ∧ f_X5_greatest ma ti sp we ho sa p1  = some r ∧ ((∃ e, oc = .inl e ∧ (e, r.2) ∈ ([] : List (String × Int32))) ∨ (oc = .inr r.1 ∧ r.2 = 0)) := by
  obtain ⟨n, T, S, W, Hm, X, K, kst, G, hks, old⟩ := R
  obtain ⟨ck, Q, P, L, H, C, hz, c9, hcv⟩ := old k hk
  have ok := G.1
  have Rm := G.2.2.2.2.2.2.2.1
  have h120 := Rm.1
  have eh4 := houseAt_t hp hk
  have eh5 := house_t hp hk
  have ehi := inB_t hp hk
  have ecl := clampN hp
  have hr := c9.2.2
  have hC := H.2.2.2.2.1
  obtain ⟨a, e1, e2, e3, e4⟩ := highest_s ok hr hC
  obtain ⟨b, e5, e6⟩ := greatestIn_m Rm ok hp t0 tF
  have e7 := up_all ok e6
  have e8 : upOf (fun z => ∃ y, z = FF n T S W (cm Hm X k) y) a.toInt := ⟨fun z ⟨y, hy⟩ => by rw [hy]; exact e3 y, e2, e4.imp id (fun ⟨y, hy⟩ => ⟨y, hy.symm⟩)⟩
  have e9 : a.toInt = b.toInt := up_one (fun z ⟨y, hy⟩ => by rw [hy]; exact (sg_bd ok y).1) e8 e7
  refine ⟨.inr a, (b, 0), ?_, ?_, Or.inr ⟨congrArg Sum.inr (eqI2 e9 rfl rfl), rfl⟩⟩
  · simp only [tB_r, tB_l, Option.bind_some, if_neg bIt0, if_pos bI_f, thr_t, thr_f, sz_t, f_X4_greatest, eh4, e1]
  · simp only [tB_r, tB_l, Option.bind_some, if_neg bIt0, if_pos bI_f, thr_t, thr_f, sz_t, f_X5_greatest, eh5, b_X5_greatest_13, e5]
theorem st_greatestFrom (R : RQ bd lt ls lw lh lx zf qf uf tf cf ma st ti sp we ho sa ca cl) (hp : p1.toInt = k) (hk : k < 4)  : ∃ oc r, f_X4_greatestFrom (tf k) (cf k) p1  = some oc ∧ f_X5_greatestFrom ma ti sp we ho sa p1  = some r ∧ ((∃ e, oc = .inl e ∧ (e, r.2) ∈ ([("java/util/NoSuchElementException", 2)] : List (String × Int32))) ∨ (oc = .inr r.1 ∧ r.2 = 0)) := by
  obtain ⟨n, T, S, W, Hm, X, K, kst, G, hks, old⟩ := R
  obtain ⟨ck, Q, P, L, H, C, hz, c9, hcv⟩ := old k hk
  have ok := G.1
  have Rm := G.2.2.2.2.2.2.2.1
  have h120 := Rm.1
  have eh4 := houseAt_t hp hk
  have eh5 := house_t hp hk
  have ehi := inB_t hp hk
  have ecl := clampN hp
  have hr := c9.2.2
  have hC := H.2.2.2.2.1
  obtain ⟨b, e5, e6⟩ := greatestIn_m Rm ok hp t0 tF
  have e7 := up_all ok e6
  have ee := isEmpty_s hr
  by_cases c : L = []
  · rw [decide_eq_true c] at ee
    have hz0 := (empty_iff ok hC).mp c
    have b0 : b = 0 := eqI2 rfl t0 (by
      rcases e7.2.2 with z | ⟨y, hy⟩
      · exact z
      · rw [hy]; exact hz0 y)
    refine ⟨.inl "java/util/NoSuchElementException", (0, 2), ?_, ?_, Or.inl ⟨_, rfl, by simp⟩⟩
    · simp only [tB_r, tB_l, Option.bind_some, if_neg bIt0, if_pos bI_f, thr_t, thr_f, sz_t, f_X4_greatestFrom, eh4, ee]
    · simp only [tB_r, tB_l, Option.bind_some, if_neg bIt0, if_pos bI_f, thr_t, thr_f, sz_t, f_X5_greatestFrom, eh5, b_X5_greatestFrom_13, e5, if_pos b0, b_X5_greatestFrom_41]
  · rw [decide_eq_false c] at ee
    obtain ⟨a, M, e1, e2⟩ := highestFrom_s ok hr hC
    obtain ⟨m1', m2, m3, m4⟩ := e2 c
    have bM : b.toInt = M := up_one (P := fun z => ∃ y, z = FF n T S W (cm Hm X k) y) (fun z ⟨y, hy⟩ => by rw [hy]; exact (sg_bd ok y).1) e7 ⟨fun z ⟨y, hy⟩ => by rw [hy]; exact m2 y, by omega, Or.inr ⟨_, m3.symm⟩⟩
    obtain ⟨r, e8, e9⟩ := greatestFrom_l Rm ok hp bM 0
    have e10 : r.toInt = a.toInt := by
      obtain ⟨d, d1, d2, d3, d4, d5⟩ := peak (n := n) (T := T) (S := S) (W := W) (C := cm Hm X k) (y := a.toInt) (by rw [m3]; omega)
      have h1 := m2 (T d)
      have h2 : (T d : Int) = a.toInt := by
        rcases Int.lt_or_eq_of_le d3 with z | z
        · have := m4 _ z; omega
        · exact z
      have h3 := (ok.2 d d1).1
      have h4 : r.toInt ≤ a.toInt := e9.1 _ ⟨d, d1, ⟨⟨d2, by omega⟩, by omega⟩, h2.symm⟩
      rcases e9.2 with z | ⟨f, f1, ⟨f2, f3⟩, f4⟩
      · omega
      · have f4 : r.toInt = (T f : Int) := f4
        rcases Int.lt_or_le r.toInt a.toInt with z | z
        · rw [f4] at z
          have := m4 _ z
          omega
        · omega
    refine ⟨.inr a, (r, 0), ?_, ?_, Or.inr ⟨congrArg Sum.inr (eqI2 e10.symm rfl rfl), rfl⟩⟩
    · simp only [tB_r, tB_l, Option.bind_some, if_neg bIt0, if_pos bI_f, thr_t, thr_f, sz_t, f_X4_greatestFrom, eh4, ee, e1]
    · simp only [tB_r, tB_l, Option.bind_some, if_neg bIt0, if_pos bI_f, thr_t, thr_f, sz_t, f_X5_greatestFrom, eh5, b_X5_greatestFrom_13, e5, if_neg (neI bM t0 (by omega)), b_X5_greatestFrom_41, e8]
theorem st_busy (R : RQ bd lt ls lw lh lx zf qf uf tf cf ma st ti sp we ho sa ca cl) (hp : p1.toInt = k) (hk : k < 4) (p2 p3 : Int32) : ∃ oc r, f_X4_busy (tf k) (cf k) p1 p2 p3 = some oc ∧ f_X5_busy ma ti sp we ho sa p1 p2 p3 = some r ∧ ((∃ e, oc = .inl e ∧ (e, r.2) ∈ ([("java/lang/IllegalArgumentException", 2)] : List (String × Int32))) ∨ (oc = .inr r.1 ∧ r.2 = 0)) := by
  obtain ⟨n, T, S, W, Hm, X, K, kst, G, hks, old⟩ := R
  obtain ⟨ck, Q, P, L, H, C, hz, c9, hcv⟩ := old k hk
  have ok := G.1
  have Rm := G.2.2.2.2.2.2.2.1
  have h120 := Rm.1
  have eh4 := houseAt_t hp hk
  have eh5 := house_t hp hk
  have ehi := inB_t hp hk
  have ecl := clampN hp
  have hr := c9.2.2
  have hC := H.2.2.2.2.1
  by_cases c1 : p2.toInt ≤ p3.toInt
  · obtain ⟨a, e1, e2⟩ := busyTimes_s ok hr hC (v1 := p2) (v2 := p3) rfl rfl
    obtain ⟨b, e3, e4⟩ := busyIn_m ok Rm hp (v2 := p2) (v3 := p3) rfl rfl
    refine ⟨.inr a, (b, 0), ?_, ?_, Or.inr ⟨congrArg Sum.inr (eqI2 e2 e4 rfl), rfl⟩⟩
    · simp only [tB_r, tB_l, Option.bind_some, if_neg bIt0, if_pos bI_f, thr_t, thr_f, sz_t, f_X4_busy, eh4, f_X4_refuseIfTurned, if_pos (leI rfl rfl c1), e1]
    · simp only [tB_r, tB_l, Option.bind_some, if_neg bIt0, if_pos bI_f, thr_t, thr_f, sz_t, f_X5_busy, eh5, b_X5_busy_13, b_X5_busy_31, if_pos (leI rfl rfl c1), e3]
  · refine ⟨.inl "java/lang/IllegalArgumentException", (0, 2), ?_, ?_, Or.inl ⟨_, rfl, by simp⟩⟩
    · simp only [tB_r, tB_l, Option.bind_some, if_neg bIt0, if_pos bI_f, thr_t, thr_f, sz_t, f_X4_busy, eh4, f_X4_refuseIfTurned, if_neg (nleI rfl rfl (Int.not_le.mp c1))]
    · simp only [tB_r, tB_l, Option.bind_some, if_neg bIt0, if_pos bI_f, thr_t, thr_f, sz_t, f_X5_busy, eh5, b_X5_busy_13, b_X5_busy_31, if_neg (nleI rfl rfl (Int.not_le.mp c1))]
theorem sc_z {F : Int → Int} {v : Int} (h : ∀ y, y < v → F y = 0) : sc F v.toNat = 0 :=
  sc_0 (Nat.zero_le _) (fun j _ hj z => z.1 (h j (by omega)))
theorem st_spans (R : RQ bd lt ls lw lh lx zf qf uf tf cf ma st ti sp we ho sa ca cl) (hp : p1.toInt = k) (hk : k < 4)  : ∃ oc r, f_X4_spans (tf k) (cf k) p1  = some oc ∧ f_X5_spans ma ti sp we ho sa p1  = some r ∧ ((∃ e, oc = .inl e ∧ (e, r.2) ∈ ([] : List (String × Int32))) ∨ (oc = .inr r.1 ∧ r.2 = 0)) := by
  obtain ⟨n, T, S, W, Hm, X, K, kst, G, hks, old⟩ := R
  obtain ⟨ck, Q, P, L, H, C, hz, c9, hcv⟩ := old k hk
  have ok := G.1
  have Rm := G.2.2.2.2.2.2.2.1
  have h120 := Rm.1
  have eh4 := houseAt_t hp hk
  have eh5 := house_t hp hk
  have ehi := inB_t hp hk
  have ecl := clampN hp
  have hr := c9.2.2
  have hC := H.2.2.2.2.1
  obtain ⟨a, e1, e2⟩ := busySpans_s ok hr hC
  obtain ⟨v, e3, e4, e5⟩ := at_first ok Rm hp
  obtain ⟨b, e6, e7⟩ := spans_l ok Rm hp 0 FU 0 v e4 (by rw [sc_z e5]; exact t0) (by have := e4; show _ < 1000000; unfold atS at this; omega)
  refine ⟨.inr a, (b, 0), ?_, ?_, Or.inr ⟨congrArg Sum.inr (eqI2 e2 e7 rfl), rfl⟩⟩
  · simp only [tB_r, tB_l, Option.bind_some, if_neg bIt0, if_pos bI_f, thr_t, thr_f, sz_t, f_X4_spans, eh4, e1]
  · simp only [tB_r, tB_l, Option.bind_some, if_neg bIt0, if_pos bI_f, thr_t, thr_f, sz_t, f_X5_spans, eh5, b_X5_spans_13, e3, e6]
theorem nx_c (p : Int × Int) (B : CL) : nx (p :: B) = p.1.toNat := rfl
theorem span_at {n : Nat} {T S W : Nat → Nat} {C : Nat → Bool} {L : CL} (ok : okB n T S W) (h : canon n T S W C L) {v : Int} (h1 : FF n T S W C v ≠ 0) (h2 : FF n T S W C (v - 1) = 0) : ∃ A p B, L = A ++ p :: B ∧ p.1 = v ∧ tot A = 0 := by
  have : ∃ p ∈ L, p.1 = v := Classical.byContradiction (fun z => by
    have := pref_no (L := L) (y := v) (fun p hp e => z ⟨p, hp, e⟩)
    rw [h.2.2, h.2.2] at this
    omega)
  obtain ⟨p, hp, e⟩ := this
  obtain ⟨A, B, eL⟩ := List.append_of_mem hp
  subst eL
  refine ⟨A, p, B, rfl, e, ?_⟩
  have := sg1 h
  rw [e] at this
  omega
theorem st_span (R : RQ bd lt ls lw lh lx zf qf uf tf cf ma st ti sp we ho sa ca cl) (hp : p1.toInt = k) (hk : k < 4) (p2 p3 : Int32) : ∃ oc r, f_X4_span (tf k) (cf k) p1 p2 p3 = some oc ∧ f_X5_span ma ti sp we ho sa p1 p2 p3 = some r ∧ ((∃ e, oc = .inl e ∧ (e, r.2) ∈ ([("java/lang/IllegalArgumentException", 2), ("java/util/NoSuchElementException", 3)] : List (String × Int32))) ∨ (oc = .inr r.1 ∧ r.2 = 0)) := by
  obtain ⟨n, T, S, W, Hm, X, K, kst, G, hks, old⟩ := R
  obtain ⟨ck, Q, P, L, H, C, hz, c9, hcv⟩ := old k hk
  have ok := G.1
  have Rm := G.2.2.2.2.2.2.2.1
  have h120 := Rm.1
  have eh4 := houseAt_t hp hk
  have eh5 := house_t hp hk
  have ehi := inB_t hp hk
  have ecl := clampN hp
  have hr := c9.2.2
  have hC := H.2.2.2.2.1
  have hw : (p3 = 98 ∨ p3 = 101 ∨ p3 = 103) ∨ (¬ p3 = 98 ∧ ¬ p3 = 101 ∧ ¬ p3 = 103) := by
    by_cases a : p3 = 98
    · exact Or.inl (Or.inl a)
    · by_cases b : p3 = 101
      · exact Or.inl (Or.inr (Or.inl b))
      · by_cases c : p3 = 103
        · exact Or.inl (Or.inr (Or.inr c))
        · exact Or.inr ⟨a, b, c⟩
  rcases hw with hw | ⟨a, b, c⟩
  · have e4c : f_X4_span (tf k) (cf k) p1 p2 p3 = b_X4_span_38 (tf k) (cf k) p2 p3 := by
      unfold f_X4_span
      rw [eh4, tB_r]
      rcases hw with rfl | rfl | rfl
      · rw [if_pos rfl]
      · rw [if_neg (by decide), if_pos rfl]
      · rw [if_neg (by decide), if_neg (by decide), if_pos rfl]
    obtain ⟨v0, e3, e4, e5⟩ := at_first ok Rm hp
    obtain ⟨r, e6, e7, e8⟩ := span_l ok Rm hp (v2 := p2) rfl p3 0 FU v0 0 e4 (by rw [sc_z e5]; exact t0) (Or.inr trivial) (by have := e4; show _ < 1000000; unfold atS at this; omega) (Or.inr t0)
    have e5c : f_X5_span ma ti sp we ho sa p1 p2 p3 = b_X5_span_97 ma ti sp we ho sa p1 p2 p3 r 0 := by
      rw [← e6]
      unfold f_X5_span
      rw [eh5]
      simp only [Option.bind_some]
      rw [if_neg bIt0]
      unfold b_X5_span_13
      rw [thr_f]
      simp only [Option.bind_some]
      rw [if_pos bI_f]
      have e9 : b_X5_span_44 ma ti sp we ho sa p1 p2 p3 false 0 = l_X5_span_64 ma ti sp we ho sa p1 p2 p3 0 FU v0 0 := by
        unfold b_X5_span_44
        rw [thr_f]
        simp only [Option.bind_some]
        rw [if_pos bI_f, e3]
        rfl
      rcases hw with rfl | rfl | rfl
      · rw [if_pos rfl, e9]
      · rw [if_neg (by decide), if_pos rfl, e9]
      · rw [if_neg (by decide), if_neg (by decide), if_pos rfl, e9]
    rw [e4c, e5c]
    obtain ⟨f, f1, f2⟩ := firstChange_s ok hr hC (v1 := p2) rfl
    have hbeg : ∀ A p B, L = A ++ p :: B → tot A = 0 → 0 ≤ p.1 ∧ p.1 < 10500 ∧ FF n T S W (cm Hm X k) p.1 ≠ 0 ∧ FF n T S W (cm Hm X k) (p.1 - 1) = 0 := by
      intro A p B eL ht
      have hC' := hC
      rw [eL] at hC'
      have g1 := sg_nx ok hC'
      have g2 := sg1 hC'
      have g3 := sg2 hC'
      exact ⟨g1.1, by omega, by rw [g3, ht]; omega, by rw [g2]; exact ht⟩
    have bad : (p2.toInt < 0 ∨ r = 100000) → f = -1 → ∃ oc r9, b_X4_span_38 (tf k) (cf k) p2 p3 = some oc ∧ b_X5_span_97 ma ti sp we ho sa p1 p2 p3 r 0 = some r9 ∧ ((∃ e, oc = .inl e ∧ (e, r9.2) ∈ ([("java/lang/IllegalArgumentException", 2), ("java/util/NoSuchElementException", 3)] : List (String × Int32))) ∨ (oc = .inr r9.1 ∧ r9.2 = 0)) := by
      intro c9' cf9
      refine ⟨.inl "java/util/NoSuchElementException", (0, 3), ?_, ?_, Or.inl ⟨_, rfl, by simp⟩⟩
      · simp only [tB_r, tB_l, Option.bind_some, if_neg bIt0, if_pos bI_f, thr_t, thr_f, sz_t, b_X4_span_38, f1, if_neg (nleI t0 (show f.toInt = -1 by rw [cf9]; rfl) (by omega))]
      · rcases Int.lt_or_le p2.toInt 0 with z | z
        · simp only [tB_r, tB_l, Option.bind_some, if_neg bIt0, if_pos bI_f, thr_t, thr_f, sz_t, b_X5_span_97, if_pos (ltI rfl t0 z), b_X5_span_114]
        · simp only [tB_r, tB_l, Option.bind_some, if_neg bIt0, if_pos bI_f, thr_t, thr_f, sz_t, b_X5_span_97, if_neg (nltI rfl t0 z), if_pos (c9'.resolve_left (by omega)), b_X5_span_114]
    rcases Int.lt_or_le p2.toInt 0 with c0 | c0
    · refine bad (Or.inl c0) ?_
      rcases f2 with ⟨A, p, B, -, -, -, z⟩ | ⟨z, -⟩
      · have := sc_nn (FF n T S W (cm Hm X k)) (nx (p :: B)); omega
      · exact z
    · rcases e8 with z | ⟨z1, z2⟩ | ⟨z1, z2⟩
      · omega
      · refine bad (Or.inr (eqI2 z1 tF rfl)) ?_
        rcases f2 with ⟨A, p, B, eL, -, ht, z⟩ | ⟨z, -⟩
        · obtain ⟨g1, g2, g3, g4⟩ := hbeg A p B eL ht
          have e9 : ((p.1.toNat : Nat) : Int) = p.1 := by omega
          have s1 := sc_1 (F := FF n T S W (cm Hm X k)) (a := p.1.toNat) (by rw [e9]; exact ⟨g3, g4⟩)
          have s2 := sc_mono (F := FF n T S W (cm Hm X k)) (a := p.1.toNat + 1) (b := 10500) (by omega)
          rw [nx_c] at z
          have s3 := Int.le_trans s2 z2
          clear s2 z2
          rw [s1, z] at s3
          omega
        · exact z
      · have a1 : 0 ≤ r.toInt ∧ r.toInt < 10500 ∧ FF n T S W (cm Hm X k) r.toInt ≠ 0 ∧ FF n T S W (cm Hm X k) (r.toInt - 1) = 0 := e7.resolve_left z1
        obtain ⟨A0, q0, B0, eL0, q1, q2⟩ := span_at ok hC a1.2.2.1 a1.2.2.2
        rcases f2 with ⟨A, p, B, eL, hf, ht, z⟩ | ⟨-, z⟩
        · obtain ⟨g1, g2, g3, g4⟩ := hbeg A p B eL ht
          have e9 : ((p.1.toNat : Nat) : Int) = p.1 := by omega
          have e10 : ((r.toInt.toNat : Nat) : Int) = r.toInt := by omega
          have e11 : p.1.toNat = r.toInt.toNat := sc_inj (F := FF n T S W (cm Hm X k)) (by rw [e9]; exact ⟨g3, g4⟩) (by rw [e10]; exact a1.2.2) (by rw [nx_c] at z; omega)
          have e12 : p.1 = r.toInt := by omega
          have hr' := hr
          have hC' := hC
          rw [eL] at hr' hC'
          obtain ⟨en, n1, n2⟩ := end_s ok hr' hC' ht hf
          obtain ⟨hg, e', n3, n4, n5⟩ := highSpan_s ok hr' hC' ht hf
          obtain ⟨id, n6, n7⟩ := idleFrom_s Rm ok hp (v3 := r) rfl a1.1
          obtain ⟨gr, n8, n9⟩ := greatestIn_m Rm ok hp (v2 := r) (v3 := id) rfl rfl
          rw [e12] at n2 n4 n5
          have n10 : en.toInt = id.toInt := id_one n2 n7
          have n11 : e' = id.toInt := id_one n4 n7
          rw [n11] at n5
          have n12 : upOf (fun z => ∃ y, r.toInt ≤ y ∧ y < id.toInt ∧ z = FF n T S W (cm Hm X k) y) gr.toInt := up_conv n9 (fun y ⟨b, b1, ⟨b2, b3, b4⟩, b5⟩ => ⟨_, b3, b4, b5⟩) (fun z ⟨y, y1, y2, y3⟩ => by
            obtain ⟨b, b1, b2, b3, b4, b5⟩ := peak (n7.2.2 y y1 y2)
            have hge : r.toInt ≤ (T b : Int) := by
              rcases Int.lt_or_le (T b : Int) r.toInt with w | w
              · have := FF_on (n := n) (T := T) (S := S) (W := W) (C := cm Hm X k) (fun d hd => (ok.2 d hd).2.2.1) (y := r.toInt - 1) b1 b2 (by omega) (by omega)
                omega
              · exact w
            exact ⟨_, ⟨b, b1, ⟨⟨b2, by omega⟩, hge, by omega⟩, rfl⟩, by rw [y3]; exact b5⟩)
          have n13 : hg.toInt = gr.toInt := up_one (fun z ⟨y, _, _, hy⟩ => by rw [hy]; exact (sg_bd ok y).1) n5 n12
          have eg : f_X3_get 240 (tf k) f = some (iz p.1) := rpC_t hr' hf
          have hlA : A.length ≤ 240 := by have := rpC_len hr'; simp at this; omega
          rcases hw with rfl | rfl | rfl
          · refine ⟨.inr (iz p.1), (r, 0), ?_, ?_, Or.inr ⟨congrArg Sum.inr (eqI2 (rpC_1 hr') rfl e12), rfl⟩⟩
            · simp only [tB_r, tB_l, Option.bind_some, if_neg bIt0, if_pos bI_f, thr_t, thr_f, sz_t, b_X4_span_38, f1, if_pos (leI t0 hf (by omega)), eg, if_true]
            · simp only [tB_r, tB_l, Option.bind_some, if_neg bIt0, if_pos bI_f, thr_t, thr_f, sz_t, b_X5_span_97, if_neg (nltI rfl t0 c0), if_neg (neI rfl tF z1), b_X5_span_114, n6, if_true]
          · refine ⟨.inr en, (id, 0), ?_, ?_, Or.inr ⟨congrArg Sum.inr (eqI2 n10 rfl rfl), rfl⟩⟩
            · simp only [tB_r, tB_l, Option.bind_some, if_neg bIt0, if_pos bI_f, thr_t, thr_f, sz_t, b_X4_span_38, f1, if_pos (leI t0 hf (by omega)), if_neg (by decide : ¬ ((101 : Int32) = 98)), n1, if_true]
            · simp only [tB_r, tB_l, Option.bind_some, if_neg bIt0, if_pos bI_f, thr_t, thr_f, sz_t, b_X5_span_97, if_neg (nltI rfl t0 c0), if_neg (neI rfl tF z1), b_X5_span_114, n6, if_neg (by decide : ¬ ((101 : Int32) = 98)), if_true]
          · refine ⟨.inr hg, (gr, 0), ?_, ?_, Or.inr ⟨congrArg Sum.inr (eqI2 n13 rfl rfl), rfl⟩⟩
            · simp only [tB_r, tB_l, Option.bind_some, if_neg bIt0, if_pos bI_f, thr_t, thr_f, sz_t, b_X4_span_38, f1, if_pos (leI t0 hf (by omega)), if_neg (by decide : ¬ ((103 : Int32) = 98)), if_neg (by decide : ¬ ((103 : Int32) = 101)), n3]
            · simp only [tB_r, tB_l, Option.bind_some, if_neg bIt0, if_pos bI_f, thr_t, thr_f, sz_t, b_X5_span_97, if_neg (nltI rfl t0 c0), if_neg (neI rfl tF z1), b_X5_span_114, n6, if_neg (by decide : ¬ ((103 : Int32) = 98)), if_neg (by decide : ¬ ((103 : Int32) = 101)), n8]
        · exact absurd (by rw [nx_c, q1]; exact z2) (z A0 q0 B0 eL0 q2)
  · refine ⟨.inl "java/lang/IllegalArgumentException", (0, 2), ?_, ?_, Or.inl ⟨_, rfl, by simp⟩⟩
    · simp only [tB_r, tB_l, Option.bind_some, if_neg bIt0, if_pos bI_f, thr_t, thr_f, sz_t, f_X4_span, eh4, if_neg a, if_neg b, if_neg c]
    · simp only [tB_r, tB_l, Option.bind_some, if_neg bIt0, if_pos bI_f, thr_t, thr_f, sz_t, f_X5_span, eh5, b_X5_span_13, if_neg a, if_neg b, if_neg c, b_X5_span_44]
theorem st_free (R : RQ bd lt ls lw lh lx zf qf uf tf cf ma st ti sp we ho sa ca cl) (hp : p1.toInt = k) (hk : k < 4) (p2 p3 : Int32) : ∃ oc r, f_X4_free (tf k) (cf k) p1 p2 p3 = some oc ∧ f_X5_free ma ti sp we ho sa p1 p2 p3 = some r ∧ ((∃ e, oc = .inl e ∧ (e, r.2) ∈ ([("java/lang/IllegalArgumentException", 2)] : List (String × Int32))) ∨ (oc = .inr r.1 ∧ r.2 = 0)) := by
  obtain ⟨n, T, S, W, Hm, X, K, kst, G, hks, old⟩ := R
  obtain ⟨ck, Q, P, L, H, C, hz, c9, hcv⟩ := old k hk
  have ok := G.1
  have Rm := G.2.2.2.2.2.2.2.1
  have h120 := Rm.1
  have eh4 := houseAt_t hp hk
  have eh5 := house_t hp hk
  have ehi := inB_t hp hk
  have ecl := clampN hp
  have hr := c9.2.2
  have hC := H.2.2.2.2.1
  by_cases c1 : 0 ≤ p2.toInt ∧ p2.toInt ≤ 20000
  · by_cases c2 : 1 ≤ p3.toInt ∧ p3.toInt ≤ 500
    · obtain ⟨a, e1, e2⟩ := freeFrom_s ok hr hC (v1 := p2) (v2 := p3) rfl rfl c1 c2
      obtain ⟨v, e3, e4⟩ := busyFrom_m Rm ok hp (v2 := p2) rfl
      obtain ⟨b, e5, e6⟩ := free_l ok Rm hp (v3 := p3) rfl c1 c2 0 FU p2 v ⟨Int.le_refl _, c1.2⟩ e4 (fun s h1 h2 => by omega) (by
        show _ < 1000000
        rcases e4.2 with z | z
        · omega
        · have := z.1; omega)
      refine ⟨.inr a, (b, 0), ?_, ?_, Or.inr ⟨congrArg Sum.inr (eqI2 (fr_one e2 e6) rfl rfl), rfl⟩⟩
      · simp only [tB_r, tB_l, Option.bind_some, if_neg bIt0, if_pos bI_f, thr_t, thr_f, sz_t, f_X4_free, eh4, in4_t t0 t20000 c1, in4_t t1 t500 c2, e1]
      · simp only [tB_r, tB_l, Option.bind_some, if_neg bIt0, if_pos bI_f, thr_t, thr_f, sz_t, f_X5_free, eh5, b_X5_free_13, in5_t t0 t20000 c1, in5_t t1 t500 c2, b_X5_free_48, e3, e5]
    · refine ⟨.inl "java/lang/IllegalArgumentException", (0, 2), ?_, ?_, Or.inl ⟨_, rfl, by simp⟩⟩
      · simp only [tB_r, tB_l, Option.bind_some, if_neg bIt0, if_pos bI_f, thr_t, thr_f, sz_t, f_X4_free, eh4, in4_t t0 t20000 c1, in4_f t1 t500 c2]
      · simp only [tB_r, tB_l, Option.bind_some, if_neg bIt0, if_pos bI_f, thr_t, thr_f, sz_t, f_X5_free, eh5, b_X5_free_13, in5_t t0 t20000 c1, in5_f t1 t500 c2, b_X5_free_48]
  · refine ⟨.inl "java/lang/IllegalArgumentException", (0, 2), ?_, ?_, Or.inl ⟨_, rfl, by simp⟩⟩
    · simp only [tB_r, tB_l, Option.bind_some, if_neg bIt0, if_pos bI_f, thr_t, thr_f, sz_t, f_X4_free, eh4, in4_f t0 t20000 c1]
    · simp only [tB_r, tB_l, Option.bind_some, if_neg bIt0, if_pos bI_f, thr_t, thr_f, sz_t, f_X5_free, eh5, b_X5_free_13, in5_f t0 t20000 c1, b_X5_free_48]
theorem st_load (R : RQ bd lt ls lw lh lx zf qf uf tf cf ma st ti sp we ho sa ca cl) (hp : p1.toInt = k) (hk : k < 4)  : ∃ oc r, f_X4_load (tf k) (cf k) p1  = some oc ∧ f_X5_load ma sp we ho sa p1  = some r ∧ ((∃ e, oc = .inl e ∧ (e, r.2) ∈ ([] : List (String × Int32))) ∨ (oc = .inr r.1 ∧ r.2 = 0)) := by
  obtain ⟨n, T, S, W, Hm, X, K, kst, G, hks, old⟩ := R
  obtain ⟨ck, Q, P, L, H, C, hz, c9, hcv⟩ := old k hk
  have ok := G.1
  have Rm := G.2.2.2.2.2.2.2.1
  have h120 := Rm.1
  have eh4 := houseAt_t hp hk
  have eh5 := house_t hp hk
  have ehi := inB_t hp hk
  have ecl := clampN hp
  have hr := c9.2.2
  have hC := H.2.2.2.2.1
  obtain ⟨a, e1, e2⟩ := total_s ok hr hC
  obtain ⟨b, e3, e4⟩ := loadOf_m Rm ok hp
  have e5 := H.2.2.2.2.2
  refine ⟨.inr a, (b, 0), ?_, ?_, Or.inr ⟨congrArg Sum.inr (show a = b from Int64.toInt_inj.mp (by omega)), rfl⟩⟩
  · simp only [tB_r, tB_l, Option.bind_some, if_neg bIt0, if_pos bI_f, thr_t, thr_f, sz_t, f_X4_load, eh4, e1]
  · simp only [tB_r, tB_l, Option.bind_some, if_neg bIt0, if_pos bI_f, thr_t, thr_f, sz_t, f_X5_load, eh5, b_X5_load_13, e3]
theorem st_isQuiet (R : RQ bd lt ls lw lh lx zf qf uf tf cf ma st ti sp we ho sa ca cl) (hp : p1.toInt = k) (hk : k < 4)  : ∃ oc r, f_X4_isQuiet (zf k) (qf k) (tf k) p1  = some oc ∧ f_X5_isQuiet ma ti sp we ho sa cl p1  = some r ∧ ((∃ e, oc = .inl e ∧ (e, r.2) ∈ ([] : List (String × Int32))) ∨ (oc = .inr r.1 ∧ r.2 = 0)) := by
  obtain ⟨n, T, S, W, Hm, X, K, kst, G, hks, old⟩ := R
  obtain ⟨ck, Q, P, L, H, C, hz, c9, hcv⟩ := old k hk
  have ok := G.1
  have Rm := G.2.2.2.2.2.2.2.1
  have h120 := Rm.1
  have eh4 := houseAt_t hp hk
  have eh5 := house_t hp hk
  have ehi := inB_t hp hk
  have ecl := clampN hp
  have hr := c9.2.2
  have hC := H.2.2.2.2.1
  obtain ⟨mw, em, emt⟩ := many_s Rm hp (x := 0) t0
  rw [q_cnt H.1] at emt
  have hql := qr_len c9.1
  obtain ⟨a, e1, e2⟩ := isOverAt_s ok hr hC hz
  obtain ⟨v, e3, e4⟩ := busyFrom_m Rm ok hp hcv
  by_cases c : Q.length = 0
  · by_cases c2 : a = true
    · have hv : v = 100000 := eqI2 rfl tF (by
        rcases e4.2 with z | z
        · exact z
        · exact absurd (e2.mp c2 _ z.1) z.2)
      subst c2
      refine ⟨.inr true, (true, 0), ?_, ?_, Or.inr ⟨congrArg Sum.inr (rfl), rfl⟩⟩
      · simp only [tB_r, tB_l, Option.bind_some, if_neg bIt0, if_pos bI_f, thr_t, thr_f, sz_t, f_X4_isQuiet, eh4, if_pos (eqI2 hql t0 (by omega)), e1]
      · simp only [tB_r, tB_l, Option.bind_some, if_neg bIt0, if_pos bI_f, thr_t, thr_f, sz_t, f_X5_isQuiet, eh5, b_X5_isQuiet_13, em, if_pos (eqI2 emt t0 (by omega)), if_pos ehi, ecl, e3, if_pos hv]
    · have hv : ¬ v = 100000 := fun z => c2 (e2.mpr (fun y hy => Classical.byContradiction (fun w => by
        have h1 := e4.1 y ⟨hy, w⟩
        have h2 : y < 10499 := Int.not_le.mp (fun h => w (FF_far ok h))
        rw [z, tF] at h1
        omega)))
      rw [Bool.not_eq_true] at c2
      subst c2
      refine ⟨.inr false, (false, 0), ?_, ?_, Or.inr ⟨congrArg Sum.inr (rfl), rfl⟩⟩
      · simp only [tB_r, tB_l, Option.bind_some, if_neg bIt0, if_pos bI_f, thr_t, thr_f, sz_t, f_X4_isQuiet, eh4, if_pos (eqI2 hql t0 (by omega)), e1]
      · simp only [tB_r, tB_l, Option.bind_some, if_neg bIt0, if_pos bI_f, thr_t, thr_f, sz_t, f_X5_isQuiet, eh5, b_X5_isQuiet_13, em, if_pos (eqI2 emt t0 (by omega)), if_pos ehi, ecl, e3, if_neg hv]
  · refine ⟨.inr false, (false, 0), ?_, ?_, Or.inr ⟨congrArg Sum.inr (rfl), rfl⟩⟩
    · simp only [tB_r, tB_l, Option.bind_some, if_neg bIt0, if_pos bI_f, thr_t, thr_f, sz_t, f_X4_isQuiet, eh4, if_neg (neI hql t0 (by omega))]
    · simp only [tB_r, tB_l, Option.bind_some, if_neg bIt0, if_pos bI_f, thr_t, thr_f, sz_t, f_X5_isQuiet, eh5, b_X5_isQuiet_13, em, if_neg (neI emt t0 (by omega))]
theorem st_about (R : RQ bd lt ls lw lh lx zf qf uf tf cf ma st ti sp we ho sa ca cl) (p1 p2 : Int32) : ∃ oc r, f_X4_about lt ls lw lh lx p1 p2 = some oc ∧ f_X5_about ma ti sp we ho sa p1 p2 = some r ∧ ((∃ e, oc = .inl e ∧ (e, r.2) ∈ ([("java/lang/IndexOutOfBoundsException", 1), ("java/lang/IllegalArgumentException", 2)] : List (String × Int32))) ∨ (oc = .inr r.1 ∧ r.2 = 0)) := by
  obtain ⟨n, T, S, W, Hm, X, K, kst, G, hks, old⟩ := R
  have Rm := G.2.2.2.2.2.2.2.1
  have h120 := Rm.1
  have hll := lr_len G.2.2.1
  have el : (lt.2 - 1).toInt = (n : Int) - 1 := by rw [tb (by rw [t1]; omega) (by rw [t1]; omega), t1, hll]
  by_cases c : 0 ≤ p1.toInt ∧ p1.toInt ≤ (n : Int) - 1
  · have hp : p1.toInt = ((p1.toInt.toNat : Nat) : Int) := by omega
    have hk : p1.toInt.toNat < n := by omega
    generalize p1.toInt.toNat = b at hp hk
    have i1 := in4_t t0 el c
    have hi : inB p1 120 = true := inB_t hp (by omega)
    have e0 : f_X5_about ma ti sp we ho sa p1 p2 = b_X5_about_18 ti sp we ho sa p1 p2 false := by
      unfold f_X5_about
      rw [if_neg (nltI rfl t0 c.1), if_pos (ltI hp Rm.2.1 (by omega))]
    rw [e0]
    obtain ⟨m1', m2, m3, m4, m5⟩ := Rm.2.2 b hk
    by_cases d1 : p2 = 116
    · refine ⟨.inr (iz ((T b : Nat) : Int)).toInt64, ((ti b).toInt64, 0), ?_, ?_, Or.inr ⟨congrArg (fun v : Int32 => Sum.inr v.toInt64) (eqI2 (lr_t G.2.2.1 hk) m1' rfl), rfl⟩⟩
      · simp only [tB_r, tB_l, Option.bind_some, if_neg bIt0, if_pos bI_f, thr_t, thr_f, sz_t, f_X4_about, szl_t, i1, if_pos d1, lr_get G.2.2.1 hp hk]
      · simp only [tB_r, tB_l, Option.bind_some, if_neg bIt0, if_pos bI_f, thr_t, thr_f, sz_t, b_X5_about_18, b_X5_about_61, if_pos d1, if_pos hi, clampN hp]
    · by_cases d2 : p2 = 115
      · refine ⟨.inr (iz ((S b : Nat) : Int)).toInt64, ((sp b).toInt64, 0), ?_, ?_, Or.inr ⟨congrArg (fun v : Int32 => Sum.inr v.toInt64) (eqI2 (lr_t G.2.2.2.1 hk) m2 rfl), rfl⟩⟩
        · simp only [tB_r, tB_l, Option.bind_some, if_neg bIt0, if_pos bI_f, thr_t, thr_f, sz_t, f_X4_about, szl_t, i1, if_neg d1, if_pos d2, lr_get G.2.2.2.1 hp hk]
        · simp only [tB_r, tB_l, Option.bind_some, if_neg bIt0, if_pos bI_f, thr_t, thr_f, sz_t, b_X5_about_18, b_X5_about_61, if_neg d1, if_pos d2, if_pos hi, clampN hp]
      · by_cases d3 : p2 = 119
        · refine ⟨.inr (iz ((W b : Nat) : Int)).toInt64, ((we b).toInt64, 0), ?_, ?_, Or.inr ⟨congrArg (fun v : Int32 => Sum.inr v.toInt64) (eqI2 (lr_t G.2.2.2.2.1 hk) m3 rfl), rfl⟩⟩
          · simp only [tB_r, tB_l, Option.bind_some, if_neg bIt0, if_pos bI_f, thr_t, thr_f, sz_t, f_X4_about, szl_t, i1, if_neg d1, if_neg d2, if_pos d3, lr_get G.2.2.2.2.1 hp hk]
          · simp only [tB_r, tB_l, Option.bind_some, if_neg bIt0, if_pos bI_f, thr_t, thr_f, sz_t, b_X5_about_18, b_X5_about_61, if_neg d1, if_neg d2, if_pos d3, if_pos hi, clampN hp]
        · by_cases d4 : p2 = 104
          · refine ⟨.inr (iz ((Hm b : Nat) : Int)).toInt64, ((ho b).toInt64, 0), ?_, ?_, Or.inr ⟨congrArg (fun v : Int32 => Sum.inr v.toInt64) (eqI2 (lr_t G.2.2.2.2.2.1 hk) m4 rfl), rfl⟩⟩
            · simp only [tB_r, tB_l, Option.bind_some, if_neg bIt0, if_pos bI_f, thr_t, thr_f, sz_t, f_X4_about, szl_t, i1, if_neg d1, if_neg d2, if_neg d3, if_pos d4, lr_get G.2.2.2.2.2.1 hp hk]
            · simp only [tB_r, tB_l, Option.bind_some, if_neg bIt0, if_pos bI_f, thr_t, thr_f, sz_t, b_X5_about_18, b_X5_about_61, if_neg d1, if_neg d2, if_neg d3, if_pos d4, if_pos hi, clampN hp]
          · by_cases d5 : p2 = 120
            · refine ⟨.inr (iz ((X b : Nat) : Int)).toInt64, ((sa b).toInt64, 0), ?_, ?_, Or.inr ⟨congrArg (fun v : Int32 => Sum.inr v.toInt64) (eqI2 (lr_t G.2.2.2.2.2.2.1 hk) m5 rfl), rfl⟩⟩
              · simp only [tB_r, tB_l, Option.bind_some, if_neg bIt0, if_pos bI_f, thr_t, thr_f, sz_t, f_X4_about, szl_t, i1, if_neg d1, if_neg d2, if_neg d3, if_neg d4, if_pos d5, lr_get G.2.2.2.2.2.2.1 hp hk]
              · simp only [tB_r, tB_l, Option.bind_some, if_neg bIt0, if_pos bI_f, thr_t, thr_f, sz_t, b_X5_about_18, b_X5_about_61, if_neg d1, if_neg d2, if_neg d3, if_neg d4, if_pos d5, if_pos hi, clampN hp]
            · refine ⟨.inl "java/lang/IllegalArgumentException", (0, 2), ?_, ?_, Or.inl ⟨_, rfl, by simp⟩⟩
              · simp only [tB_r, tB_l, Option.bind_some, if_neg bIt0, if_pos bI_f, thr_t, thr_f, sz_t, f_X4_about, szl_t, i1, if_neg d1, if_neg d2, if_neg d3, if_neg d4, if_neg d5]
              · simp only [tB_r, tB_l, Option.bind_some, if_neg bIt0, if_pos bI_f, thr_t, thr_f, sz_t, b_X5_about_18, b_X5_about_61, if_neg d1, if_neg d2, if_neg d3, if_neg d4, if_neg d5]
  · have e0 : f_X5_about ma ti sp we ho sa p1 p2 = b_X5_about_18 ti sp we ho sa p1 p2 true := by
      unfold f_X5_about
      rcases Int.lt_or_le p1.toInt 0 with z | z
      · rw [if_pos (ltI rfl t0 z)]
      · rw [if_neg (nltI rfl t0 z), if_neg (nltI rfl Rm.2.1 (by omega))]
    refine ⟨.inl "java/lang/IndexOutOfBoundsException", (0, 1), ?_, ?_, Or.inl ⟨_, rfl, by simp⟩⟩
    · simp only [tB_r, tB_l, Option.bind_some, if_neg bIt0, if_pos bI_f, thr_t, thr_f, sz_t, f_X4_about, szl_t, in4_f t0 el c]
    · rw [e0]
      simp only [tB_r, tB_l, Option.bind_some, if_neg bIt0, if_pos bI_f, thr_t, thr_f, sz_t, b_X5_about_18]
end OPS3
