/-! what comes, and what goes elsewhere: both sides answer alike -/
section OPS2
variable {bd k : Nat} {lt ls lw lh lx : RS} {zf : Nat → Int32} {qf uf tf cf : Nat → RS} {ma st : Int32} {ti sp we ho sa ca cl : Nat → Int32} {p1 : Int32}
theorem st_next (R : RQ bd lt ls lw lh lx zf qf uf tf cf ma st ti sp we ho sa ca cl) (hb : bd ≤ 900000) (hp : p1.toInt = k) (hk : k < 4)  : ∃ oc r, f_X4_next lt ls lw lx (qf k) (uf k) (tf k) (cf k) p1  = some oc ∧ f_X5_next ma st ti ho sa ca cl p1  = some r ∧ ((∃ e, oc = .inl e ∧ (e, r.2.1) ∈ ([("java/util/NoSuchElementException", 2)] : List (String × Int32)) ∧ RQ (bd + 120) lt ls lw lh lx zf qf uf tf cf ma r.2.2.1 ti sp we ho r.2.2.2.1 r.2.2.2.2.1 r.2.2.2.2.2) ∨ ∃ a, oc = .inr a ∧ r.2.1 = 0 ∧ a.1 = r.1 ∧ RQ (bd + 120) lt ls lw lh a.2.1 (ups zf k a.2.2.1) (ups qf k a.2.2.2.1) (ups uf k a.2.2.2.2.1) (ups tf k a.2.2.2.2.2.1) (ups cf k a.2.2.2.2.2.2) ma r.2.2.1 ti sp we ho r.2.2.2.1 r.2.2.2.2.1 r.2.2.2.2.2) := by
  have R0 := R
  obtain ⟨n, T, S, W, Hm, X, K, kst, G, hks, old⟩ := R
  obtain ⟨ck, Q, P, L, H, C, hz, c9, hcv⟩ := old k hk
  have hnk : (nI k).toInt = k := nI_toInt (by omega)
  have hql := qr_len c9.1
  have hQ48 := H.2.1
  have Rm := G.2.2.2.2.2.2.2.1
  have h120 := Rm.1
  have eh4 := houseAt_t hp hk
  have eh5 := house_t hp hk
  have ehi := inB_t hp hk
  have ecl := clampN hp
  obtain ⟨f, ef, eft⟩ := first_s Rm hp H.1
  cases Q with
  | nil =>
    refine ⟨.inl "java/util/NoSuchElementException", (0, 2, st, sa, ca, cl), ?_, ?_, Or.inl ⟨_, rfl, by simp, RL_mono R0 (by omega)⟩⟩
    · simp only [tB_r, tB_l, Option.bind_some, if_neg bIt0, if_pos bI_f, thr_t, thr_f, sz_t, f_X4_next, eh4, if_pos (eqI2 hql t0 rfl)]
    · simp only [tB_r, tB_l, Option.bind_some, if_neg bIt0, if_pos bI_f, thr_t, thr_f, sz_t, f_X5_next, eh5, b_X5_next_13, ef, if_pos (eqI2 eft m1 rfl), b_X5_next_39]
  | cons b B =>
    have hb : f.toInt = (b : Nat) := eft
    obtain ⟨b1, b2, b3⟩ := (H.1.1 b).mp List.mem_cons_self
    have hlen : (b :: B).length = B.length + 1 := rfl
    have rs := G.2.2.2.2.2.2.2.2
    obtain ⟨g, lx1, z1, q1, u1, t1', c1, L1, e1, eg, ez, hx1, c91, H1⟩ := come_s (kst := kst) G.1 G.2.2.1 G.2.2.2.1 G.2.2.2.2.1 G.2.2.2.2.2.2.1 H c9 (fun d hd hd2 => (rs.1 d hd hd2).2) (fun d hd => by
      have h1 := C.2.2 d hd
      have h2 := C.2.1 b List.mem_cons_self
      omega)
    have ec := comes_s (st := st) (ca := ca) (cl := cl) Rm hb b1 b2 hk
    have R1 : mR n T S W Hm (fun d => if d = b then 1 else X d) ma ti sp we ho (upd sa b 1) := by
      have := mR_setX (X' := fun d => if d = b then 1 else X d) Rm hb (x := 1) t1 (fun d _ => rfl)
      rw [clampN hb] at this
      exact this
    have es : (st + 1).toInt = ((kst + 1 : Nat) : Int) := by rw [ta (by rw [t1, rs.2]; omega) (by rw [t1, rs.2]; omega), t1, rs.2]; omega
    refine ⟨.inr (g, lx1, z1, q1, u1, t1', c1), (f, 0, st + 1, upd sa b 1, upd ca b st, upd cl k (ti b)), ?_, ?_, Or.inr ⟨_, rfl, rfl, eqI2 eg hb rfl, ?_⟩⟩
    · simp only [tB_r, tB_l, Option.bind_some, if_neg bIt0, if_pos bI_f, thr_t, thr_f, sz_t, f_X4_next, eh4, if_neg (neI hql t0 (by omega)), e1]
    · simp only [tB_r, tB_l, Option.bind_some, if_neg bIt0, if_pos bI_f, thr_t, thr_f, sz_t, f_X5_next, eh5, b_X5_next_13, ef, if_neg (neI hb m1 (by omega)), b_X5_next_39, ec]
    · refine RL_one (kst := kst + 1) (T := T) (S := S) (W := W) (Hm := Hm) (X := X) (K := K) (n := n) (X' := fun d => if d = b then 1 else X d) (K' := fun d => if d = b then kst else K d) ⟨G.1, fun d hd => ⟨(G.2.1 d hd).1, ?_⟩, G.2.2.1, G.2.2.2.1, G.2.2.2.2.1, G.2.2.2.2.2.1, hx1, R1, fun d hd hx => ?_, es⟩ (by omega) (FR_in (fun d _ => Or.inl rfl) (fun d hd hh => ⟨rfl, rfl, rfl, if_neg (fun z => hh (by rw [z]; exact b2)), if_neg (fun z => hh (by rw [z]; exact b2))⟩)) old ⟨H1, ⟨(G.1.2 b b1).1, fun d hd => ?_, fun d hd => ?_⟩, ez, c91, ?_⟩ (fun j hj => upd_n _ _ hj)
      · show (if d = b then 1 else X d) ≤ 2
        by_cases z : d = b
        · rw [if_pos z]; omega
        · rw [if_neg z]; exact (G.2.1 d hd).2
      · show (upd ca b st d).toInt = ((if d = b then kst else K d : Nat) : Int) ∧ (if d = b then kst else K d) < kst + 1
        have hx : (if d = b then 1 else X d) = 1 := hx
        by_cases z : d = b
        · rw [if_pos z, z, upd_e]; exact ⟨rs.2, by omega⟩
        · rw [if_neg z] at hx
          rw [if_neg z, upd_n _ _ z]
          have := rs.1 d hd hx
          exact ⟨this.1, by omega⟩
      · exact ho_in ((List.pairwise_cons.mp H.1.2).1 d hd)
      · rcases List.mem_append.mp hd with w | w
        · have h1 := C.2.2 d w
          have h2 := C.2.1 b List.mem_cons_self
          omega
        · rw [List.mem_singleton.mp w]; exact Nat.le_refl _
      · show (upd cl k (ti b) k).toInt = ((T b : Nat) : Int)
        rw [upd_e]; exact (Rm.2.2 b b1).1
theorem st_run (R : RQ bd lt ls lw lh lx zf qf uf tf cf ma st ti sp we ho sa ca cl) (hb : bd ≤ 900000) (hp : p1.toInt = k) (hk : k < 4) (p2 : Int32) : ∃ oc r, f_X4_run lt ls lw lx (zf k) (qf k) (uf k) (tf k) (cf k) p1 p2 = some oc ∧ f_X5_run ma st ti ho sa ca cl p1 p2 = some r ∧ ((∃ e, oc = .inl e ∧ (e, r.2.1) ∈ ([("java/lang/IllegalArgumentException", 2), ("java/lang/IllegalStateException", 3)] : List (String × Int32)) ∧ RQ (bd + 120) lt ls lw lh lx zf qf uf tf cf ma r.2.2.1 ti sp we ho r.2.2.2.1 r.2.2.2.2.1 r.2.2.2.2.2) ∨ ∃ a, oc = .inr a ∧ r.2.1 = 0 ∧ a.1 = r.1 ∧ RQ (bd + 120) lt ls lw lh a.2.1 (ups zf k a.2.2.1) (ups qf k a.2.2.2.1) (ups uf k a.2.2.2.2.1) (ups tf k a.2.2.2.2.2.1) (ups cf k a.2.2.2.2.2.2) ma r.2.2.1 ti sp we ho r.2.2.2.1 r.2.2.2.2.1 r.2.2.2.2.2) := by
  have R0 := R
  obtain ⟨n, T, S, W, Hm, X, K, kst, G, hks, old⟩ := R
  obtain ⟨ck, Q, P, L, H, C, hz, c9, hcv⟩ := old k hk
  have hnk : (nI k).toInt = k := nI_toInt (by omega)
  have hql := qr_len c9.1
  have hQ48 := H.2.1
  have Rm := G.2.2.2.2.2.2.2.1
  have h120 := Rm.1
  have eh4 := houseAt_t hp hk
  have eh5 := house_t hp hk
  have ehi := inB_t hp hk
  have ecl := clampN hp
  by_cases c1 : 0 ≤ p2.toInt ∧ p2.toInt ≤ 9999
  · have i1 := in4_t t0 t9999 c1
    have j1 := in5_t t0 t9999 c1
    by_cases c2 : (ck : Int) ≤ p2.toInt
    · have hQn : ∀ b ∈ Q, b < n := fun b hb => ((H.1.1 b).mp hb).1
      have ep : (p2 + 1).toInt = p2.toInt + 1 := by rw [ta (by rw [t1]; omega) (by rw [t1]; omega), t1]
      obtain ⟨M, B, r1, eQ, w1, w2, w3, w4⟩ := wait_s G.2.2.1 c9.1 hQn H.1.2 ep
      have rs := G.2.2.2.2.2.2.2.2
      have hp9 : p2.toInt = ((p2.toInt.toNat : Nat) : Int) := by omega
      have hML : M.length ≤ 48 := by rw [eQ] at hQ48; simp at hQ48; omega
      have H' := H
      have c9' := c9
      rw [eQ] at H' c9'
      have ord : ∀ b ∈ P, ∀ d ∈ M, T b ≤ T d := fun b hb d hd => by
        have h1 := C.2.2 b hb
        have h2 := C.2.1 d (by rw [eQ]; simp [hd])
        omega
      obtain ⟨f, ef, eft⟩ := first_s Rm hp H'.1
      obtain ⟨lx', q', u', t', c', L', P', r, st', sa', ca', cl', X', K', kst', g1, g2, g3, g4, g5, g6, g7, g8, g9, g10, g11, g12, g13, g14⟩ := run_j (lt := lt) (ls := ls) (lw := lw) (v1 := p1) (v2 := p2) (v4 := r1) G.1 G.2.2.1 G.2.2.2.1 G.2.2.2.2.1 hp hk rfl 0 (fun b hb => by have := w4 b hb; omega) M FU FU 0 X K kst P L lx (qf k) (uf k) (tf k) (cf k) (zf k) st sa ca cl 0 0 f H' c9' G.2.2.2.2.2.2.1 ord Rm rs (by omega) (fun b hb => by have := w3 b hb; omega) t0 (by rw [w2]; simp) t0 eft (by show _ < 1000000; omega) (by show _ < 1000000; omega) (by omega)
      refine ⟨.inr (r1, lx', p2, q', u', t', c'), (r, 0, st', sa', ca', cl'), ?_, ?_, Or.inr ⟨_, rfl, rfl, (eqI2 g3 rfl rfl).symm, ?_⟩⟩
      · simp only [tB_r, tB_l, Option.bind_some, if_neg bIt0, if_pos bI_f, thr_t, thr_f, sz_t, f_X4_run, eh4, f_X4_refuseIfNoTime, f_X4_isTime, i1, if_pos (leI hz rfl c2), w1, g1]
      · simp only [tB_r, tB_l, Option.bind_some, if_neg bIt0, if_pos bI_f, thr_t, thr_f, sz_t, f_X5_run, eh5, b_X5_run_13, b_X5_run_37, b_X5_run_60, j1, if_pos ehi, ecl, if_pos (leI hcv rfl c2), ef, g2]
      · refine RL_one (kst := kst') (T := T) (S := S) (W := W) (Hm := Hm) (X := X) (K := K) (n := n) (X' := X') (K' := K') (ck := p2.toInt.toNat) ⟨G.1, fun d hd => ⟨(G.2.1 d hd).1, g14 d hd (G.2.1 d hd).2⟩, G.2.2.1, G.2.2.2.1, G.2.2.2.2.1, G.2.2.2.2.2.1, g4, g8, g9⟩ (by omega) (FR_in (fun d _ => Or.inl rfl) (fun d hd hh => ⟨rfl, rfl, rfl, (g13 d hd hh).1, (g13 d hd hh).2⟩)) old ⟨g6, ⟨by omega, fun d hd => ?_, fun d hd => ?_⟩, hp9, g5, by show (cl' k).toInt = _; rw [g12]; exact hp9⟩ g11
        · have := w4 d hd; omega
        · rcases g7 d hd with w | w
          · have := C.2.2 d w; omega
          · have := w3 d w; omega
    · refine ⟨.inl "java/lang/IllegalStateException", (0, 3, st, sa, ca, cl), ?_, ?_, Or.inl ⟨_, rfl, by simp, RL_mono R0 (by omega)⟩⟩
      · simp only [tB_r, tB_l, Option.bind_some, if_neg bIt0, if_pos bI_f, thr_t, thr_f, sz_t, f_X4_run, eh4, f_X4_refuseIfNoTime, f_X4_isTime, i1, if_neg (nleI hz rfl (Int.not_le.mp c2))]
      · simp only [tB_r, tB_l, Option.bind_some, if_neg bIt0, if_pos bI_f, thr_t, thr_f, sz_t, f_X5_run, eh5, b_X5_run_13, b_X5_run_37, b_X5_run_60, j1, if_pos ehi, ecl, if_neg (nleI hcv rfl (Int.not_le.mp c2))]
  · refine ⟨.inl "java/lang/IllegalArgumentException", (0, 2, st, sa, ca, cl), ?_, ?_, Or.inl ⟨_, rfl, by simp, RL_mono R0 (by omega)⟩⟩
    · simp only [tB_r, tB_l, Option.bind_some, if_neg bIt0, if_pos bI_f, thr_t, thr_f, sz_t, f_X4_run, eh4, f_X4_refuseIfNoTime, f_X4_isTime, in4_f t0 t9999 c1]
    · simp only [tB_r, tB_l, Option.bind_some, if_neg bIt0, if_pos bI_f, thr_t, thr_f, sz_t, f_X5_run, eh5, b_X5_run_13, b_X5_run_37, b_X5_run_60, in5_f t0 t9999 c1]
theorem st_back (R : RQ bd lt ls lw lh lx zf qf uf tf cf ma st ti sp we ho sa ca cl) (hb : bd ≤ 900000) (hp : p1.toInt = k) (hk : k < 4) (p2 : Int32) : ∃ oc r, f_X4_back lt ls lw lh lx (nI k) (zf k) (qf k) (uf k) (tf k) (cf k) p1 p2 = some oc ∧ f_X5_back ma ti ho sa cl p1 p2 = some r ∧ ((∃ e, oc = .inl e ∧ (e, r.2.1) ∈ ([("java/lang/IllegalArgumentException", 2), ("java/lang/IllegalStateException", 3)] : List (String × Int32)) ∧ RQ (bd + 120) lt ls lw lh lx zf qf uf tf cf ma st ti sp we ho r.2.2.1 ca r.2.2.2) ∨ ∃ a, oc = .inr a ∧ r.2.1 = 0 ∧ a.1 = r.1 ∧ RQ (bd + 120) lt ls lw a.2.1 a.2.2.1 (ups zf k a.2.2.2.1) (ups qf k a.2.2.2.2.1) (ups uf k a.2.2.2.2.2.1) (ups tf k a.2.2.2.2.2.2.1) (ups cf k a.2.2.2.2.2.2.2) ma st ti sp we ho r.2.2.1 ca r.2.2.2) := by
  have R0 := R
  obtain ⟨n, T, S, W, Hm, X, K, kst, G, hks, old⟩ := R
  obtain ⟨ck, Q, P, L, H, C, hz, c9, hcv⟩ := old k hk
  have hnk : (nI k).toInt = k := nI_toInt (by omega)
  have hql := qr_len c9.1
  have hQ48 := H.2.1
  have Rm := G.2.2.2.2.2.2.2.1
  have h120 := Rm.1
  have eh4 := houseAt_t hp hk
  have eh5 := house_t hp hk
  have ehi := inB_t hp hk
  have ecl := clampN hp
  obtain ⟨mw, em, emt⟩ := many_s Rm hp (x := 0) t0
  rw [q_cnt H.1] at emt
  by_cases c1 : 0 ≤ p2.toInt ∧ p2.toInt ≤ 9999
  · have i1 := in4_t t0 t9999 c1
    have j1 := in5_t t0 t9999 c1
    obtain ⟨rb, eb1, eb2⟩ := back_51 Rm hp (v2 := p2) rfl cl 0
    by_cases c2 : p2.toInt ≤ (ck : Int)
    · have hPn : ∀ b ∈ P, b < n := fun b hb => ((H.2.2.1.1 b).mp hb).1
      obtain ⟨A, M, r1, eP, w1, w2, w3, w4⟩ := back_s (v2 := p2) G.2.2.1 c9.2.1 hPn H.2.2.2.1 rfl
      have hmem : ∀ b, b < n → (bp T Hm X k p2.toInt b = true ↔ b ∈ M) := by
        intro b hb
        rw [bp_t]
        constructor
        · intro ⟨z1, z2, z3⟩
          have hbP := (H.2.2.1.1 b).mpr ⟨hb, z1, z2⟩
          rw [eP] at hbP
          rcases List.mem_append.mp hbP with z | z
          · have := w3 b z; omega
          · exact z
        · intro z
          have hbP : b ∈ P := by rw [eP]; simp [z]
          obtain ⟨-, z1, z2⟩ := (H.2.2.1.1 b).mp hbP
          exact ⟨z1, z2, w4 b z⟩
      have hsM : M.Pairwise (fun a b => K a < K b) := by
        have := H.2.2.1.2
        rw [eP] at this
        exact (List.pairwise_append.mp this).2.1
      have hcb : cb n (bp T Hm X k p2.toInt) = M.length := cb_list (hsM.imp (fun {a b} r z => by rw [z] at r; omega)) (fun b => by
        constructor
        · intro z
          have hbn : b < n := hPn b (by rw [eP]; simp [z])
          exact ⟨hbn, (hmem b hbn).mpr z⟩
        · intro z; exact (hmem b z.1).mp z.2)
      rw [hcb] at eb1
      have hM120 : M.length ≤ 120 := by
        have := (qr_N c9.2.1).1
        rw [eP] at this
        simp at this
        omega
      have e5 : ((qf k).2 + r1).toInt = ((Q.length + M.length : Nat) : Int) := by rw [ta (by omega) (by omega)]; omega
      have e6 : (mw + rb).toInt = ((Q.length + M.length : Nat) : Int) := by rw [ta (by omega) (by omega)]; omega
      rw [if_pos ehi, ecl, if_neg (nltI hcv rfl c2), em] at eb2
      simp only [Option.bind_some] at eb2
      by_cases c3 : Q.length + M.length ≤ 48
      · have hp9 : p2.toInt = ((p2.toInt.toNat : Nat) : Int) := by omega
        rw [if_pos (leI e6 t48 (by omega))] at eb2
        have H' := H
        have c9' := c9
        rw [eP] at H' c9'
        obtain ⟨lh', lx', q', u', t', c', L', Q', X', f1, f2, f3, f4, f5, f6⟩ := back_b (v2 := p2) (v4 := r1) G.1 G.2.2.1 G.2.2.2.1 G.2.2.2.2.1 hnk hk FU M 0 X L Q lh lx (qf k) (uf k) (tf k) (cf k) 0 H' c9' G.2.2.2.2.2.1 G.2.2.2.2.2.2.1 c3 t0 (by rw [w2]; simp) (by show _ < 1000000; omega) (by omega)
        obtain ⟨sa', g1, g2⟩ := back_148 Rm hp hk (v2 := p2) rfl cl rb 0
        have R1 : mR n T S W Hm X' ma ti sp we ho sa' := mR_X g2 (fun b hb => by
          rw [f6 b hb]
          by_cases z : b ∈ M
          · rw [if_pos z, if_pos ((hmem b hb).mpr z)]
          · rw [if_neg z, if_neg (fun w => z ((hmem b hb).mp w))])
        refine ⟨.inr (r1, lh', lx', p2, q', u', t', c'), (rb, 0, sa', upd cl k p2), ?_, ?_, Or.inr ⟨_, rfl, rfl, eqI2 w2 eb1 rfl, ?_⟩⟩
        · simp only [tB_r, tB_l, Option.bind_some, if_neg bIt0, if_pos bI_f, thr_t, thr_f, sz_t, f_X4_back, eh4, f_X4_refuseIfNoTime, f_X4_isTime, i1, if_pos (leI rfl hz c2), w1, if_pos (leI e5 t48 (by omega)), f1]
        · simp only [tB_r, tB_l, Option.bind_some, if_neg bIt0, if_pos bI_f, thr_t, thr_f, sz_t, f_X5_back, eh5, b_X5_back_13, b_X5_back_37, b_X5_back_136, j1, eb2, g1]
        · refine RL_one (T := T) (S := S) (W := W) (Hm := Hm) (X := X) (K := K) (n := n) (X' := X') (ck := p2.toInt.toNat) ⟨G.1, fun d hd => ⟨(G.2.1 d hd).1, ?_⟩, G.2.2.1, G.2.2.2.1, G.2.2.2.2.1, f2, f3, R1, fun d hd hx => ?_, G.2.2.2.2.2.2.2.2.2⟩ (by omega) (FR_in (fun d _ => Or.inl rfl) (fun d hd hh => ⟨rfl, rfl, rfl, ?_, rfl⟩)) old ⟨f5, ⟨by omega, fun d hd => ?_, fun d hd => ?_⟩, hp9, f4, by show (upd cl k p2 k).toInt = _; rw [upd_e]; exact hp9⟩ (fun j hj => upd_n _ _ hj)
          · rw [f6 d hd]
            by_cases z : d ∈ M
            · rw [if_pos z]; omega
            · rw [if_neg z]; exact (G.2.1 d hd).2
          · rw [f6 d hd] at hx
            by_cases z : d ∈ M
            · rw [if_pos z] at hx; omega
            · rw [if_neg z] at hx; exact G.2.2.2.2.2.2.2.2.1 d hd hx
          · rw [f6 d hd, if_neg (fun z => hh (bp_t.mp ((hmem d hd).mpr z)).1)]
          · obtain ⟨z1, z2, z3⟩ := (f5.1.1 d).mp hd
            rw [f6 d z1] at z3
            by_cases z : d ∈ M
            · have := w4 d z; omega
            · rw [if_neg z] at z3
              have := C.2.1 d ((H.1.1 d).mpr ⟨z1, z2, z3⟩)
              omega
          · have := w3 d hd; omega
      · rw [if_neg (nleI e6 t48 (by omega))] at eb2
        refine ⟨.inl "java/lang/IllegalStateException", (0, 3, sa, cl), ?_, ?_, Or.inl ⟨_, rfl, by simp, RL_mono R0 (by omega)⟩⟩
        · simp only [tB_r, tB_l, Option.bind_some, if_neg bIt0, if_pos bI_f, thr_t, thr_f, sz_t, f_X4_back, eh4, f_X4_refuseIfNoTime, f_X4_isTime, i1, if_pos (leI rfl hz c2), w1, if_neg (nleI e5 t48 (by omega))]
        · simp only [tB_r, tB_l, Option.bind_some, if_neg bIt0, if_pos bI_f, thr_t, thr_f, sz_t, f_X5_back, eh5, b_X5_back_13, b_X5_back_37, b_X5_back_136, j1, eb2]
    · rw [if_pos ehi, ecl, if_pos (ltI hcv rfl (Int.not_le.mp c2))] at eb2
      refine ⟨.inl "java/lang/IllegalStateException", (0, 3, sa, cl), ?_, ?_, Or.inl ⟨_, rfl, by simp, RL_mono R0 (by omega)⟩⟩
      · simp only [tB_r, tB_l, Option.bind_some, if_neg bIt0, if_pos bI_f, thr_t, thr_f, sz_t, f_X4_back, eh4, f_X4_refuseIfNoTime, f_X4_isTime, i1, if_neg (nleI rfl hz (Int.not_le.mp c2))]
      · simp only [tB_r, tB_l, Option.bind_some, if_neg bIt0, if_pos bI_f, thr_t, thr_f, sz_t, f_X5_back, eh5, b_X5_back_13, b_X5_back_37, b_X5_back_136, j1, eb2]
  · refine ⟨.inl "java/lang/IllegalArgumentException", (0, 2, sa, cl), ?_, ?_, Or.inl ⟨_, rfl, by simp, RL_mono R0 (by omega)⟩⟩
    · simp only [tB_r, tB_l, Option.bind_some, if_neg bIt0, if_pos bI_f, thr_t, thr_f, sz_t, f_X4_back, eh4, f_X4_refuseIfNoTime, f_X4_isTime, in4_f t0 t9999 c1]
    · simp only [tB_r, tB_l, Option.bind_some, if_neg bIt0, if_pos bI_f, thr_t, thr_f, sz_t, f_X5_back, eh5, b_X5_back_13, b_X5_back_37, b_X5_back_136, in5_f t0 t9999 c1]
/-- all that wait in a house from a time on go to another: the class's move and the reference's goes -/
theorem goes_j {n kst h o ck1 ck2 : Nat} {T S W Hm X K : Nat → Nat} {Q Q2 P P2 A M : List Nat} {L L2 : CL} {z1 z2 : Int32} {q u t c q2 u2 t2 c2 : RS} {v1 v2 v3 p2 : Int32} {x : Int} (G : GD n T S W Hm X K kst lt ls lw lh lx ma st ti sp we ho sa ca) (H : HS n T S W Hm X K h ck1 Q P L z1 q u t c (cl h)) (H2 : HS n T S W Hm X K o ck2 Q2 P2 L2 z2 q2 u2 t2 c2 (cl o)) (hno : h ≠ o) (hh4 : h < 4) (ho4 : o < 4) (hv1 : v1.toInt = h) (hv2 : v2.toInt = o) (hv3 : v3.toInt = x) (eQ : Q = A ++ M) (hp2 : p2.toInt = ((A.length : Nat) : Int)) (w3 : ∀ b ∈ A, (T b : Int) < x) (w4 : ∀ b ∈ M, x ≤ (T b : Int)) : ∃ oc r, f_X4_move lt lh lx q (nI o) z2 q2 p2 = some oc ∧ f_X5_goes ma ti ho sa cl v1 v2 v3 = some r ∧ ((oc = .inl "java/lang/IllegalStateException" ∧ r.2.1 = 2 ∧ mR n T S W Hm X ma ti sp we r.2.2 sa) ∨ ∃ lh' lx' q' q2' Q2' Hm', oc = .inr (nI M.length, lh', lx', q2', q') ∧ r.2.1 = 0 ∧ r.1 = nI M.length ∧ GD n T S W Hm' X K kst lt ls lw lh' lx' ma st ti sp we r.2.2 sa ca ∧ HS n T S W Hm' X K h ck1 A P L z1 q' u t c (cl h) ∧ HS n T S W Hm' X K o ck2 Q2' P2 L2 z2 q2' u2 t2 c2 (cl o) ∧ ∀ j, j ≠ h → j ≠ o → ∀ b, b < n → (Hm' b = j ↔ Hm b = j)) := by
  obtain ⟨ok, hb9, lt1, ls1, lw1, lh1, lx1, R, rs⟩ := G
  obtain ⟨HB1, C1, hz1, c91, hcv1⟩ := H
  obtain ⟨HB2, C2, hz2, c92, hcv2⟩ := H2
  subst eQ
  have hql := qr_len c91.1
  have hql2 := qr_len c92.1
  have hQ48 := HB1.2.1
  have hQ248 := HB2.2.1
  have hlen : (A ++ M).length = A.length + M.length := by simp
  have hn120 := R.1
  have eM : (nI M.length).toInt = ((M.length : Nat) : Int) := nI_toInt (by omega)
  have em : q.2 - p2 = nI M.length := eqI2 (by rw [tb (by omega) (by omega)]) eM (by omega)
  have hneg : ¬ v1 = v2 := neI hv1 hv2 (by omega)
  have ehi := inB_t hv2 ho4
  have ecl := clampN hv2
  have hsM : M.Pairwise (ah T) := (pw_app HB1.1.2).2.1
  have hmem : ∀ (y : Int) b, b < n → (wp T Hm X h x y b = true ↔ b ∈ M ∧ (T b : Int) < y) := by
    intro y b hb
    rw [wp_t]
    constructor
    · intro ⟨a1, a2, a3, a4⟩
      have hbQ := (HB1.1.1 b).mpr ⟨hb, a1, a2⟩
      rcases List.mem_append.mp hbQ with w | w
      · have := w3 b w; omega
      · exact ⟨w, a4⟩
    · intro ⟨w, a4⟩
      obtain ⟨-, a1, a2⟩ := (HB1.1.1 b).mp (List.mem_append_right _ w)
      exact ⟨a1, a2, w4 b w, a4⟩
  have hMn : ∀ b ∈ M, b < n := fun b w => ((HB1.1.1 b).mp (List.mem_append_right _ w)).1
  have hTM : ∀ b ∈ M, (T b : Int) < 100000 := fun b w => by have := (ok.2 b (hMn b w)).1; omega
  have hcb : cb n (wp T Hm X h x 100000) = M.length := cb_list (hsM.imp (fun {a b} r z => by rw [z] at r; exact ah_irr r)) (fun b => by
    constructor
    · intro w; exact ⟨hMn b w, (hmem 100000 b (hMn b w)).mpr ⟨w, hTM b w⟩⟩
    · intro w; exact ((hmem 100000 b w.1).mp w.2).1)
  obtain ⟨r1, ho1, e1, f1, g1⟩ := moved_s R hv1 hv2 hv3 hcv2 false
  have R1 : mR n T S W Hm X ma ti sp we ho1 sa := mR_Hm g1 (fun b hb => by
    by_cases w : wp T Hm X h x (ck2 : Int) b = true
    · rw [if_pos w, if_neg (by decide)]; exact (wp_t.mp w).1
    · rw [if_neg w])
  obtain ⟨mw, e2, f2⟩ := many_s R1 hv2 (x := 0) t0
  rw [q_cnt HB2.1] at f2
  obtain ⟨r2, ho2, e3, f3, g3⟩ := moved_s R1 hv1 hv2 hv3 tF false
  have R2 : mR n T S W Hm X ma ti sp we ho2 sa := mR_Hm g3 (fun b hb => by
    by_cases w : wp T Hm X h x 100000 b = true
    · rw [if_pos w, if_neg (by decide)]; exact (wp_t.mp w).1
    · rw [if_neg w])
  obtain ⟨r3, ho3, e4, f4, g4⟩ := moved_s R2 hv1 hv2 hv3 tF true
  rw [hcb] at f3 f4
  have e5 : (mw + r2).toInt = ((Q2.length + M.length : Nat) : Int) := by rw [ta (by omega) (by omega)]; omega
  have e6 : (q2.2 + nI M.length).toInt = ((Q2.length + M.length : Nat) : Int) := by rw [ta (by omega) (by omega)]; omega
  by_cases c1 : ∃ b ∈ M, (T b : Int) < ck2
  · obtain ⟨b, hbM, hbT⟩ := c1
    have hpos : 0 < cb n (wp T Hm X h x (ck2 : Int)) := cb_zero.mpr ⟨b, hMn b hbM, (hmem _ b (hMn b hbM)).mpr ⟨hbM, hbT⟩⟩
    cases M with
    | nil => exact absurd hbM (fun z => (nomatch z))
    | cons d M =>
      have hd : (T d : Int) < ck2 := by
        rcases List.mem_cons.mp hbM with w | w
        · rw [← w]; exact hbT
        · have := ho_in ((List.pairwise_cons.mp hsM).1 b w)
          omega
      have hdn := hMn d List.mem_cons_self
      have hdq := qr_b c91.1 (b := d) (by simp)
      have eg := qr_get c91.1 hp2
      have eg2 := lr_get lt1 hdq hdn
      refine ⟨.inl "java/lang/IllegalStateException", (0, 2, ho1), ?_, ?_, Or.inl ⟨rfl, rfl, R1⟩⟩
      · simp only [tB_r, tB_l, Option.bind_some, if_neg bIt0, if_pos bI_f, thr_t, thr_f, sz_t, f_X4_move, em, if_neg (nleI eM t0 (by simp)), eg, eg2, if_neg (nleI hz2 (lr_t lt1 hdn) hd)]
      · simp only [tB_r, tB_l, Option.bind_some, if_neg bIt0, if_pos bI_f, thr_t, thr_f, sz_t, f_X5_goes, if_neg hneg, if_pos ehi, ecl, e1, if_pos (ltI t0 f1 (by omega)), b_X5_goes_49]
  · have hz0 : cb n (wp T Hm X h x (ck2 : Int)) = 0 := by
      rcases Nat.eq_zero_or_pos (cb n (wp T Hm X h x (ck2 : Int))) with w | w
      · exact w
      · obtain ⟨b, hb, hw⟩ := cb_zero.mp w
        have := (hmem _ b hb).mp hw
        exact absurd ⟨b, this.1, this.2⟩ c1
    rw [hz0] at f1
    have hmv : f_X4_move lt lh lx q (nI o) z2 q2 p2 = b_X4_move_52 lt lh lx q (nI o) q2 p2 (nI M.length) := by
      unfold f_X4_move
      rw [sz_t]
      simp only [Option.bind_some]
      rw [em]
      cases M with
      | nil => rw [if_pos (leI eM t0 (by simp))]
      | cons d M =>
        have hdn := hMn d List.mem_cons_self
        have hdq := qr_b c91.1 (b := d) (by simp)
        rw [if_neg (nleI eM t0 (by simp)), qr_get c91.1 hp2]
        simp only [Option.bind_some]
        rw [lr_get lt1 hdq hdn]
        simp only [Option.bind_some]
        rw [if_pos (leI hz2 (lr_t lt1 hdn) (Int.not_lt.mp (fun w => c1 ⟨d, List.mem_cons_self, w⟩)))]
    by_cases c2 : Q2.length + M.length ≤ 48
    · obtain ⟨lh', lx', q', q2', Q2', Hm', k1, k2, k3, k4, k5, k6, k7, k8⟩ := move_l (nu := nI o) (v2 := p2) (v4 := nI M.length) lt1 hno ho4 (nI_toInt (by omega)) hp2 M FU 0 Hm lh lx q q2 Q2 0 HB1 HB2 c91.1 c92.1 lh1 lx1 c2 t0 (by rw [eM]; simp) (by show _ < 1000000; omega) (by omega)
      have R3 : mR n T S W Hm' X ma ti sp we ho3 sa := mR_Hm g4 (fun b hb => by
        rw [k8 b hb]
        by_cases w : b ∈ M
        · rw [if_pos w, if_pos ((hmem 100000 b hb).mpr ⟨w, hTM b w⟩), if_pos rfl]
        · rw [if_neg w, if_neg (fun y => w ((hmem 100000 b hb).mp y).1)])
      refine ⟨.inr (nI M.length, lh', lx', q2', q'), (r3, 0, ho3), ?_, ?_, Or.inr ⟨lh', lx', q', q2', Q2', Hm', rfl, rfl, eqI2 f4 eM rfl, ⟨ok, fun b hb => ⟨?_, (hb9 b hb).2⟩, lt1, ls1, lw1, k2, k3, R3, rs⟩, ⟨k6, ⟨C1.1, fun b hb => C1.2.1 b (List.mem_append_left _ hb), C1.2.2⟩, hz1, ⟨k4, c91.2.1, c91.2.2⟩, hcv1⟩, ⟨k7, ⟨C2.1, fun b hb => ?_, C2.2.2⟩, hz2, ⟨k5, c92.2.1, c92.2.2⟩, hcv2⟩, fun j hj1 hj2 b hb => ?_⟩⟩
      · rw [hmv]
        simp only [tB_r, tB_l, Option.bind_some, if_neg bIt0, if_pos bI_f, thr_t, thr_f, sz_t, b_X4_move_52, if_pos (leI e6 t48 (by omega)), k1]
      · simp only [tB_r, tB_l, Option.bind_some, if_neg bIt0, if_pos bI_f, thr_t, thr_f, sz_t, f_X5_goes, if_neg hneg, if_pos ehi, ecl, e1, if_neg (nltI t0 f1 (by omega)), e2, e3, if_pos (leI e5 t48 (by omega)), b_X5_goes_49, e4]
      · rw [k8 b hb]
        by_cases w : b ∈ M
        · rw [if_pos w]; exact ho4
        · rw [if_neg w]; exact (hb9 b hb).1
      · obtain ⟨a1, a2, a3⟩ := (k7.1.1 b).mp hb
        rw [k8 b a1] at a2
        by_cases w : b ∈ M
        · have := Int.not_lt.mp (fun y => c1 ⟨b, w, y⟩); omega
        · rw [if_neg w] at a2
          exact C2.2.1 b ((HB2.1.1 b).mpr ⟨a1, a2, a3⟩)
      · rw [k8 b hb]
        by_cases w : b ∈ M
        · rw [if_pos w]
          have := ((HB1.1.1 b).mp (List.mem_append_right _ w)).2.1
          exact ⟨fun y => absurd y.symm hj2, fun y => absurd (y.symm.trans this) hj1⟩
        · rw [if_neg w]
    · refine ⟨.inl "java/lang/IllegalStateException", (0, 2, ho2), ?_, ?_, Or.inl ⟨rfl, rfl, R2⟩⟩
      · rw [hmv]
        simp only [tB_r, tB_l, Option.bind_some, if_neg bIt0, if_pos bI_f, thr_t, thr_f, sz_t, b_X4_move_52, if_neg (nleI e6 t48 (by omega))]
      · simp only [tB_r, tB_l, Option.bind_some, if_neg bIt0, if_pos bI_f, thr_t, thr_f, sz_t, f_X5_goes, if_neg hneg, if_pos ehi, ecl, e1, if_neg (nltI t0 f1 (by omega)), e2, e3, if_neg (nleI e5 t48 (by omega)), b_X5_goes_49]
theorem RL_two {n kst bd h o ck1 ck2 : Nat} {T S W Hm Hm' X K : Nat → Nat} {Q1 Q2 P P2 : List Nat} {L L2 : CL} {q1 q2 lh' lx' : RS} {ho' : Nat → Int32} (G : GD n T S W Hm' X K kst lt ls lw lh' lx' ma st ti sp we ho' sa ca) (hk : kst ≤ bd) (hno : h ≠ o) (old : ∀ j, j < 4 → ∃ ck Q P L, HS n T S W Hm X K j ck Q P L (zf j) (qf j) (uf j) (tf j) (cf j) (cl j)) (H1 : HS n T S W Hm' X K h ck1 Q1 P L (zf h) q1 (uf h) (tf h) (cf h) (cl h)) (H2 : HS n T S W Hm' X K o ck2 Q2 P2 L2 (zf o) q2 (uf o) (tf o) (cf o) (cl o)) (e : ∀ j, j ≠ h → j ≠ o → ∀ b, b < n → (Hm' b = j ↔ Hm b = j)) : RQ bd lt ls lw lh' lx' zf (ups (ups qf h q1) o q2) uf tf cf ma st ti sp we ho' sa ca cl := by
  refine ⟨n, T, S, W, Hm', X, K, kst, G, hk, fun j hj => ?_⟩
  by_cases e1 : j = o
  · subst e1
    rw [ups_e]
    exact ⟨_, _, _, _, H2⟩
  · by_cases e2 : j = h
    · subst e2
      rw [ups_n _ _ e1, ups_e]
      exact ⟨_, _, _, _, H1⟩
    · rw [ups_n _ _ e1, ups_n _ _ e2]
      obtain ⟨ck, Q, P, L, HH, a2, a3, a4, a5⟩ := old j hj
      exact ⟨ck, Q, P, L, HB_frame HH (Nat.le_refl _) (fun b hb => by rw [e j e2 e1 b hb]; exact ⟨fun z => ⟨hb, z⟩, fun z => z.2⟩) (fun b _ _ => ⟨rfl, rfl, rfl, rfl, rfl⟩), a2, a3, a4, a5⟩
theorem st_join (R : RQ bd lt ls lw lh lx zf qf uf tf cf ma st ti sp we ho sa ca cl) (hb : bd ≤ 900000) (hp : p1.toInt = k) (hk : k < 4) {p2 : Int32} {k2 : Nat} (hp2 : p2.toInt = k2) (hk2 : k2 < 4) (hne : k ≠ k2)  : ∃ oc r, f_X4_join lt lh lx (nI k) (zf k) (qf k) (qf k2) p1 p2  = some oc ∧ f_X5_join ma ti ho sa cl p1 p2  = some r ∧ ((∃ e, oc = .inl e ∧ (e, r.2.1) ∈ ([("java/lang/IllegalStateException", 2)] : List (String × Int32)) ∧ RQ (bd + 120) lt ls lw lh lx zf qf uf tf cf ma st ti sp we r.2.2 sa ca cl) ∨ ∃ a, oc = .inr a ∧ r.2.1 = 0 ∧ a.1 = r.1 ∧ RQ (bd + 120) lt ls lw a.2.1 a.2.2.1 zf (ups (ups qf k2 a.2.2.2.2) k a.2.2.2.1) uf tf cf ma st ti sp we r.2.2 sa ca cl) := by
  have R0 := R
  obtain ⟨n, T, S, W, Hm, X, K, kst, G, hks, old⟩ := R
  obtain ⟨ck, Q, P, L, H⟩ := old k hk
  obtain ⟨ckb, Qb, Pb, Lb, Hb⟩ := old k2 hk2
  have eh4 := houseAt_t hp hk
  have eh5 := house_t hp hk
  have eg4 := houseAt_t hp2 hk2
  have eg5 := house_t hp2 hk2
  have hsame : ¬ p1 = p2 := neI hp hp2 (by omega)
  have hne2 : k2 ≠ k := fun z => hne z.symm
  obtain ⟨M, eM⟩ : ∃ M, M = Qb := ⟨_, rfl⟩
  obtain ⟨oc, r, h1, h2, h3⟩ := goes_j (A := []) (M := M) (p2 := 0) G Hb H hne2 hk2 hk hp2 hp (v3 := 0) t0 (by rw [eM]; rfl) t0 (fun b hb => (nomatch hb)) (fun b hb => by omega)
  rcases h3 with h3 | h3
  · obtain ⟨oc1, oc2, oc3⟩ := h3
    subst oc1
    refine ⟨.inl "java/lang/IllegalStateException", (r.1, r.2.1, r.2.2), ?_, ?_, Or.inl ⟨_, rfl, by simp [oc2], n, T, S, W, Hm, X, K, kst, ⟨G.1, G.2.1, G.2.2.1, G.2.2.2.1, G.2.2.2.2.1, G.2.2.2.2.2.1, G.2.2.2.2.2.2.1, oc3, G.2.2.2.2.2.2.2.2⟩, by omega, old⟩⟩
    · simp only [tB_r, tB_l, Option.bind_some, if_neg bIt0, if_pos bI_f, thr_t, thr_f, sz_t, f_X4_join, eh4, eg4, f_X4_refuseIfSame, if_neg hsame, h1]
    · simp only [tB_r, tB_l, Option.bind_some, if_neg bIt0, if_pos bI_f, thr_t, thr_f, sz_t, f_X5_join, eh5, eg5, b_X5_join_20, h2]
  · obtain ⟨lh', lx', q', q2', Q2', Hm', k1, k3, k4, k5, k6, k7, k8⟩ := h3
    subst k1
    refine ⟨.inr (nI M.length, lh', lx', q2', q'), (r.1, r.2.1, r.2.2), ?_, ?_, Or.inr ⟨_, rfl, k3, k4.symm, RL_two k5 (by omega) hne2 old k6 k7 k8⟩⟩
    · simp only [tB_r, tB_l, Option.bind_some, if_neg bIt0, if_pos bI_f, thr_t, thr_f, sz_t, f_X4_join, eh4, eg4, f_X4_refuseIfSame, if_neg hsame, h1]
    · simp only [tB_r, tB_l, Option.bind_some, if_neg bIt0, if_pos bI_f, thr_t, thr_f, sz_t, f_X5_join, eh5, eg5, b_X5_join_20, h2]
theorem st_part (R : RQ bd lt ls lw lh lx zf qf uf tf cf ma st ti sp we ho sa ca cl) (hb : bd ≤ 900000) (hp : p1.toInt = k) (hk : k < 4) {p2 : Int32} {k2 : Nat} (hp2 : p2.toInt = k2) (hk2 : k2 < 4) (hne : k ≠ k2) (p3 : Int32) : ∃ oc r, f_X4_part lt lh lx (qf k) (nI k2) (zf k2) (qf k2) p1 p2 p3 = some oc ∧ f_X5_part ma ti ho sa cl p1 p2 p3 = some r ∧ ((∃ e, oc = .inl e ∧ (e, r.2.1) ∈ ([("java/lang/IllegalStateException", 2)] : List (String × Int32)) ∧ RQ (bd + 120) lt ls lw lh lx zf qf uf tf cf ma st ti sp we r.2.2 sa ca cl) ∨ ∃ a, oc = .inr a ∧ r.2.1 = 0 ∧ a.1 = r.1 ∧ RQ (bd + 120) lt ls lw a.2.1 a.2.2.1 zf (ups (ups qf k a.2.2.2.2) k2 a.2.2.2.1) uf tf cf ma st ti sp we r.2.2 sa ca cl) := by
  have R0 := R
  obtain ⟨n, T, S, W, Hm, X, K, kst, G, hks, old⟩ := R
  obtain ⟨ck, Q, P, L, H⟩ := old k hk
  obtain ⟨ckb, Qb, Pb, Lb, Hb⟩ := old k2 hk2
  have eh4 := houseAt_t hp hk
  have eh5 := house_t hp hk
  have eg4 := houseAt_t hp2 hk2
  have eg5 := house_t hp2 hk2
  have hsame : ¬ p1 = p2 := neI hp hp2 (by omega)
  obtain ⟨A, M, r1, eQ, w1, w2, w3, w4⟩ := wait_s (v2 := p3) G.2.2.1 H.2.2.2.1.1 (fun b hb => ((H.1.1.1 b).mp hb).1) H.1.1.2 rfl
  obtain ⟨oc, r, h1, h2, h3⟩ := goes_j (p2 := r1) G H Hb hne hk hk2 hp hp2 (v3 := p3) rfl eQ w2 w3 w4
  rcases h3 with h3 | h3
  · obtain ⟨oc1, oc2, oc3⟩ := h3
    subst oc1
    refine ⟨.inl "java/lang/IllegalStateException", (r.1, r.2.1, r.2.2), ?_, ?_, Or.inl ⟨_, rfl, by simp [oc2], n, T, S, W, Hm, X, K, kst, ⟨G.1, G.2.1, G.2.2.1, G.2.2.2.1, G.2.2.2.2.1, G.2.2.2.2.2.1, G.2.2.2.2.2.2.1, oc3, G.2.2.2.2.2.2.2.2⟩, by omega, old⟩⟩
    · simp only [tB_r, tB_l, Option.bind_some, if_neg bIt0, if_pos bI_f, thr_t, thr_f, sz_t, f_X4_part, eh4, eg4, f_X4_refuseIfSame, if_neg hsame, w1, h1]
    · simp only [tB_r, tB_l, Option.bind_some, if_neg bIt0, if_pos bI_f, thr_t, thr_f, sz_t, f_X5_part, eh5, eg5, b_X5_part_20, h2]
  · obtain ⟨lh', lx', q', q2', Q2', Hm', k1, k3, k4, k5, k6, k7, k8⟩ := h3
    subst k1
    refine ⟨.inr (nI M.length, lh', lx', q2', q'), (r.1, r.2.1, r.2.2), ?_, ?_, Or.inr ⟨_, rfl, k3, k4.symm, RL_two k5 (by omega) hne old k6 k7 k8⟩⟩
    · simp only [tB_r, tB_l, Option.bind_some, if_neg bIt0, if_pos bI_f, thr_t, thr_f, sz_t, f_X4_part, eh4, eg4, f_X4_refuseIfSame, if_neg hsame, w1, h1]
    · simp only [tB_r, tB_l, Option.bind_some, if_neg bIt0, if_pos bI_f, thr_t, thr_f, sz_t, f_X5_part, eh5, eg5, b_X5_part_20, h2]
end OPS2
