/-! the calls that change something: both sides answer alike -/
theorem tB_r {α β : Type} (a : α) (f : α → Option (String ⊕ β)) : tB (some (.inr a)) f = f a := rfl
theorem tB_l {α β : Type} (e : String) (f : α → Option (String ⊕ β)) : tB (some (.inl e)) f = some (.inl e) := rfl
theorem houseAt_t {p : Int32} {k : Nat} (hp : p.toInt = k) (hk : k < 4) : f_X4_houseAt p = some (.inr k) := by
  unfold f_X4_houseAt
  rw [if_neg (nltI hp t0 (by omega)), if_neg (nleI t4 hp (by omega)), clampN hp]
theorem houseAt_f {p : Int32} (hp : p.toInt < 0 ∨ 4 ≤ p.toInt) : f_X4_houseAt p = some (.inl "java/lang/IndexOutOfBoundsException") := by
  unfold f_X4_houseAt
  by_cases c : p < 0
  · rw [if_pos c]
  · rw [if_neg c, if_pos (by rw [Int32.lt_iff_toInt_lt, t0] at c; rw [Int32.le_iff_toInt_le, t4]; omega)]
section INS
variable {p a b : Int32} {x y : Int}
theorem in4_t (ha : a.toInt = x) (hb : b.toInt = y) (c : x ≤ p.toInt ∧ p.toInt ≤ y) : f_X4_isIn p a b = some true := by
  unfold f_X4_isIn
  rw [if_neg (nltI rfl ha (by omega)), if_neg (nltI hb rfl (by omega))]
theorem in4_f (ha : a.toInt = x) (hb : b.toInt = y) (c : ¬ (x ≤ p.toInt ∧ p.toInt ≤ y)) : f_X4_isIn p a b = some false := by
  unfold f_X4_isIn
  by_cases c1 : p.toInt < x
  · rw [if_pos (ltI rfl ha c1)]
  · rw [if_neg (nltI rfl ha (by omega)), if_pos (ltI hb rfl (by omega))]
theorem in5_t (ha : a.toInt = x) (hb : b.toInt = y) (c : x ≤ p.toInt ∧ p.toInt ≤ y) : f_X5_isIn p a b = some true := by
  unfold f_X5_isIn
  rw [if_neg (nltI rfl ha (by omega)), if_neg (nltI hb rfl (by omega))]
theorem in5_f (ha : a.toInt = x) (hb : b.toInt = y) (c : ¬ (x ≤ p.toInt ∧ p.toInt ≤ y)) : f_X5_isIn p a b = some false := by
  unfold f_X5_isIn
  by_cases c1 : p.toInt < x
  · rw [if_pos (ltI rfl ha c1)]
  · rw [if_neg (nltI rfl ha (by omega)), if_pos (ltI hb rfl (by omega))]
end INS
theorem ups_s {α : Type} (f : Nat → α) (k : Nat) : ups f k (f k) = f := by
  funext j
  by_cases e : j = k
  · rw [e, ups_e]
  · rw [ups_n _ _ e]
theorem q_cnt {n h : Nat} {T Hm X : Nat → Nat} {Q : List Nat} (hQ : qOf n T Hm X h Q) : cnt n Hm X h 0 = Q.length :=
  cb_list (p := fun b => decide (Hm b = h ∧ X b = 0)) (hQ.2.imp (fun {a b} r z => by rw [z] at r; exact ah_irr r)) (fun b => by rw [hQ.1 b, decide_eq_true_iff])
theorem p_cnt {n h : Nat} {K Hm X : Nat → Nat} {P : List Nat} (hP : pOf n K Hm X h P) : cnt n Hm X h 1 = P.length :=
  cb_list (p := fun b => decide (Hm b = h ∧ X b = 1)) (hP.2.imp (fun {a b} r z => by rw [z] at r; omega)) (fun b => by rw [hP.1 b, decide_eq_true_iff])
theorem szl_t (t : RS) : f_X2_size t = some t.2 := rfl
theorem mR_setT {n x b : Nat} {T S W Hm X : Nat → Nat} {ma w : Int32} {ti sp we ho sa : Nat → Int32} (R : mR n T S W Hm X ma ti sp we ho sa) (hw : w.toInt = x) : mR n (pt T b x) S W Hm X ma (upd ti b w) sp we ho sa := by
  refine ⟨R.1, R.2.1, fun c hc => ?_⟩
  obtain ⟨e1, e2⟩ := R.2.2 c hc
  by_cases z : c = b
  · rw [z, upd_e, pt_e]; rw [z] at e2; exact ⟨hw, e2⟩
  · rw [upd_n _ _ z, pt_n z]; exact ⟨e1, e2⟩
section OPS
variable {bd k : Nat} {lt ls lw lh lx : RS} {zf : Nat → Int32} {qf uf tf cf : Nat → RS} {ma st : Int32} {ti sp we ho sa ca cl : Nat → Int32} {p1 : Int32}
theorem st_book (R : RQ bd lt ls lw lh lx zf qf uf tf cf ma st ti sp we ho sa ca cl) (hb : bd ≤ 900000) (hp : p1.toInt = k) (hk : k < 4) (p2 p3 p4 : Int32) : ∃ oc r, f_X4_book lt ls lw lh lx (nI k) (zf k) (qf k) p1 p2 p3 p4 = some oc ∧ f_X5_book ma ti sp we ho sa cl p1 p2 p3 p4 = some r ∧ ((∃ e, oc = .inl e ∧ (e, r.2.1) ∈ ([("java/lang/IllegalArgumentException", 2), ("java/lang/IllegalStateException", 3)] : List (String × Int32)) ∧ RQ (bd + 120) lt ls lw lh lx zf qf uf tf cf r.2.2.1 st r.2.2.2.1 r.2.2.2.2.1 r.2.2.2.2.2.1 r.2.2.2.2.2.2.1 r.2.2.2.2.2.2.2 ca cl) ∨ ∃ a, oc = .inr a ∧ r.2.1 = 0 ∧ a.1 = r.1 ∧ RQ (bd + 120) a.2.1 a.2.2.1 a.2.2.2.1 a.2.2.2.2.1 a.2.2.2.2.2.1 (ups zf k (zf k)) (ups qf k a.2.2.2.2.2.2) (ups uf k (uf k)) (ups tf k (tf k)) (ups cf k (cf k)) r.2.2.1 st r.2.2.2.1 r.2.2.2.2.1 r.2.2.2.2.2.1 r.2.2.2.2.2.2.1 r.2.2.2.2.2.2.2 ca cl) := by
  have R0 := R
  obtain ⟨n, T, S, W, Hm, X, K, kst, G, hks, old⟩ := R
  obtain ⟨ck, Q, P, L, H, C, hz, c9, hcv⟩ := old k hk
  have hnk : (nI k).toInt = k := nI_toInt (by omega)
  have hql := qr_len c9.1
  have hQ48 := H.2.1
  have Rm := G.2.2.2.2.2.2.2.1
  have h120 := Rm.1
  have eh4 := houseAt_t hp hk
  have eh5 := house_t hp hk
  have ehi := inB_t hp hk
  have ecl := clampN hp
  obtain ⟨mw, em, emt⟩ := many_s Rm hp (x := 0) t0
  rw [q_cnt H.1] at emt
  have hll := lr_len G.2.2.1
  by_cases c1 : 0 ≤ p2.toInt ∧ p2.toInt ≤ 9999
  · by_cases c2 : 0 ≤ p3.toInt ∧ p3.toInt ≤ 500
    · by_cases c3 : 1 ≤ p4.toInt ∧ p4.toInt ≤ 9
      · have i1 := in4_t t0 t9999 c1
        have i2 := in4_t t0 t500 c2
        have i3 := in4_t t1 t9 c3
        have j1 := in5_t t0 t9999 c1
        have j2 := in5_t t0 t500 c2
        have j3 := in5_t t1 t9 c3
        have e5 : ((qf k).2 + 1).toInt = ((Q.length + 1 : Nat) : Int) := inc_t hql (by omega)
        have e6 : (lt.2 + 1).toInt = ((n + 1 : Nat) : Int) := inc_t hll (by omega)
        by_cases c4 : (ck : Int) ≤ p2.toInt
        · by_cases c5 : Q.length < 48
          · by_cases c6 : n < 120
            · obtain ⟨g, lt', ls', lw', lh', lx', q', Q', g', ma', ti', sp', we', ho', sa', e1, e2, e3, e4, G1, H1, hq1, hl1⟩ := mk_j G H c9.1 hnk hk hp c5 c6 (x := p2.toInt.toNat) (y := p3.toInt.toNat) (w := p4.toInt.toNat) (p2 := p2) (p2' := p2) (p3 := p3) (p4 := p4) (by omega) (by omega) (by omega) (by omega) (by omega) (by omega) (by omega)
              refine ⟨.inr (g, lt', ls', lw', lh', lx', q'), (g', 0, ma', ti', sp', we', ho', sa'), ?_, ?_, Or.inr ⟨_, rfl, rfl, eqI2 e3 e4 rfl, ?_⟩⟩
              · simp only [tB_r, tB_l, Option.bind_some, if_neg bIt0, if_pos bI_f, thr_t, thr_f, sz_t, f_X4_book, eh4, f_X4_isTime, f_X4_isSpan, f_X4_isWeight, i1, i2, i3, f_X4_refuseIfNoRoom, if_pos (leI hz rfl c4), if_pos (leI e5 t48 (by omega)), szl_t, if_pos (leI e6 t120 (by omega)), e1]
              · simp only [tB_r, tB_l, Option.bind_some, if_neg bIt0, if_pos bI_f, thr_t, thr_f, sz_t, f_X5_book, eh5, b_X5_book_13, b_X5_book_59, b_X5_book_104, j1, j2, j3, if_pos ehi, ecl, if_neg (nltI rfl hcv c4), em, if_neg (neI emt t48 (by omega)), if_neg (neI Rm.2.1 t120 (by omega)), e2]
              · exact RL_one G1 (by omega) FR_pt old ⟨H1, ⟨C.1, fun b hb => by
                  obtain ⟨z1, z2, z3⟩ := (H1.1.1 b).mp hb
                  rcases lt_so z1 with z | z
                  · have hbn : b ≠ n := by omega
                    rw [pt_n hbn] at z2 z3 ⊢
                    exact C.2.1 b ((H.1.1 b).mpr ⟨z, z2, z3⟩)
                  · rw [z, pt_e]; omega, fun b hb => by
                  have := ((H.2.2.1.1 b).mp hb).1
                  rw [pt_n (by omega)]; exact C.2.2 b hb⟩, hz, ⟨hq1, c9.2.1, c9.2.2⟩, hcv⟩ (fun j _ => rfl)
            · refine ⟨.inl "java/lang/IllegalStateException", (0, 3, ma, ti, sp, we, ho, sa), ?_, ?_, Or.inl ⟨_, rfl, by simp, RL_mono R0 (by omega)⟩⟩
              · simp only [tB_r, tB_l, Option.bind_some, if_neg bIt0, if_pos bI_f, thr_t, thr_f, sz_t, f_X4_book, eh4, f_X4_isTime, f_X4_isSpan, f_X4_isWeight, i1, i2, i3, f_X4_refuseIfNoRoom, if_pos (leI hz rfl c4), if_pos (leI e5 t48 (by omega)), szl_t, if_neg (nleI e6 t120 (by omega))]
              · simp only [tB_r, tB_l, Option.bind_some, if_neg bIt0, if_pos bI_f, thr_t, thr_f, sz_t, f_X5_book, eh5, b_X5_book_13, b_X5_book_59, b_X5_book_104, j1, j2, j3, if_pos ehi, ecl, if_neg (nltI rfl hcv c4), em, if_neg (neI emt t48 (by omega)), if_pos (eqI2 Rm.2.1 t120 (by omega))]
          · refine ⟨.inl "java/lang/IllegalStateException", (0, 3, ma, ti, sp, we, ho, sa), ?_, ?_, Or.inl ⟨_, rfl, by simp, RL_mono R0 (by omega)⟩⟩
            · simp only [tB_r, tB_l, Option.bind_some, if_neg bIt0, if_pos bI_f, thr_t, thr_f, sz_t, f_X4_book, eh4, f_X4_isTime, f_X4_isSpan, f_X4_isWeight, i1, i2, i3, f_X4_refuseIfNoRoom, if_pos (leI hz rfl c4), if_neg (nleI e5 t48 (by omega))]
            · simp only [tB_r, tB_l, Option.bind_some, if_neg bIt0, if_pos bI_f, thr_t, thr_f, sz_t, f_X5_book, eh5, b_X5_book_13, b_X5_book_59, b_X5_book_104, j1, j2, j3, if_pos ehi, ecl, if_neg (nltI rfl hcv c4), em, if_pos (eqI2 emt t48 (by omega))]
        · refine ⟨.inl "java/lang/IllegalStateException", (0, 3, ma, ti, sp, we, ho, sa), ?_, ?_, Or.inl ⟨_, rfl, by simp, RL_mono R0 (by omega)⟩⟩
          · simp only [tB_r, tB_l, Option.bind_some, if_neg bIt0, if_pos bI_f, thr_t, thr_f, sz_t, f_X4_book, eh4, f_X4_isTime, f_X4_isSpan, f_X4_isWeight, i1, i2, i3, f_X4_refuseIfNoRoom, if_neg (nleI hz rfl (Int.not_le.mp c4))]
          · simp only [tB_r, tB_l, Option.bind_some, if_neg bIt0, if_pos bI_f, thr_t, thr_f, sz_t, f_X5_book, eh5, b_X5_book_13, b_X5_book_59, b_X5_book_104, j1, j2, j3, if_pos ehi, ecl, if_pos (ltI rfl hcv (Int.not_le.mp c4))]
      · refine ⟨.inl "java/lang/IllegalArgumentException", (0, 2, ma, ti, sp, we, ho, sa), ?_, ?_, Or.inl ⟨_, rfl, by simp, RL_mono R0 (by omega)⟩⟩
        · simp only [tB_r, tB_l, Option.bind_some, if_neg bIt0, if_pos bI_f, thr_t, thr_f, sz_t, f_X4_book, eh4, f_X4_isTime, f_X4_isSpan, f_X4_isWeight, in4_t t0 t9999 c1, in4_t t0 t500 c2, in4_f t1 t9 c3]
        · simp only [tB_r, tB_l, Option.bind_some, if_neg bIt0, if_pos bI_f, thr_t, thr_f, sz_t, f_X5_book, eh5, b_X5_book_13, b_X5_book_59, b_X5_book_104, in5_t t0 t9999 c1, in5_t t0 t500 c2, in5_f t1 t9 c3]
    · refine ⟨.inl "java/lang/IllegalArgumentException", (0, 2, ma, ti, sp, we, ho, sa), ?_, ?_, Or.inl ⟨_, rfl, by simp, RL_mono R0 (by omega)⟩⟩
      · simp only [tB_r, tB_l, Option.bind_some, if_neg bIt0, if_pos bI_f, thr_t, thr_f, sz_t, f_X4_book, eh4, f_X4_isTime, f_X4_isSpan, f_X4_isWeight, in4_t t0 t9999 c1, in4_f t0 t500 c2]
      · simp only [tB_r, tB_l, Option.bind_some, if_neg bIt0, if_pos bI_f, thr_t, thr_f, sz_t, f_X5_book, eh5, b_X5_book_13, b_X5_book_59, b_X5_book_104, in5_t t0 t9999 c1, in5_f t0 t500 c2]
  · refine ⟨.inl "java/lang/IllegalArgumentException", (0, 2, ma, ti, sp, we, ho, sa), ?_, ?_, Or.inl ⟨_, rfl, by simp, RL_mono R0 (by omega)⟩⟩
    · simp only [tB_r, tB_l, Option.bind_some, if_neg bIt0, if_pos bI_f, thr_t, thr_f, sz_t, f_X4_book, eh4, f_X4_isTime, f_X4_isSpan, f_X4_isWeight, in4_f t0 t9999 c1]
    · simp only [tB_r, tB_l, Option.bind_some, if_neg bIt0, if_pos bI_f, thr_t, thr_f, sz_t, f_X5_book, eh5, b_X5_book_13, b_X5_book_59, b_X5_book_104, in5_f t0 t9999 c1]
theorem st_callOff (R : RQ bd lt ls lw lh lx zf qf uf tf cf ma st ti sp we ho sa ca cl) (hb : bd ≤ 900000) (hp : p1.toInt = k) (hk : k < 4) (p2 : Int32) : ∃ oc r, f_X4_callOff lx (qf k) p1 p2 = some oc ∧ f_X5_callOff ma ho sa p1 p2 = some r ∧ ((∃ e, oc = .inl e ∧ (e, r.2.1) ∈ ([] : List (String × Int32)) ∧ RQ (bd + 120) lt ls lw lh lx zf qf uf tf cf ma st ti sp we ho r.2.2 ca cl) ∨ ∃ a, oc = .inr a ∧ r.2.1 = 0 ∧ a.1 = r.1 ∧ RQ (bd + 120) lt ls lw lh a.2.1 (ups zf k (zf k)) (ups qf k a.2.2) (ups uf k (uf k)) (ups tf k (tf k)) (ups cf k (cf k)) ma st ti sp we ho r.2.2 ca cl) := by
  have R0 := R
  obtain ⟨n, T, S, W, Hm, X, K, kst, G, hks, old⟩ := R
  obtain ⟨ck, Q, P, L, H, C, hz, c9, hcv⟩ := old k hk
  have hnk : (nI k).toInt = k := nI_toInt (by omega)
  have hql := qr_len c9.1
  have hQ48 := H.2.1
  have Rm := G.2.2.2.2.2.2.2.1
  have h120 := Rm.1
  have eh4 := houseAt_t hp hk
  have eh5 := house_t hp hk
  have ehi := inB_t hp hk
  have ecl := clampN hp
  rcases qr_placeOf c9.1 p2 with ⟨A, b, B, q9, eQ, hb2, e1, e2⟩ | ⟨e1, e2⟩
  · subst eQ
    obtain ⟨b1, b2, b3⟩ := (H.1.1 b).mp (by simp)
    obtain ⟨lx', q', f1, f2, f3, f4⟩ := off_1 e2 H c9.1 G.2.2.2.2.2.2.1
    have ew : f_X5_isWaiting ma ho sa p1 p2 = some true := by rw [isWaiting_k Rm hp hb2 b1, decide_eq_true ⟨b2, b3⟩]
    have R1 := mR_setX (X' := fun d => if d = b then 2 else X d) Rm hb2 (x := 2) t2 (fun d _ => rfl)
    refine ⟨.inr (true, lx', q'), (true, 0, upd sa p2.toNatClampNeg 2), ?_, ?_, Or.inr ⟨_, rfl, rfl, rfl, ?_⟩⟩
    · simp only [tB_r, tB_l, Option.bind_some, if_neg bIt0, if_pos bI_f, thr_t, thr_f, sz_t, f_X4_callOff, eh4, e1, if_pos (leI t0 e2 (by omega)), f1]
    · simp only [tB_r, tB_l, Option.bind_some, if_neg bIt0, if_pos bI_f, thr_t, thr_f, sz_t, f_X5_callOff, eh5, b_X5_callOff_13, ew, if_pos (inB_t hb2 (by omega : b < 120))]
    · refine RL_one (T := T) (S := S) (W := W) (Hm := Hm) (X := X) (K := K) (n := n) (X' := fun d => if d = b then 2 else X d) ⟨G.1, fun d hd => ?_, G.2.2.1, G.2.2.2.1, G.2.2.2.2.1, G.2.2.2.2.2.1, f2, R1, fun d hd hx => ?_, G.2.2.2.2.2.2.2.2.2⟩ (by omega) (FR_in (fun d _ => Or.inl rfl) (fun d hd hh => ⟨rfl, rfl, rfl, if_neg (fun z => hh (by rw [z]; exact b2)), rfl⟩)) old ⟨f4, ⟨C.1, fun d hd => C.2.1 d ((mem_out H.1.2 d).mp hd).1, C.2.2⟩, hz, ⟨f3, c9.2.1, c9.2.2⟩, hcv⟩ (fun j _ => rfl)
      · refine ⟨(G.2.1 d hd).1, ?_⟩
        show (if d = b then 2 else X d) ≤ 2
        by_cases z : d = b
        · rw [if_pos z]; omega
        · rw [if_neg z]; exact (G.2.1 d hd).2
      · have hx : (if d = b then 2 else X d) = 1 := hx
        by_cases z : d = b
        · rw [if_pos z] at hx; omega
        · rw [if_neg z] at hx; exact G.2.2.2.2.2.2.2.2.1 d hd hx
  · have ew : f_X5_isWaiting ma ho sa p1 p2 = some false := by
      rw [isWaiting_s Rm hp p2, decide_eq_false (fun ⟨z1, z2, z3, z4⟩ => e2 p2.toInt.toNat ((H.1.1 _).mpr ⟨by omega, z3, z4⟩) (by omega))]
    refine ⟨.inr (false, lx, qf k), (false, 0, sa), ?_, ?_, Or.inr ⟨_, rfl, rfl, rfl, ?_⟩⟩
    · simp only [tB_r, tB_l, Option.bind_some, if_neg bIt0, if_pos bI_f, thr_t, thr_f, sz_t, f_X4_callOff, eh4, e1, if_neg (nleI t0 m1 (by omega))]
    · simp only [tB_r, tB_l, Option.bind_some, if_neg bIt0, if_pos bI_f, thr_t, thr_f, sz_t, f_X5_callOff, eh5, b_X5_callOff_13, ew]
    · simp only [ups_s]
      exact RL_mono R0 (by omega)
theorem st_callOffAll (R : RQ bd lt ls lw lh lx zf qf uf tf cf ma st ti sp we ho sa ca cl) (hb : bd ≤ 900000) (hp : p1.toInt = k) (hk : k < 4) (p2 p3 : Int32) : ∃ oc r, f_X4_callOffAll lt lx (qf k) p1 p2 p3 = some oc ∧ f_X5_callOffAll ma ti ho sa p1 p2 p3 = some r ∧ ((∃ e, oc = .inl e ∧ (e, r.2.1) ∈ ([("java/lang/IllegalArgumentException", 2)] : List (String × Int32)) ∧ RQ (bd + 120) lt ls lw lh lx zf qf uf tf cf ma st ti sp we ho r.2.2 ca cl) ∨ ∃ a, oc = .inr a ∧ r.2.1 = 0 ∧ a.1 = r.1 ∧ RQ (bd + 120) lt ls lw lh a.2.1 (ups zf k (zf k)) (ups qf k a.2.2) (ups uf k (uf k)) (ups tf k (tf k)) (ups cf k (cf k)) ma st ti sp we ho r.2.2 ca cl) := by
  have R0 := R
  obtain ⟨n, T, S, W, Hm, X, K, kst, G, hks, old⟩ := R
  obtain ⟨ck, Q, P, L, H, C, hz, c9, hcv⟩ := old k hk
  have hnk : (nI k).toInt = k := nI_toInt (by omega)
  have hql := qr_len c9.1
  have hQ48 := H.2.1
  have Rm := G.2.2.2.2.2.2.2.1
  have h120 := Rm.1
  have eh4 := houseAt_t hp hk
  have eh5 := house_t hp hk
  have ehi := inB_t hp hk
  have ecl := clampN hp
  by_cases c1 : p2.toInt ≤ p3.toInt
  · have hQn : ∀ b ∈ Q, b < n := fun b hb => ((H.1.1 b).mp hb).1
    obtain ⟨A, B1, r1, eQ, w1, w2, w3, w4⟩ := wait_s G.2.2.1 c9.1 hQn H.1.2 (v2 := p2) rfl
    obtain ⟨A1, B, r2, eQ2, w5, w6, w7, w8⟩ := wait_s G.2.2.1 c9.1 hQn H.1.2 (v2 := p3) rfl
    have hM : ∃ M, A1 = A ++ M ∧ B1 = M ++ B := by
      rcases List.append_eq_append_iff.mp (eQ.symm.trans eQ2) with ⟨M, m1, m2⟩ | ⟨M, m1, m2⟩
      · exact ⟨M, m1, m2⟩
      · cases M with
        | nil => exact ⟨[], by rw [m1]; simp, by rw [m2]; rfl⟩
        | cons b M =>
          have h1 := w3 b (by rw [m1]; simp)
          have h2 := w8 b (by rw [m2]; simp)
          omega
    obtain ⟨M, eA, eB⟩ := hM
    have eQ3 : Q = A ++ (M ++ B) := by rw [eQ, eB]
    have hlen : Q.length = A.length + (M.length + B.length) := by rw [eQ3]; simp
    have e6 : (r2 - r1).toInt = ((0 + M.length : Nat) : Int) := by
      have : A1.length = A.length + M.length := by rw [eA]; simp
      rw [tb (by omega) (by omega)]
      omega
    have H' := H
    have cq := c9.1
    rw [eQ3] at H' cq
    obtain ⟨lx', q', X', f1, f2, f3, f4, f5⟩ := off_l w2 M FU 0 X lx (qf k) 0 H' cq G.2.2.2.2.2.2.1 t0 e6 (by show _ < 1000000; omega) (by omega)
    obtain ⟨r, sa', g1, g2, g3⟩ := callOffAll_l Rm hp (v2 := p2) (v3 := p3) rfl rfl 0
    have hmem : ∀ b, b < n → (wp T Hm X k p2.toInt p3.toInt b = true ↔ b ∈ M) := by
      intro b hb
      rw [wp_t]
      constructor
      · intro ⟨z1, z2, z3, z4⟩
        have hbQ := (H.1.1 b).mpr ⟨hb, z1, z2⟩
        rw [eQ3] at hbQ
        rcases List.mem_append.mp hbQ with z | z
        · have := w3 b z; omega
        · rcases List.mem_append.mp z with z | z
          · exact z
          · have := w8 b z; omega
      · intro z
        have hbQ : b ∈ Q := by rw [eQ3]; simp [z]
        obtain ⟨-, z1, z2⟩ := (H.1.1 b).mp hbQ
        exact ⟨z1, z2, w4 b (by rw [eB]; simp [z]), w7 b (by rw [eA]; simp [z])⟩
    have hsM : M.Pairwise (ah T) := (pw_app (pw_app H'.1.2).2.1).1
    have hcb : cb n (wp T Hm X k p2.toInt p3.toInt) = M.length := cb_list (hsM.imp (fun {a b} r z => by rw [z] at r; exact ah_irr r)) (fun b => by
      constructor
      · intro z
        have hbn : b < n := hQn b (by rw [eQ3]; simp [z])
        exact ⟨hbn, (hmem b hbn).mpr z⟩
      · intro z; exact (hmem b z.1).mp z.2)
    have R1 : mR n T S W Hm X' ma ti sp we ho sa' := mR_X g3 (fun b hb => by
      rw [f5 b hb]
      by_cases z : b ∈ M
      · rw [if_pos z, if_pos ((hmem b hb).mpr z)]
      · rw [if_neg z, if_neg (fun w => z ((hmem b hb).mp w))])
    have hX2 : ∀ b, b < n → b ∉ M → X' b = X b := fun b hb z => by rw [f5 b hb, if_neg z]
    refine ⟨.inr (r2 - r1, lx', q'), (r, 0, sa'), ?_, ?_, Or.inr ⟨_, rfl, rfl, eqI2 e6 g2 (by rw [hcb]; simp), ?_⟩⟩
    · simp only [tB_r, tB_l, Option.bind_some, if_neg bIt0, if_pos bI_f, thr_t, thr_f, sz_t, f_X4_callOffAll, eh4, f_X4_refuseIfTurned, if_pos (leI rfl rfl c1), w1, w5, f1]
    · simp only [tB_r, tB_l, Option.bind_some, if_neg bIt0, if_pos bI_f, thr_t, thr_f, sz_t, f_X5_callOffAll, eh5, b_X5_callOffAll_13, b_X5_callOffAll_31, if_pos (leI rfl rfl c1), g1]
    · refine RL_one (T := T) (S := S) (W := W) (Hm := Hm) (X := X) (K := K) (n := n) (X' := X') ⟨G.1, fun d hd => ⟨(G.2.1 d hd).1, ?_⟩, G.2.2.1, G.2.2.2.1, G.2.2.2.2.1, G.2.2.2.2.2.1, f2, R1, fun d hd hx => ?_, G.2.2.2.2.2.2.2.2.2⟩ (by omega) (FR_in (fun d _ => Or.inl rfl) (fun d hd hh => ⟨rfl, rfl, rfl, hX2 d hd (fun z => hh (wp_t.mp ((hmem d hd).mpr z)).1), rfl⟩)) old ⟨f4, ⟨C.1, fun d hd => C.2.1 d (by
          rw [eQ3]
          rcases List.mem_append.mp hd with z | z
          · simp [z]
          · simp [z]), C.2.2⟩, hz, ⟨f3, c9.2.1, c9.2.2⟩, hcv⟩ (fun j _ => rfl)
      · rw [f5 d hd]
        by_cases z : d ∈ M
        · rw [if_pos z]; omega
        · rw [if_neg z]; exact (G.2.1 d hd).2
      · rw [f5 d hd] at hx
        by_cases z : d ∈ M
        · rw [if_pos z] at hx; omega
        · rw [if_neg z] at hx; exact G.2.2.2.2.2.2.2.2.1 d hd hx
  · refine ⟨.inl "java/lang/IllegalArgumentException", (0, 2, sa), ?_, ?_, Or.inl ⟨_, rfl, by simp, RL_mono R0 (by omega)⟩⟩
    · simp only [tB_r, tB_l, Option.bind_some, if_neg bIt0, if_pos bI_f, thr_t, thr_f, sz_t, f_X4_callOffAll, eh4, f_X4_refuseIfTurned, if_neg (nleI rfl rfl (Int.not_le.mp c1))]
    · simp only [tB_r, tB_l, Option.bind_some, if_neg bIt0, if_pos bI_f, thr_t, thr_f, sz_t, f_X5_callOffAll, eh5, b_X5_callOffAll_13, b_X5_callOffAll_31, if_neg (nleI rfl rfl (Int.not_le.mp c1))]
theorem st_put (R : RQ bd lt ls lw lh lx zf qf uf tf cf ma st ti sp we ho sa ca cl) (hb : bd ≤ 900000) (hp : p1.toInt = k) (hk : k < 4) (p2 p3 : Int32) : ∃ oc r, f_X4_put lt lh lx (nI k) (zf k) (qf k) p1 p2 p3 = some oc ∧ f_X5_put ma ti ho sa cl p1 p2 p3 = some r ∧ ((∃ e, oc = .inl e ∧ (e, r.2.1) ∈ ([("java/lang/IllegalArgumentException", 2), ("java/util/NoSuchElementException", 3), ("java/lang/IllegalStateException", 4)] : List (String × Int32)) ∧ RQ (bd + 120) lt ls lw lh lx zf qf uf tf cf ma st r.2.2 sp we ho sa ca cl) ∨ ∃ a, oc = .inr a ∧ r.2.1 = 0 ∧ a.1 = r.1 ∧ RQ (bd + 120) a.2.1 ls lw a.2.2.1 a.2.2.2.1 (ups zf k (zf k)) (ups qf k a.2.2.2.2) (ups uf k (uf k)) (ups tf k (tf k)) (ups cf k (cf k)) ma st r.2.2 sp we ho sa ca cl) := by
  have R0 := R
  obtain ⟨n, T, S, W, Hm, X, K, kst, G, hks, old⟩ := R
  obtain ⟨ck, Q, P, L, H, C, hz, c9, hcv⟩ := old k hk
  have hnk : (nI k).toInt = k := nI_toInt (by omega)
  have hql := qr_len c9.1
  have hQ48 := H.2.1
  have Rm := G.2.2.2.2.2.2.2.1
  have h120 := Rm.1
  have eh4 := houseAt_t hp hk
  have eh5 := house_t hp hk
  have ehi := inB_t hp hk
  have ecl := clampN hp
  by_cases c1 : 0 ≤ p3.toInt ∧ p3.toInt ≤ 9999
  · have i1 := in4_t t0 t9999 c1
    have j1 := in5_t t0 t9999 c1
    rcases qr_placeOf c9.1 p2 with ⟨A, b, B, q9, eQ, hb2, e1, e2⟩ | ⟨e1, e2⟩
    · obtain ⟨b1, b2, b3⟩ := (H.1.1 b).mp (by rw [eQ]; simp)
      have ew : f_X5_isWaiting ma ho sa p1 p2 = some true := by rw [isWaiting_k Rm hp hb2 b1, decide_eq_true ⟨b2, b3⟩]
      by_cases c2 : (ck : Int) ≤ p3.toInt
      · subst eQ
        have h3 : p3.toInt = ((p3.toInt.toNat : Nat) : Int) := by omega
        have hx9 : p3.toInt.toNat ≤ 9999 := by omega
        generalize p3.toInt.toNat = x at h3 hx9
        obtain ⟨q1, f1, f2⟩ := qr_remove c9.1 e2
        obtain ⟨lt1, f3, f4⟩ := lr_set (g := pt T b x) G.2.2.1 hb2 b1 h3 (by omega) (fun c _ => rfl)
        have H0 : HB n T S W (pt Hm b (k + 1)) X K k (A ++ B) P L := by
          refine HB_out (k := b) H (fun d hd => ?_) (fun d hd => ?_)
          · by_cases z : d = b
            · rw [z, pt_e]; exact ⟨fun w => absurd w.1 (by omega), fun w => absurd rfl w.2⟩
            · rw [pt_n z]; exact ⟨fun w => ⟨w, z⟩, fun w => w.1⟩
          · by_cases z : d = b
            · rw [z, pt_e]; exact ⟨fun w => absurd w.1 (by omega), fun w => absurd w.2 (by omega)⟩
            · rw [pt_n z]
        have H1 : HB n (pt T b x) S W (pt Hm b (k + 1)) X K k (A ++ B) P L := HB_frame H0 (Nat.le_refl _) (fun d hd => ⟨fun z => ⟨hd, z⟩, fun z => z.2⟩) (fun d hd hh => ⟨pt_n (fun z => by rw [z, pt_e] at hh; omega), rfl, rfl, rfl, rfl⟩)
        have hlAB : (A ++ B).length < 48 := by simp at hQ48 ⊢; omega
        obtain ⟨A2, B2, lh', lx', q', eQ, f5, f6, f7, f8, f9⟩ := enqueue_s f4 G.2.2.2.2.2.1 G.2.2.2.2.2.2.1 f2 hnk hk hlAB hb2 b1 (fun d hd => ⟨((H1.1.1 d).mp hd).1, ((mem_out H.1.2 d).mp hd).2⟩) H1.1.2
        rw [eQ] at H1 hlAB
        have hHb : ∀ d, d < n → d = b → Hm d = k := fun d _ z => by rw [z]; exact b2
        have H2 : HB n (pt T b x) S W Hm X K k (A2 ++ b :: B2) P L := by
          refine HB_in H1 hlAB f9 b1 (fun d hd => ?_) (fun d hd => ?_)
          · by_cases z : d = b
            · rw [z, pt_e]; exact ⟨fun _ => Or.inr rfl, fun _ => ⟨b2, b3⟩⟩
            · rw [pt_n z]; exact ⟨fun w => Or.inl w, fun w => w.resolve_right z⟩
          · by_cases z : d = b
            · rw [z, pt_e]; exact ⟨fun w => absurd w.2 (by omega), fun w => absurd w.1 (by omega)⟩
            · rw [pt_n z]
        have hbP : ∀ d ∈ P, d ≠ b := fun d hd z => by have := ((H.2.2.1.1 d).mp hd).2.2; rw [z] at this; omega
        have eg := lr_get G.2.2.1 hb2 b1
        refine ⟨.inr (iz ((T b : Nat) : Int), lt1, lh', lx', q'), (ti b, 0, upd ti b p3), ?_, ?_, Or.inr ⟨_, rfl, rfl, eqI2 (lr_t G.2.2.1 b1) (Rm.2.2 b b1).1 rfl, ?_⟩⟩
        · simp only [tB_r, tB_l, Option.bind_some, if_neg bIt0, if_pos bI_f, thr_t, thr_f, sz_t, f_X4_put, eh4, f_X4_refuseIfNoTime, f_X4_isTime, i1, e1, if_pos (leI t0 e2 (by omega)), if_pos (leI hz rfl c2), eg, f1, f3, f5]
        · simp only [tB_r, tB_l, Option.bind_some, if_neg bIt0, if_pos bI_f, thr_t, thr_f, sz_t, f_X5_put, eh5, b_X5_put_13, b_X5_put_37, b_X5_put_59, b_X5_put_82, j1, ew, if_pos ehi, ecl, if_pos (leI hcv rfl c2), if_pos (inB_t hb2 (by omega : b < 120)), clampN hb2]
        · refine RL_one (T := T) (S := S) (W := W) (Hm := Hm) (X := X) (K := K) (n := n) (T' := pt T b x) ⟨⟨G.1.1, fun d hd => ?_⟩, G.2.1, f4, G.2.2.2.1, G.2.2.2.2.1, lr_congr f6 (fun d hd => ?_), lr_congr f7 (fun d hd => ?_), mR_setT Rm h3, G.2.2.2.2.2.2.2.2⟩ (by omega) (FR_in (fun d _ => Or.inl rfl) (fun d hd hh => ⟨pt_n (fun z => hh (hHb d hd z)), rfl, rfl, rfl, rfl⟩)) old ⟨H2, ⟨C.1, fun d hd => ?_, fun d hd => ?_⟩, hz, ⟨f8, c9.2.1, c9.2.2⟩, hcv⟩ (fun j _ => rfl)
          · have := G.1.2 d hd
            by_cases z : d = b
            · rw [z, pt_e]; rw [z] at this; exact ⟨hx9, this.2⟩
            · rw [pt_n z]; exact this
          · by_cases z : d = b
            · rw [if_pos z]; exact hHb d hd z
            · rw [if_neg z]
          · by_cases z : d = b
            · rw [if_pos z, z]; exact b3
            · rw [if_neg z]
          · by_cases z : d = b
            · rw [z, pt_e]; omega
            · rw [pt_n z]
              refine C.2.1 d ((mem_in d).mpr (Or.inl ?_))
              rw [eQ]
              exact ((mem_in d).mp hd).resolve_right z
          · rw [pt_n (hbP d hd)]; exact C.2.2 d hd
      · refine ⟨.inl "java/lang/IllegalStateException", (0, 4, ti), ?_, ?_, Or.inl ⟨_, rfl, by simp, RL_mono R0 (by omega)⟩⟩
        · simp only [tB_r, tB_l, Option.bind_some, if_neg bIt0, if_pos bI_f, thr_t, thr_f, sz_t, f_X4_put, eh4, f_X4_refuseIfNoTime, f_X4_isTime, i1, e1, if_pos (leI t0 e2 (by omega)), if_neg (nleI hz rfl (Int.not_le.mp c2))]
        · simp only [tB_r, tB_l, Option.bind_some, if_neg bIt0, if_pos bI_f, thr_t, thr_f, sz_t, f_X5_put, eh5, b_X5_put_13, b_X5_put_37, b_X5_put_59, b_X5_put_82, j1, ew, if_pos ehi, ecl, if_neg (nleI hcv rfl (Int.not_le.mp c2))]
    · have ew : f_X5_isWaiting ma ho sa p1 p2 = some false := by
        rw [isWaiting_s Rm hp p2, decide_eq_false (fun ⟨z1, z2, z3, z4⟩ => e2 p2.toInt.toNat ((H.1.1 _).mpr ⟨by omega, z3, z4⟩) (by omega))]
      refine ⟨.inl "java/util/NoSuchElementException", (0, 3, ti), ?_, ?_, Or.inl ⟨_, rfl, by simp, RL_mono R0 (by omega)⟩⟩
      · simp only [tB_r, tB_l, Option.bind_some, if_neg bIt0, if_pos bI_f, thr_t, thr_f, sz_t, f_X4_put, eh4, f_X4_refuseIfNoTime, f_X4_isTime, i1, e1, if_neg (nleI t0 m1 (by omega))]
      · simp only [tB_r, tB_l, Option.bind_some, if_neg bIt0, if_pos bI_f, thr_t, thr_f, sz_t, f_X5_put, eh5, b_X5_put_13, b_X5_put_37, b_X5_put_59, b_X5_put_82, j1, ew]
  · refine ⟨.inl "java/lang/IllegalArgumentException", (0, 2, ti), ?_, ?_, Or.inl ⟨_, rfl, by simp, RL_mono R0 (by omega)⟩⟩
    · simp only [tB_r, tB_l, Option.bind_some, if_neg bIt0, if_pos bI_f, thr_t, thr_f, sz_t, f_X4_put, eh4, f_X4_refuseIfNoTime, f_X4_isTime, in4_f t0 t9999 c1]
    · simp only [tB_r, tB_l, Option.bind_some, if_neg bIt0, if_pos bI_f, thr_t, thr_f, sz_t, f_X5_put, eh5, b_X5_put_13, b_X5_put_37, b_X5_put_59, b_X5_put_82, in5_f t0 t9999 c1]
end OPS
