/-! series: both sides answer alike -/
section OPS5
variable {bd k : Nat} {lt ls lw lh lx : RS} {zf : Nat → Int32} {qf uf tf cf : Nat → RS} {ma st : Int32} {ti sp we ho sa ca cl : Nat → Int32} {p1 : Int32}
theorem series_c {nu z : Int32} {q : RS} {p2 p3 p4 p5 p6 : Int32} (hp : p1.toInt = k) (hk : k < 4) (hbad : ¬ ((0 ≤ p2.toInt ∧ p2.toInt ≤ 9999) ∧ (0 ≤ p3.toInt ∧ p3.toInt ≤ 500) ∧ (1 ≤ p4.toInt ∧ p4.toInt ≤ 12) ∧ (0 ≤ p5.toInt ∧ p5.toInt ≤ 500) ∧ (1 ≤ p6.toInt ∧ p6.toInt ≤ 9))) : f_X4_series lt ls lw lh lx nu z q p1 p2 p3 p4 p5 p6 = some (.inl "java/lang/IllegalArgumentException") := by
  have eh4 := houseAt_t hp hk
  by_cases c0 : (0 ≤ p2.toInt ∧ p2.toInt ≤ 9999)
  · by_cases c1 : (0 ≤ p3.toInt ∧ p3.toInt ≤ 500)
    · by_cases c2 : (1 ≤ p4.toInt ∧ p4.toInt ≤ 12)
      · by_cases c3 : (0 ≤ p5.toInt ∧ p5.toInt ≤ 500)
        · by_cases c4 : (1 ≤ p6.toInt ∧ p6.toInt ≤ 9)
          · exact absurd ⟨c0, c1, c2, c3, c4⟩ hbad
          · simp only [tB_r, tB_l, Option.bind_some, if_neg bIt0, if_pos bI_f, thr_t, thr_f, sz_t, f_X4_series, eh4, f_X4_isTime, f_X4_isSpan, f_X4_isWeight, in4_t t0 t9999 c0, in4_t t0 t500 c1, in4_t t1 t12 c2, in4_t t0 t500 c3, in4_f t1 t9 c4]
        · simp only [tB_r, tB_l, Option.bind_some, if_neg bIt0, if_pos bI_f, thr_t, thr_f, sz_t, f_X4_series, eh4, f_X4_isTime, f_X4_isSpan, f_X4_isWeight, in4_t t0 t9999 c0, in4_t t0 t500 c1, in4_t t1 t12 c2, in4_f t0 t500 c3]
      · simp only [tB_r, tB_l, Option.bind_some, if_neg bIt0, if_pos bI_f, thr_t, thr_f, sz_t, f_X4_series, eh4, f_X4_isTime, f_X4_isSpan, f_X4_isWeight, in4_t t0 t9999 c0, in4_t t0 t500 c1, in4_f t1 t12 c2]
    · simp only [tB_r, tB_l, Option.bind_some, if_neg bIt0, if_pos bI_f, thr_t, thr_f, sz_t, f_X4_series, eh4, f_X4_isTime, f_X4_isSpan, f_X4_isWeight, in4_t t0 t9999 c0, in4_f t0 t500 c1]
  · simp only [tB_r, tB_l, Option.bind_some, if_neg bIt0, if_pos bI_f, thr_t, thr_f, sz_t, f_X4_series, eh4, f_X4_isTime, f_X4_isSpan, f_X4_isWeight, in4_f t0 t9999 c0]
theorem series_r {p2 p3 p4 p5 p6 : Int32} (hp : p1.toInt = k) (hk : k < 4) (hbad : ¬ ((0 ≤ p2.toInt ∧ p2.toInt ≤ 9999) ∧ (0 ≤ p3.toInt ∧ p3.toInt ≤ 500) ∧ (1 ≤ p4.toInt ∧ p4.toInt ≤ 12) ∧ (0 ≤ p5.toInt ∧ p5.toInt ≤ 500) ∧ (1 ≤ p6.toInt ∧ p6.toInt ≤ 9))) : f_X5_series ma ti sp we ho sa cl p1 p2 p3 p4 p5 p6 = some (0, 2, ma, ti, sp, we, ho, sa) := by
  have eh5 := house_t hp hk
  by_cases c1 : (0 ≤ p3.toInt ∧ p3.toInt ≤ 500)
  · by_cases c2 : (1 ≤ p4.toInt ∧ p4.toInt ≤ 12)
    · by_cases c3 : (0 ≤ p5.toInt ∧ p5.toInt ≤ 500)
      · by_cases c4 : (1 ≤ p6.toInt ∧ p6.toInt ≤ 9)
        · by_cases c0 : (0 ≤ p2.toInt ∧ p2.toInt ≤ 9999)
          · exact absurd ⟨c0, c1, c2, c3, c4⟩ hbad
          · simp only [tB_r, tB_l, Option.bind_some, if_neg bIt0, if_pos bI_f, thr_t, thr_f, sz_t, f_X5_series, eh5, b_X5_series_13, b_X5_series_84, b_X5_series_113, b_X5_series_164, in5_t t0 t500 c1, in5_t t1 t12 c2, in5_t t0 t500 c3, in5_t t1 t9 c4, in5_f t0 t9999 c0]
        · simp only [tB_r, tB_l, Option.bind_some, if_neg bIt0, if_pos bI_f, thr_t, thr_f, sz_t, f_X5_series, eh5, b_X5_series_13, b_X5_series_84, b_X5_series_113, b_X5_series_164, in5_t t0 t500 c1, in5_t t1 t12 c2, in5_t t0 t500 c3, in5_f t1 t9 c4]
      · simp only [tB_r, tB_l, Option.bind_some, if_neg bIt0, if_pos bI_f, thr_t, thr_f, sz_t, f_X5_series, eh5, b_X5_series_13, b_X5_series_84, b_X5_series_113, b_X5_series_164, in5_t t0 t500 c1, in5_t t1 t12 c2, in5_f t0 t500 c3]
    · simp only [tB_r, tB_l, Option.bind_some, if_neg bIt0, if_pos bI_f, thr_t, thr_f, sz_t, f_X5_series, eh5, b_X5_series_13, b_X5_series_84, b_X5_series_113, b_X5_series_164, in5_t t0 t500 c1, in5_f t1 t12 c2]
  · simp only [tB_r, tB_l, Option.bind_some, if_neg bIt0, if_pos bI_f, thr_t, thr_f, sz_t, f_X5_series, eh5, b_X5_series_13, b_X5_series_84, b_X5_series_113, b_X5_series_164, in5_f t0 t500 c1]
theorem st_series (R : RQ bd lt ls lw lh lx zf qf uf tf cf ma st ti sp we ho sa ca cl) (hb : bd ≤ 900000) (hp : p1.toInt = k) (hk : k < 4) (p2 p3 p4 p5 p6 : Int32) : ∃ oc r, f_X4_series lt ls lw lh lx (nI k) (zf k) (qf k) p1 p2 p3 p4 p5 p6 = some oc ∧ f_X5_series ma ti sp we ho sa cl p1 p2 p3 p4 p5 p6 = some r ∧ ((∃ e, oc = .inl e ∧ (e, r.2.1) ∈ ([("java/lang/IllegalArgumentException", 2), ("java/lang/IllegalStateException", 3)] : List (String × Int32)) ∧ RQ (bd + 120) lt ls lw lh lx zf qf uf tf cf r.2.2.1 st r.2.2.2.1 r.2.2.2.2.1 r.2.2.2.2.2.1 r.2.2.2.2.2.2.1 r.2.2.2.2.2.2.2 ca cl) ∨ ∃ a, oc = .inr a ∧ r.2.1 = 0 ∧ a.1 = r.1 ∧ RQ (bd + 120) a.2.1 a.2.2.1 a.2.2.2.1 a.2.2.2.2.1 a.2.2.2.2.2.1 (ups zf k (zf k)) (ups qf k a.2.2.2.2.2.2) (ups uf k (uf k)) (ups tf k (tf k)) (ups cf k (cf k)) r.2.2.1 st r.2.2.2.1 r.2.2.2.2.1 r.2.2.2.2.2.1 r.2.2.2.2.2.2.1 r.2.2.2.2.2.2.2 ca cl) := by
  have R0 := R
  obtain ⟨n, T, S, W, Hm, X, K, kst, G, hks, old⟩ := R
  obtain ⟨ck, Q, P, L, H, C, hz, c9, hcv⟩ := old k hk
  have hnk : (nI k).toInt = k := nI_toInt (by omega)
  have hql := qr_len c9.1
  have hQ48 := H.2.1
  have Rm := G.2.2.2.2.2.2.2.1
  have h120 := Rm.1
  have eh4 := houseAt_t hp hk
  have eh5 := house_t hp hk
  have ehi := inB_t hp hk
  have ecl := clampN hp
  obtain ⟨mw, em, emt⟩ := many_s Rm hp (x := 0) t0
  rw [q_cnt H.1] at emt
  have hll := lr_len G.2.2.1
  by_cases cA : (0 ≤ p2.toInt ∧ p2.toInt ≤ 9999) ∧ (0 ≤ p3.toInt ∧ p3.toInt ≤ 500) ∧ (1 ≤ p4.toInt ∧ p4.toInt ≤ 12) ∧ (0 ≤ p5.toInt ∧ p5.toInt ≤ 500) ∧ (1 ≤ p6.toInt ∧ p6.toInt ≤ 9)
  · obtain ⟨c0, c1, c2, c3, c4⟩ := cA
    have i0 := in4_t t0 t9999 c0
    have j0 := in5_t t0 t9999 c0
    have i1 := in4_t t0 t500 c1
    have j1 := in5_t t0 t500 c1
    have i2 := in4_t t1 t12 c2
    have j2 := in5_t t1 t12 c2
    have i3 := in4_t t0 t500 c3
    have j3 := in5_t t0 t500 c3
    have i4 := in4_t t1 t9 c4
    have j4 := in5_t t1 t9 c4
    have h3 : p3.toInt = ((p3.toInt.toNat : Nat) : Int) := by omega
    have h2 : p2.toInt = ((p2.toInt.toNat : Nat) : Int) := by omega
    have h4 : p4.toInt = ((p4.toInt.toNat : Nat) : Int) := by omega
    have b3 : p3.toInt.toNat ≤ 500 := by omega
    have b2 : p2.toInt.toNat ≤ 9999 := by omega
    have b4 : 1 ≤ p4.toInt.toNat ∧ p4.toInt.toNat ≤ 12 := by omega
    generalize p3.toInt.toNat = d at h3 b3
    generalize p2.toInt.toNat = x at h2 b2
    generalize p4.toInt.toNat = m at h4 b4
    have hdm : d * (m - 1) ≤ 500 * 11 := Nat.mul_le_mul b3 (by omega)
    have e1 : (p4 - 1).toInt = ((m - 1 : Nat) : Int) := by rw [tb (by rw [t1]; omega) (by rw [t1]; omega), t1]; omega
    have ec : ((d * (m - 1) : Nat) : Int) = (d : Int) * ((m - 1 : Nat) : Int) := by simp
    have e2 : (p3 * (p4 - 1)).toInt = ((d * (m - 1) : Nat) : Int) := by
      rw [tm (by rw [h3, e1, ← ec]; omega) (by rw [h3, e1, ← ec]; omega), h3, e1, ← ec]
    have e3 : (p2 + (p3 * (p4 - 1))).toInt = ((x + d * (m - 1) : Nat) : Int) := by
      rw [ta (by omega) (by omega)]
      omega
    by_cases c5 : x + d * (m - 1) ≤ 9999
    · have i5 : f_X4_isIn (p2 + (p3 * (p4 - 1))) 0 9999 = some true := in4_t t0 t9999 (by omega)
      have j5 : p2 + (p3 * (p4 - 1)) ≤ 9999 := leI e3 t9999 (by omega)
      have e5 : ((qf k).2 + p4).toInt = ((Q.length + m : Nat) : Int) := by rw [ta (by omega) (by omega)]; omega
      have e6 : (lt.2 + p4).toInt = ((n + m : Nat) : Int) := by rw [ta (by omega) (by omega)]; omega
      have e7 : (mw + p4).toInt = ((Q.length + m : Nat) : Int) := by rw [ta (by omega) (by omega)]; omega
      have e8 : (ma + p4).toInt = ((n + m : Nat) : Int) := by
        have := Rm.2.1
        rw [ta (by omega) (by omega)]; omega
      by_cases c6 : ck ≤ x
      · by_cases c7 : Q.length + m ≤ 48
        · by_cases c8 : n + m ≤ 120
          · obtain ⟨n', T', S', W', Hm', X', lt', ls', lw', lh', lx', q', Q', ma', ti', sp', we', ho', sa', f1, f2, G', H', C', hq', fr⟩ := series_j (nu := nI k) (p1 := p1) (v2 := p2) (v3 := p3) (v4 := p4) (v5 := p5) (v6 := p6) (v8 := lt.2) (y := p5.toInt.toNat) (w := p6.toInt.toNat) hnk hk hp h2 h3 (by omega) (by omega) (by omega) (by omega) b3 b2 ma 0 ck c6 m FU FU 0 n T S W Hm X lt ls lw lh lx (qf k) ma ti sp we ho sa Q 0 0 G H C c9.1 c7 c8 t0 t0 (by rw [h4]; simp) (by omega) (by rw [show 0 + m - 1 = m - 1 by omega]; exact c5) (by show _ < 1000000; omega) (by show _ < 1000000; omega)
            refine ⟨.inr (lt.2, lt', ls', lw', lh', lx', q'), (ma, 0, ma', ti', sp', we', ho', sa'), ?_, ?_, Or.inr ⟨_, rfl, rfl, eqI2 hll Rm.2.1 rfl, RL_one G' (by omega) fr old ⟨H', C', hz, ⟨hq', c9.2.1, c9.2.2⟩, hcv⟩ (fun j _ => rfl)⟩⟩
            · simp only [tB_r, tB_l, Option.bind_some, if_neg bIt0, if_pos bI_f, thr_t, thr_f, sz_t, f_X4_series, eh4, f_X4_isTime, f_X4_isSpan, f_X4_isWeight, i0, i1, i2, i3, i4, i5, f_X4_refuseIfNoRoom, if_pos (leI hz h2 (by omega)), if_pos (leI e5 t48 (by omega)), szl_t, if_pos (leI e6 t120 (by omega)), f1]
            · simp only [tB_r, tB_l, Option.bind_some, if_neg bIt0, if_pos bI_f, thr_t, thr_f, sz_t, f_X5_series, eh5, b_X5_series_13, b_X5_series_84, b_X5_series_113, b_X5_series_164, j0, j1, j2, j3, j4, if_pos j5, if_pos ehi, ecl, if_neg (nltI h2 hcv (by omega)), em, if_neg (nltI t48 e7 (by omega)), if_pos (leI e8 t120 (by omega)), f2]
          · refine ⟨.inl "java/lang/IllegalStateException", (0, 3, ma, ti, sp, we, ho, sa), ?_, ?_, Or.inl ⟨_, rfl, by simp, RL_mono R0 (by omega)⟩⟩
            · simp only [tB_r, tB_l, Option.bind_some, if_neg bIt0, if_pos bI_f, thr_t, thr_f, sz_t, f_X4_series, eh4, f_X4_isTime, f_X4_isSpan, f_X4_isWeight, i0, i1, i2, i3, i4, i5, f_X4_refuseIfNoRoom, if_pos (leI hz h2 (by omega)), if_pos (leI e5 t48 (by omega)), szl_t, if_neg (nleI e6 t120 (by omega))]
            · simp only [tB_r, tB_l, Option.bind_some, if_neg bIt0, if_pos bI_f, thr_t, thr_f, sz_t, f_X5_series, eh5, b_X5_series_13, b_X5_series_84, b_X5_series_113, b_X5_series_164, j0, j1, j2, j3, j4, if_pos j5, if_pos ehi, ecl, if_neg (nltI h2 hcv (by omega)), em, if_neg (nltI t48 e7 (by omega)), if_neg (nleI e8 t120 (by omega))]
        · refine ⟨.inl "java/lang/IllegalStateException", (0, 3, ma, ti, sp, we, ho, sa), ?_, ?_, Or.inl ⟨_, rfl, by simp, RL_mono R0 (by omega)⟩⟩
          · simp only [tB_r, tB_l, Option.bind_some, if_neg bIt0, if_pos bI_f, thr_t, thr_f, sz_t, f_X4_series, eh4, f_X4_isTime, f_X4_isSpan, f_X4_isWeight, i0, i1, i2, i3, i4, i5, f_X4_refuseIfNoRoom, if_pos (leI hz h2 (by omega)), if_neg (nleI e5 t48 (by omega))]
          · simp only [tB_r, tB_l, Option.bind_some, if_neg bIt0, if_pos bI_f, thr_t, thr_f, sz_t, f_X5_series, eh5, b_X5_series_13, b_X5_series_84, b_X5_series_113, b_X5_series_164, j0, j1, j2, j3, j4, if_pos j5, if_pos ehi, ecl, if_neg (nltI h2 hcv (by omega)), em, if_pos (ltI t48 e7 (by omega))]
      · refine ⟨.inl "java/lang/IllegalStateException", (0, 3, ma, ti, sp, we, ho, sa), ?_, ?_, Or.inl ⟨_, rfl, by simp, RL_mono R0 (by omega)⟩⟩
        · simp only [tB_r, tB_l, Option.bind_some, if_neg bIt0, if_pos bI_f, thr_t, thr_f, sz_t, f_X4_series, eh4, f_X4_isTime, f_X4_isSpan, f_X4_isWeight, i0, i1, i2, i3, i4, i5, f_X4_refuseIfNoRoom, if_neg (nleI hz h2 (by omega))]
        · simp only [tB_r, tB_l, Option.bind_some, if_neg bIt0, if_pos bI_f, thr_t, thr_f, sz_t, f_X5_series, eh5, b_X5_series_13, b_X5_series_84, b_X5_series_113, b_X5_series_164, j0, j1, j2, j3, j4, if_pos j5, if_pos ehi, ecl, if_pos (ltI h2 hcv (by omega))]
    · refine ⟨.inl "java/lang/IllegalArgumentException", (0, 2, ma, ti, sp, we, ho, sa), ?_, ?_, Or.inl ⟨_, rfl, by simp, RL_mono R0 (by omega)⟩⟩
      · simp only [tB_r, tB_l, Option.bind_some, if_neg bIt0, if_pos bI_f, thr_t, thr_f, sz_t, f_X4_series, eh4, f_X4_isTime, f_X4_isSpan, f_X4_isWeight, i0, i1, i2, i3, i4, (in4_f t0 t9999 (by omega) : f_X4_isIn (p2 + (p3 * (p4 - 1))) 0 9999 = some false)]
      · simp only [tB_r, tB_l, Option.bind_some, if_neg bIt0, if_pos bI_f, thr_t, thr_f, sz_t, f_X5_series, eh5, b_X5_series_13, b_X5_series_84, b_X5_series_113, b_X5_series_164, j0, j1, j2, j3, j4, if_neg (nleI e3 t9999 (by omega))]
  · refine ⟨.inl "java/lang/IllegalArgumentException", (0, 2, ma, ti, sp, we, ho, sa), ?_, ?_, Or.inl ⟨_, rfl, by simp, RL_mono R0 (by omega)⟩⟩
    · exact series_c hp hk cA
    · exact series_r hp hk cA
end OPS5
