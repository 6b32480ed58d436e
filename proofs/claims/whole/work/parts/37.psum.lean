/-! the sums -/
def fq : Int64 → List Nat → Int64
  | s, [] => s
  | s, b :: Q => fq (31 * s + (iz ((b : Nat) : Int)).toInt64) Q
def fc : Int64 → CL → Int64
  | s, [] => s
  | s, p :: L => fc (31 * (31 * s + (iz p.1).toInt64) + (iz p.2).toInt64) L
def fh (s : Int64) (z : Int32) (Q P : List Nat) (L : CL) : Int64 := fc (fq (31 * fq (31 * (31 * s + z.toInt64) + (iz ((Q.length : Nat) : Int)).toInt64) Q + (iz ((P.length : Nat) : Int)).toInt64) P) L
theorem withRow_l {N : Nat} {r : RS} {Q : List Nat} (h : qr N r Q) : ∀ (B : List Nat) (F : Nat) (A : List Nat) (v3 : Int64) (v5 : Int32), Q = A ++ B → v5.toInt = ((A.length : Nat) : Int) → B.length < F → l_X4_withRow_15 N r F v3 v5 = some (fq v3 B) := by
  intro B
  induction B with
  | nil =>
    intro F A v3 v5 e h5 hF
    cases F with
    | zero => exact absurd hF (Nat.not_lt_zero _)
    | succ F =>
      rw [l_X4_withRow_15, sz_t]
      simp only [Option.bind_some]
      rw [if_pos (leI (qr_len h) h5 (by rw [e]; simp))]
      rfl
  | cons b B ih =>
    intro F A v3 v5 e h5 hF
    cases F with
    | zero => exact absurd hF (Nat.not_lt_zero _)
    | succ F =>
      have hN := qr_N h
      have hl : Q.length = A.length + B.length + 1 := by rw [e]; simp; omega
      rw [l_X4_withRow_15, sz_t]
      simp only [Option.bind_some]
      have h' := h
      rw [e] at h'
      rw [if_neg (nleI (qr_len h) h5 (by omega)), qr_get h' h5]
      simp only [Option.bind_some]
      exact ih F (A ++ [b]) _ _ (by rw [e]; simp) (by rw [inc_t h5 (by omega)]; simp) (by simp at hF; omega)
theorem withRow_g (N : Nat) (r : RS) (s : Int64) (F : Nat) : ((f_X3_size r).bind fun g1 => l_X4_withRow_15 N r F ((31 * s) + g1.toInt64) 0) = l_X4_withRow_15 N r F (31 * s + r.2.toInt64) 0 := rfl
theorem withRow_s {N : Nat} {r : RS} {Q : List Nat} (h : qr N r Q) (s : Int64) : f_X4_withRow N r s = some (fq (31 * s + (iz ((Q.length : Nat) : Int)).toInt64) Q) := by
  have e9 : r.2 = iz ((Q.length : Nat) : Int) := iz_of (qr_len h)
  have hl : Q.length < FU := by have := qr_N h; show _ < 1000000; omega
  have e := withRow_l h Q FU [] (31 * s + r.2.toInt64) 0 rfl t0 hl
  rw [← e9]
  unfold f_X4_withRow
  exact (withRow_g N r s FU).trans e
theorem withHouse_l {t c : RS} {L : CL} (h : rpC t c L) : ∀ (B : CL) (F : Nat) (A : CL) (v3 : Int64) (v5 : Int32), L = A ++ B → v5.toInt = ((A.length : Nat) : Int) → B.length < F → l_X4_withHouse_33 t c F v3 v5 = some (fc v3 B) := by
  intro B
  induction B with
  | nil =>
    intro F A v3 v5 e h5 hF
    cases F with
    | zero => exact absurd hF (Nat.not_lt_zero _)
    | succ F =>
      rw [l_X4_withHouse_33, sz_t]
      simp only [Option.bind_some]
      rw [if_pos (leI (rpC_sz h) h5 (by rw [e]; simp))]
      rfl
  | cons b B ih =>
    intro F A v3 v5 e h5 hF
    cases F with
    | zero => exact absurd hF (Nat.not_lt_zero _)
    | succ F =>
      have hN := rpC_len h
      have hl : L.length = A.length + B.length + 1 := by rw [e]; simp; omega
      rw [l_X4_withHouse_33, sz_t]
      simp only [Option.bind_some]
      have h' := h
      rw [e] at h'
      rw [if_neg (nleI (rpC_sz h) h5 (by omega)), rpC_t h' h5]
      simp only [Option.bind_some]
      rw [rpC_c h' h5]
      simp only [Option.bind_some]
      exact ih F (A ++ [b]) _ _ (by rw [e]; simp) (by rw [inc_t h5 (by omega)]; simp) (by simp at hF; omega)
theorem withHouse_s {q u t c : RS} {Q P : List Nat} {L : CL} (h : hc q u t c Q P L) (z : Int32) (s : Int64) : f_X4_withHouse z q u t c s = some (fh s z Q P L) := by
  unfold f_X4_withHouse
  rw [withRow_s h.1]
  simp only [Option.bind_some]
  rw [withRow_s h.2.1]
  simp only [Option.bind_some]
  rw [withHouse_l h.2.2 L FU [] _ 0 rfl t0 (by have := rpC_len h.2.2; show _ < 1000000; omega)]
  rfl
section SU
variable {n h : Nat} {T S W Hm X K : Nat → Nat} {ma : Int32} {ti sp we ho sa ca : Nat → Int32} {v1 : Int32} {Q P : List Nat} {L : CL}
theorem adds_t (s v : Int64) : f_X5_adds s v = some (31 * s + v) := rfl
theorem sum_114 (R : mR n T S W Hm X ma ti sp we ho sa) (ok : okB n T S W) (hv : v1.toInt = h) (hC : canon n T S W (cm Hm X h) L) (thc : Int32) (ko : Int32 → Int64 → Option (Int64 × Int32 × Int64)) : ∀ (F : Nat) (x : Int) (v2 : Int32) (s : Int64) (A B : CL), L = A ++ B → (∀ p ∈ A, p.1 ≤ x) → (∀ p ∈ B, x < p.1) → lowOf (tnP n T S Hm X h x n) v2.toInt → -1 ≤ x → (100000 - x).toNat < F → l_X5_checksum_114 ma ti sp we ho sa v1 thc ko F v2 s = ko (v1 + 1) (fc s B) := by
  have hev : ∀ p ∈ L, ∀ x : Int, x < p.1 → tnP n T S Hm X h x n p.1 := by
    intro p hp x hx
    obtain ⟨b, b1, b2, b3, b4⟩ := canon_ev (fun b hb => (ok.2 b hb).2.2.1) hC hp
    exact ⟨b, b1, ⟨b2, b3⟩, hx, b4⟩
  intro F
  induction F with
  | zero => intro x v2 s A B _ _ _ _ _ hF; exact absurd hF (Nat.not_lt_zero _)
  | succ F ih =>
    intro x v2 s A B e hA hB hl hx hF
    rw [l_X5_checksum_114]
    by_cases c : v2.toInt = 100000
    · rw [if_pos (leI tF c (by omega))]
      cases B with
      | nil => rfl
      | cons p B =>
        have hp : p ∈ L := by rw [e]; simp
        have h1 := hl.1 _ (hev p hp x (hB p List.mem_cons_self))
        have h2 := canon_b ok hC hp
        omega
    · obtain ⟨b, b1, b2, b3, b4⟩ := hl.2.resolve_left c
      have okb := ok.2 b b1
      have hv2 : v2.toInt ≤ 10499 := by rcases b4 with z | z <;> omega
      rw [if_neg (nleI tF rfl (by omega))]
      obtain ⟨g, e1, e2⟩ := changeAt_m R ok hv (v2 := v2) rfl
      obtain ⟨r, e3, e4⟩ := turnBehind_m R ok hv (v2 := v2) rfl
      rw [e1]
      simp only [Option.bind_some]
      have hge : ∀ p ∈ B, v2.toInt ≤ p.1 := fun p hp => hl.1 _ (hev p (by rw [e]; simp [hp]) x (hB p hp))
      by_cases c2 : g = 0
      · rw [if_pos c2]
        unfold b_X5_checksum_143
        rw [e3]
        simp only [Option.bind_some]
        rw [c2, t0] at e2
        refine ih v2.toInt r s A B e (fun p hp => by have := hA p hp; omega) (fun p hp => ?_) e4 (by omega) (by omega)
        have h1 := hge p hp
        rcases Int.lt_or_eq_of_le h1 with z | z
        · exact z
        · have hpL : p ∈ L := by rw [e]; simp [hp]
          have h2 := pref_at hC.1 hpL
          rw [hC.2.2, hC.2.2, ← z] at h2
          have h3 := hC.2.1 p hpL
          omega
      · rw [if_neg c2]
        have hne : FF n T S W (cm Hm X h) v2.toInt - FF n T S W (cm Hm X h) (v2.toInt - 1) ≠ 0 := fun z => c2 (eqI2 e2 t0 z)
        have hex : ∃ p ∈ L, p.1 = v2.toInt := Classical.byContradiction (fun z => by
          have h1 := pref_no (L := L) (y := v2.toInt) (fun p hp e9 => z ⟨p, hp, e9⟩)
          rw [hC.2.2, hC.2.2] at h1
          omega)
        obtain ⟨p, hpL, hpv⟩ := hex
        have hpB : p ∈ B := by
          rw [e] at hpL
          rcases List.mem_append.mp hpL with z | z
          · have := hA p z; omega
          · exact z
        cases B with
        | nil => exact absurd hpB (fun z => (nomatch z))
        | cons q B =>
          have hqL : q ∈ L := by rw [e]; simp
          have hqv : q.1 = v2.toInt := by
            have h1 := hge q List.mem_cons_self
            rcases List.mem_cons.mp hpB with z | z
            · rw [← z]; exact hpv
            · have hs := hC.1
              rw [e] at hs
              have := (sg_lt (n := n) (T := T) (S := S) (W := W) (C := cm Hm X h) (by rw [e] at hC; exact hC)).2 p z
              omega
          have hq2 : g.toInt = q.2 := by
            have h2 := pref_at hC.1 hqL
            rw [hC.2.2, hC.2.2, hqv] at h2
            omega
          rw [adds_t]
          simp only [Option.bind_some]
          rw [adds_t]
          simp only [Option.bind_some]
          unfold b_X5_checksum_143
          rw [e3]
          simp only [Option.bind_some]
          rw [ih v2.toInt r _ (A ++ [q]) B (by rw [e]; simp) (fun d hd => ?_) (fun d hd => ?_) e4 (by omega) (by omega)]
          · show _ = ko (v1 + 1) (fc (31 * (31 * s + (iz q.1).toInt64) + (iz q.2).toInt64) B)
            rw [← iz_of hqv.symm, ← iz_of hq2]
          · rcases List.mem_append.mp hd with z | z
            · have := hA d z; omega
            · rw [List.mem_singleton.mp z]; omega
          · have := (sg_lt (n := n) (T := T) (S := S) (W := W) (C := cm Hm X h) (by rw [e] at hC; exact hC)).2 d hd
            omega
theorem sum_86 (R : mR n T S W Hm X ma ti sp we ho sa) (ok : okB n T S W) (hv : v1.toInt = h) (hC : canon n T S W (cm Hm X h) L) (hP : pOf n K Hm X h P) (hK : ∀ b, b < n → X b = 1 → (ca b).toInt = K b) (thc : Int32) (ko : Int32 → Int64 → Option (Int64 × Int32 × Int64)) : ∀ (B : List Nat) (F : Nat) (A : List Nat) (v2 : Int32) (s : Int64), P = A ++ B → v2.toInt = hdI B → B.length < F → l_X5_checksum_86 ma ti sp we ho sa ca v1 thc ko F v2 s = ko (v1 + 1) (fc (fq s B) L) := by
  intro B
  induction B with
  | nil =>
    intro F A v2 s e h2 hF
    cases F with
    | zero => exact absurd hF (Nat.not_lt_zero _)
    | succ F =>
      obtain ⟨r, e3, e4⟩ := turnBehind_m R ok hv m1
      rw [l_X5_checksum_86, if_pos (eqI2 h2 m1 rfl), e3]
      simp only [Option.bind_some]
      exact sum_114 R ok hv hC thc ko FU (-1) r s [] L rfl (fun p hp => (nomatch hp)) (fun p hp => by have := canon_b ok hC hp; omega) e4 (Int.le_refl _) (by show _ < 1000000; omega)
  | cons b B ih =>
    intro F A v2 s e h2 hF
    cases F with
    | zero => exact absurd hF (Nat.not_lt_zero _)
    | succ F =>
      have hb : v2.toInt = (b : Nat) := h2
      have hP' := hP
      rw [e] at hP'
      obtain ⟨w, ew, hw⟩ := cameBehind_s R hK hv hP' hb
      rw [l_X5_checksum_86, if_neg (neI hb m1 (by omega)), adds_t]
      simp only [Option.bind_some]
      rw [ew]
      simp only [Option.bind_some]
      rw [ih F (A ++ [b]) w _ (by rw [e]; simp) hw (by simp at hF; omega), iz_of hb]
      rfl
theorem sum_47 (R : mR n T S W Hm X ma ti sp we ho sa) (ok : okB n T S W) (hv : v1.toInt = h) (hC : canon n T S W (cm Hm X h) L) (hQ : qOf n T Hm X h Q) (hP : pOf n K Hm X h P) (hP2 : P.length ≤ 120) (hK : ∀ b, b < n → X b = 1 → (ca b).toInt = K b) (thc : Int32) (ko : Int32 → Int64 → Option (Int64 × Int32 × Int64)) : ∀ (B : List Nat) (F : Nat) (A : List Nat) (v2 : Int32) (s : Int64), Q = A ++ B → v2.toInt = hdI B → B.length < F → l_X5_checksum_47 ma ti sp we ho sa ca v1 thc ko F v2 s = ko (v1 + 1) (fc (fq (31 * fq s B + (iz ((P.length : Nat) : Int)).toInt64) P) L) := by
  intro B
  induction B with
  | nil =>
    intro F A v2 s e h2 hF
    cases F with
    | zero => exact absurd hF (Nat.not_lt_zero _)
    | succ F =>
      obtain ⟨mw, em, emt⟩ := many_s R hv (x := 1) t1
      rw [p_cnt hP] at emt
      obtain ⟨f, ef, eft⟩ := cameFirst_s R hK hv hP
      rw [l_X5_checksum_47, if_pos (eqI2 h2 m1 rfl), em]
      simp only [Option.bind_some]
      rw [adds_t]
      simp only [Option.bind_some]
      rw [ef]
      simp only [Option.bind_some]
      rw [sum_86 R ok hv hC hP hK thc ko P FU [] f _ rfl eft (by show _ < 1000000; omega), iz_of emt]
      rfl
  | cons b B ih =>
    intro F A v2 s e h2 hF
    cases F with
    | zero => exact absurd hF (Nat.not_lt_zero _)
    | succ F =>
      have hb : v2.toInt = (b : Nat) := h2
      have hQ' := hQ
      rw [e] at hQ'
      obtain ⟨w, ew, hw⟩ := behind_s R hv hQ' hb
      rw [l_X5_checksum_47, if_neg (neI hb m1 (by omega)), adds_t]
      simp only [Option.bind_some]
      rw [ew]
      simp only [Option.bind_some]
      rw [ih F (A ++ [b]) w _ (by rw [e]; simp) hw (by simp at hF; omega), iz_of hb]
      rfl
theorem sum_14 {kst ck : Nat} {lt ls lw lh lx q u t c : RS} {z st : Int32} {cl : Nat → Int32} (G : GD n T S W Hm X K kst lt ls lw lh lx ma st ti sp we ho sa ca) (H : HS n T S W Hm X K h ck Q P L z q u t c (cl h)) (hv : v1.toInt = h) (hh4 : h < 4) (F : Nat) (s : Int64) : l_X5_checksum_14 ma ti sp we ho sa ca cl 0 (F + 1) v1 s = l_X5_checksum_14 ma ti sp we ho sa ca cl 0 F (v1 + 1) (fh s z Q P L) := by
  have R := G.2.2.2.2.2.2.2.1
  have hKe : ∀ b, b < n → X b = 1 → (ca b).toInt = K b := fun b hb hx => (G.2.2.2.2.2.2.2.2.1 b hb hx).1
  obtain ⟨mw, em, emt⟩ := many_s R hv (x := 0) t0
  rw [q_cnt H.1.1] at emt
  obtain ⟨f, ef, eft⟩ := first_s R hv H.1.1
  have ez : cl h = z := eqI2 H.2.2.2.2 H.2.2.1 rfl
  rw [l_X5_checksum_14, if_neg (nleI t4 hv (by omega)), if_pos (inB_t hv hh4), clampN hv, ez, adds_t]
  simp only [Option.bind_some]
  rw [em]
  simp only [Option.bind_some]
  rw [adds_t]
  simp only [Option.bind_some]
  rw [ef]
  simp only [Option.bind_some]
  rw [sum_47 R G.1 hv H.1.2.2.2.2.1 H.1.1 H.1.2.2.1 (qr_N H.2.2.2.1.2.1).1 hKe 0 _ Q FU [] f _ rfl eft (by have := H.1.2.1; show _ < 1000000; omega), iz_of emt]
  rfl
end SU
theorem st_checksum {bd : Nat} {lt ls lw lh lx : RS} {zf : Nat → Int32} {qf uf tf cf : Nat → RS} {ma st : Int32} {ti sp we ho sa ca cl : Nat → Int32} (R : RQ bd lt ls lw lh lx zf qf uf tf cf ma st ti sp we ho sa ca cl) : ∃ s, f_X4_checksum (zf 0) (qf 0) (uf 0) (tf 0) (cf 0) (zf 1) (qf 1) (uf 1) (tf 1) (cf 1) (zf 2) (qf 2) (uf 2) (tf 2) (cf 2) (zf 3) (qf 3) (uf 3) (tf 3) (cf 3) = some s ∧ f_X5_checksum ma ti sp we ho sa ca cl = some (s, 0, s) := by
  obtain ⟨n, T, S, W, Hm, X, K, kst, G, hks, old⟩ := R
  obtain ⟨k0, Q0, P0, L0, H0⟩ := old 0 (by omega)
  obtain ⟨k1, Q1, P1, L1, H1⟩ := old 1 (by omega)
  obtain ⟨k2, Q2, P2, L2, H2⟩ := old 2 (by omega)
  obtain ⟨k3, Q3, P3, L3, H3⟩ := old 3 (by omega)
  refine ⟨fh (fh (fh (fh 7 (zf 0) Q0 P0 L0) (zf 1) Q1 P1 L1) (zf 2) Q2 P2 L2) (zf 3) Q3 P3 L3, ?_, ?_⟩
  · unfold f_X4_checksum
    rw [withHouse_s H0.2.2.2.1]
    simp only [Option.bind_some]
    rw [withHouse_s H1.2.2.2.1]
    simp only [Option.bind_some]
    rw [withHouse_s H2.2.2.2.1]
    simp only [Option.bind_some]
    rw [withHouse_s H3.2.2.2.1]
    rfl
  · have hF : FU = 999995 + 1 + 1 + 1 + 1 + 1 := rfl
    unfold f_X5_checksum
    rw [hF, sum_14 G H0 (v1 := 0) t0 (by omega), sum_14 G H1 (v1 := 0 + 1) rfl (by omega), sum_14 G H2 (v1 := 0 + 1 + 1) rfl (by omega), sum_14 G H3 (v1 := 0 + 1 + 1 + 1) rfl (by omega), l_X5_checksum_14, if_pos (by decide)]
