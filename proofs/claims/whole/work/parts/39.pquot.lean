/-! the two calls that answer a quotient -/
def okD (f : FP.Core.Fmt) : FP.Core.Datum → Prop
  | .nan => False
  | .inf _ => True
  | .fin _ c q => c < 2 ^ f.p ∧ q ≤ f.qmax
theorem okD_bound {f : FP.Core.Fmt} {s : Bool} {c : Nat} {q : Int} (hc9 : c < 2 ^ f.p) : okD f (FP.Core.bound f s c q) := by
  unfold FP.Core.bound
  by_cases h : q ≤ f.qmax
  · rw [if_pos h]; exact ⟨hc9, h⟩
  · rw [if_neg h]; exact trivial
theorem okD_rr {f : FP.Core.Fmt} {s : Bool} {num den : Nat} {e : Int} (h1 : f.tails < 2 ^ f.p) (h2 : f.qmin ≤ f.qmax) : okD f (FP.Core.roundRatio f s num den e) := by
  unfold FP.Core.roundRatio
  by_cases h : num = 0
  · rw [if_pos h]; exact ⟨Nat.lt_of_le_of_lt (Nat.zero_le _) h1, h2⟩
  · rw [if_neg h]
    unfold FP.Core.roundAt FP.Core.settle
    by_cases h3 : FP.Core.nearest (FP.Core.unitsNum num e (FP.Core.quantum f num den e)) (FP.Core.unitsDen den e (FP.Core.quantum f num den e)) < 2 ^ f.p
    · rw [if_pos h3]; exact okD_bound h3
    · rw [if_neg h3]; exact okD_bound h1
theorem f64_t : FP.Core.b64.tails = 4503599627370496 := by decide
theorem f64_e : FP.Core.b64.exps = 2048 := by decide
theorem f64_p : 2 ^ FP.Core.b64.p = 9007199254740992 := by decide
theorem f64_a : FP.Core.b64.qmin = -1074 := by decide
theorem f64_b : FP.Core.b64.qmax = 971 := by decide
theorem f32_t : FP.Core.b32.tails = 8388608 := by decide
theorem f32_e : FP.Core.b32.exps = 256 := by decide
theorem f32_p : 2 ^ FP.Core.b32.p = 16777216 := by decide
theorem f32_a : FP.Core.b32.qmin = -149 := by decide
theorem f32_b : FP.Core.b32.qmax = 104 := by decide
theorem rr64 {s : Bool} {num den : Nat} {e : Int} : okD FP.Core.b64 (FP.Core.roundRatio FP.Core.b64 s num den e) := okD_rr (by rw [f64_t, f64_p]; decide) (by rw [f64_a, f64_b]; decide)
theorem rr32 {s : Bool} {num den : Nat} {e : Int} : okD FP.Core.b32 (FP.Core.roundRatio FP.Core.b32 s num den e) := okD_rr (by rw [f32_t, f32_p]; decide) (by rw [f32_a, f32_b]; decide)
theorem tb_le (s : Bool) : s.toNat ≤ 1 := by cases s <;> decide
theorem enc64 {d : FP.Core.Datum} (h : okD FP.Core.b64 d) : FP.Core.encode FP.Core.b64 d % 9223372036854775808 ≤ 9218868437227405312 ∧ FP.Core.encode FP.Core.b64 d < 18446744073709551616 := by
  cases d with
  | nan => exact h.elim
  | inf s =>
    have := tb_le s
    unfold FP.Core.encode FP.Core.assemble
    simp only [f64_t, f64_e]
    omega
  | fin s c q =>
    obtain ⟨h1, h2⟩ := h
    rw [f64_p] at h1
    rw [f64_b] at h2
    have := tb_le s
    unfold FP.Core.encode FP.Core.assemble
    simp only [f64_t, f64_e, f64_a]
    by_cases c9 : c < 4503599627370496
    · rw [if_pos c9]; omega
    · rw [if_neg c9]; omega
theorem enc32 {d : FP.Core.Datum} (h : okD FP.Core.b32 d) : FP.Core.encode FP.Core.b32 d % 2147483648 ≤ 2139095040 ∧ FP.Core.encode FP.Core.b32 d < 4294967296 := by
  cases d with
  | nan => exact h.elim
  | inf s =>
    have := tb_le s
    unfold FP.Core.encode FP.Core.assemble
    simp only [f32_t, f32_e]
    omega
  | fin s c q =>
    obtain ⟨h1, h2⟩ := h
    rw [f32_p] at h1
    rw [f32_b] at h2
    have := tb_le s
    unfold FP.Core.encode FP.Core.assemble
    simp only [f32_t, f32_e, f32_a]
    by_cases c9 : c < 8388608
    · rw [if_pos c9]; omega
    · rw [if_neg c9]; omega
theorem dec64 {m : Nat} (h : m % 9223372036854775808 ≤ 9218868437227405312) : FP.Core.decode FP.Core.b64 m ≠ .nan := by
  unfold FP.Core.decode FP.Core.fieldE FP.Core.fieldT
  simp only [f64_t, f64_e]
  by_cases c1 : m / 4503599627370496 % 2048 = 2048 - 1
  · rw [if_pos c1, if_pos (by omega)]; exact fun z => by cases z
  · rw [if_neg c1]
    by_cases c2 : m / 4503599627370496 % 2048 = 0
    · rw [if_pos c2]; exact fun z => by cases z
    · rw [if_neg c2]; exact fun z => by cases z
theorem dec32 {m : Nat} (h : m % 2147483648 ≤ 2139095040) : FP.Core.decode FP.Core.b32 m ≠ .nan := by
  unfold FP.Core.decode FP.Core.fieldE FP.Core.fieldT
  simp only [f32_t, f32_e]
  by_cases c1 : m / 8388608 % 256 = 256 - 1
  · rw [if_pos c1, if_pos (by omega)]; exact fun z => by cases z
  · rw [if_neg c1]
    by_cases c2 : m / 8388608 % 256 = 0
    · rw [if_pos c2]; exact fun z => by cases z
    · rw [if_neg c2]; exact fun z => by cases z
theorem n64_i {x : UInt64} : n64 x = true ↔ x.toNat % 9223372036854775808 ≤ 9218868437227405312 := by
  unfold n64
  rw [decide_eq_true_iff, UInt64.le_iff_toNat_le, UInt64.toNat_and, show (0x7fffffffffffffff : UInt64).toNat = 2 ^ 63 - 1 from by decide, show (0x7ff0000000000000 : UInt64).toNat = 9218868437227405312 from by decide, Nat.and_two_pow_sub_one_eq_mod]
theorem n32_i {x : UInt32} : n32 x = true ↔ x.toNat % 2147483648 ≤ 2139095040 := by
  unfold n32
  rw [decide_eq_true_iff, UInt32.le_iff_toNat_le, UInt32.toNat_and, show (0x7fffffff : UInt32).toNat = 2 ^ 31 - 1 from by decide, show (0x7f800000 : UInt32).toNat = 2139095040 from by decide, Nat.and_two_pow_sub_one_eq_mod]
theorem en64 {d : FP.Core.Datum} (h : okD FP.Core.b64 d) : n64 (UInt64.ofNat (FP.Core.encode FP.Core.b64 d)) = true ∧ FP.Core.decode FP.Core.b64 (UInt64.ofNat (FP.Core.encode FP.Core.b64 d)).toNat ≠ .nan := by
  have h1 := enc64 h
  have h2 : (UInt64.ofNat (FP.Core.encode FP.Core.b64 d)).toNat = FP.Core.encode FP.Core.b64 d := by
    rw [UInt64.toNat_ofNat']
    exact Nat.mod_eq_of_lt h1.2
  exact ⟨n64_i.mpr (by rw [h2]; exact h1.1), dec64 (by rw [h2]; exact h1.1)⟩
theorem en32 {d : FP.Core.Datum} (h : okD FP.Core.b32 d) : n32 (UInt32.ofNat (FP.Core.encode FP.Core.b32 d)) = true ∧ FP.Core.decode FP.Core.b32 (UInt32.ofNat (FP.Core.encode FP.Core.b32 d)).toNat ≠ .nan := by
  have h1 := enc32 h
  have h2 : (UInt32.ofNat (FP.Core.encode FP.Core.b32 d)).toNat = FP.Core.encode FP.Core.b32 d := by
    rw [UInt32.toNat_ofNat']
    exact Nat.mod_eq_of_lt h1.2
  exact ⟨n32_i.mpr (by rw [h2]; exact h1.1), dec32 (by rw [h2]; exact h1.1)⟩
theorem quo_ok {f : FP.Core.Fmt} {x y : FP.Core.Datum} {t : Bool} {d : Nat} {r : Int} (hx : x ≠ .nan) (hy : y = .fin t d r) (hd : d ≠ 0) (hr : ∀ s num den e, okD f (FP.Core.roundRatio f s num den e)) : okD f (FP.Core.quotient f x y) := by
  subst hy
  cases x with
  | nan => exact absurd rfl hx
  | inf s => exact trivial
  | fin s c q =>
    show okD f (if d = 0 then (if c = 0 then .nan else .inf (s != t)) else FP.Core.roundRatio f (s != t) c d (q - r))
    rw [if_neg hd]
    exact hr _ _ _ _
def finN (d : FP.Core.Datum) : Bool := match d with
  | .fin _ d _ => d != 0
  | _ => false
theorem finN_t {d : FP.Core.Datum} (h : finN d = true) : ∃ t c r, d = .fin t c r ∧ c ≠ 0 := by
  cases d with
  | nan => cases h
  | inf s => cases h
  | fin s c q => exact ⟨s, c, q, rfl, by simpa [finN] using h⟩
theorem fin64 : ∀ i, i < 105 → ∀ j, j < 100 → finN (FP.Core.decode FP.Core.b64 (FP.Core.fromInt FP.Core.b64 ((100 * i + j + 1 : Nat) : Int) % 18446744073709551616)) = true := by decide +kernel
theorem fin32 : ∀ j, j < 168 → finN (FP.Core.decode FP.Core.b32 (FP.Core.fromInt FP.Core.b32 ((j + 1 : Nat) : Int) % 4294967296)) = true := by decide +kernel
theorem mean_n (g : Int64) {h : Int32} (h1 : 1 ≤ h.toInt ∧ h.toInt ≤ 10500) : n64 (FP.ddiv (FP.l2d g) (FP.i2d h)) = true := by
  obtain ⟨k, hk⟩ : ∃ k : Nat, h.toInt = ((100 * (k / 100) + k % 100 + 1 : Nat) : Int) ∧ k < 10500 := ⟨(h.toInt - 1).toNat, by omega, by omega⟩
  have e1 := fin64 (k / 100) (by omega) (k % 100) (by omega)
  rw [← hk.1] at e1
  have e2 : (FP.i2d h).toNat = FP.Core.fromInt FP.Core.b64 h.toInt % 18446744073709551616 := UInt64.toNat_ofNat' ..
  rw [← e2] at e1
  obtain ⟨t, c, r, e3, e4⟩ := finN_t e1
  exact (en64 (quo_ok (en64 (rr64 (s := decide (g.toInt < 0)) (num := g.toInt.natAbs) (den := 1) (e := 0))).2 e3 e4 (fun _ _ _ _ => rr64))).1
theorem share_n (g : Int32) {h : Int32} (h1 : 1 ≤ h.toInt ∧ h.toInt ≤ 168) : n32 (FP.fdiv (FP.i2f g) (FP.i2f h)) = true ∧ n64 (FP.f2d (FP.fdiv (FP.i2f g) (FP.i2f h))) = true := by
  obtain ⟨k, hk⟩ : ∃ k : Nat, h.toInt = ((k + 1 : Nat) : Int) ∧ k < 168 := ⟨(h.toInt - 1).toNat, by omega, by omega⟩
  have e1 := fin32 k hk.2
  rw [← hk.1] at e1
  have e2 : (FP.i2f h).toNat = FP.Core.fromInt FP.Core.b32 h.toInt % 4294967296 := UInt32.toNat_ofNat' ..
  rw [← e2] at e1
  obtain ⟨t, c, r, e3, e4⟩ := finN_t e1
  have e5 := en32 (quo_ok (en32 (rr32 (s := decide (g.toInt < 0)) (num := g.toInt.natAbs) (den := 1) (e := 0))).2 e3 e4 (fun _ _ _ _ => rr32))
  refine ⟨e5.1, ?_⟩
  have e9 : FP.Core.decode FP.Core.b32 (FP.fdiv (FP.i2f g) (FP.i2f h)).toNat ≠ .nan := e5.2
  have e8 : FP.f2d (FP.fdiv (FP.i2f g) (FP.i2f h)) = FP.Core.f2d (FP.fdiv (FP.i2f g) (FP.i2f h)) := by
    unfold FP.f2d
    exact if_neg (fun z => e9 (of_decide_eq_true z))
  rw [e8]
  have e6 : okD FP.Core.b64 (FP.Core.round FP.Core.b64 (FP.Core.decode FP.Core.b32 (FP.fdiv (FP.i2f g) (FP.i2f h)).toNat)) := by
    have e7 : FP.Core.decode FP.Core.b32 (FP.fdiv (FP.i2f g) (FP.i2f h)).toNat ≠ .nan := e5.2
    generalize FP.Core.decode FP.Core.b32 (FP.fdiv (FP.i2f g) (FP.i2f h)).toNat = d at e7
    cases d with
    | nan => exact absurd rfl e7
    | inf s => exact trivial
    | fin s c q => exact rr64
  exact (en64 e6).1
section OPS4
variable {bd k : Nat} {lt ls lw lh lx : RS} {zf : Nat → Int32} {qf uf tf cf : Nat → RS} {ma st : Int32} {ti sp we ho sa ca cl : Nat → Int32} {p1 : Int32}
theorem st_mean (R : RQ bd lt ls lw lh lx zf qf uf tf cf ma st ti sp we ho sa ca cl) (hp : p1.toInt = k) (hk : k < 4)  : ∃ oc r, f_X4_mean (tf k) (cf k) p1  = some oc ∧ f_X5_mean ma ti sp we ho sa p1  = some r ∧ ((∃ e, oc = .inl e ∧ (e, r.2) ∈ ([("java/lang/ArithmeticException", 2)] : List (String × Int32))) ∨ (oc = .inr r.1 ∧ r.2 = 0)) := by
  obtain ⟨n, T, S, W, Hm, X, K, kst, G, hks, old⟩ := R
  obtain ⟨ck, Q, P, L, H, C, hz, c9, hcv⟩ := old k hk
  have ok := G.1
  have Rm := G.2.2.2.2.2.2.2.1
  have h120 := Rm.1
  have eh4 := houseAt_t hp hk
  have eh5 := house_t hp hk
  have ehi := inB_t hp hk
  have ecl := clampN hp
  have hr := c9.2.2
  have hC := H.2.2.2.2.1
  obtain ⟨a, e1, e2⟩ := allBusy_s ok hr hC
  obtain ⟨b, e3, e4⟩ := busyIn_m ok Rm hp t0 tF
  obtain ⟨s, e5, e6⟩ := total_s ok hr hC
  obtain ⟨l, e7, e8⟩ := loadOf_m Rm ok hp
  have e9 := H.2.2.2.2.2
  have eab : b = a := eqI2 e4 e2 rfl
  have esl : l = s := Int64.toInt_inj.mp (by omega)
  subst eab
  subst esl
  have hn1 := bc_nn (FF n T S W (cm Hm X k)) 0 100000 10500
  have hn2 := bc_le (FF n T S W (cm Hm X k)) 0 100000 10500
  by_cases c : b = 0
  · refine ⟨.inl "java/lang/ArithmeticException", (FP.dconst0, 2), ?_, ?_, Or.inl ⟨_, rfl, by simp⟩⟩
    · simp only [tB_r, tB_l, Option.bind_some, if_neg bIt0, if_pos bI_f, thr_t, thr_f, sz_t, f_X4_mean, eh4, e1, if_pos c]
    · simp only [tB_r, tB_l, Option.bind_some, if_neg bIt0, if_pos bI_f, thr_t, thr_f, sz_t, f_X5_mean, eh5, b_X5_mean_13, e3, if_pos c, b_X5_mean_41]
  · have hne : b.toInt ≠ 0 := fun z => c (eqI2 z t0 rfl)
    have hnn := mean_n l (h := b) (by
      generalize bc (FF n T S W (cm Hm X k)) 0 100000 10500 = v at e2 e4 hn1 hn2
      omega)
    refine ⟨.inr (FP.ddiv (FP.l2d l) (FP.i2d b)), (FP.ddiv (FP.l2d l) (FP.i2d b), 0), ?_, ?_, Or.inr ⟨congrArg Sum.inr (rfl), rfl⟩⟩
    · simp only [tB_r, tB_l, Option.bind_some, if_neg bIt0, if_pos bI_f, thr_t, thr_f, sz_t, f_X4_mean, eh4, e1, if_neg c, e5, if_pos hnn]
    · simp only [tB_r, tB_l, Option.bind_some, if_neg bIt0, if_pos bI_f, thr_t, thr_f, sz_t, f_X5_mean, eh5, b_X5_mean_13, e3, if_neg c, b_X5_mean_41, e7, if_pos hnn]
theorem st_share (R : RQ bd lt ls lw lh lx zf qf uf tf cf ma st ti sp we ho sa ca cl) (hp : p1.toInt = k) (hk : k < 4)  : ∃ oc r, f_X4_share (qf k) (uf k) p1  = some oc ∧ f_X5_share ma ho sa p1  = some r ∧ ((∃ e, oc = .inl e ∧ (e, r.2) ∈ ([("java/lang/ArithmeticException", 2)] : List (String × Int32))) ∨ (oc = .inr r.1 ∧ r.2 = 0 ∧ n64 (FP.f2d r.1) = true)) := by
  obtain ⟨n, T, S, W, Hm, X, K, kst, G, hks, old⟩ := R
  obtain ⟨ck, Q, P, L, H, C, hz, c9, hcv⟩ := old k hk
  have ok := G.1
  have Rm := G.2.2.2.2.2.2.2.1
  have h120 := Rm.1
  have eh4 := houseAt_t hp hk
  have eh5 := house_t hp hk
  have ehi := inB_t hp hk
  have ecl := clampN hp
  have hr := c9.2.2
  have hC := H.2.2.2.2.1
  obtain ⟨mw, em, emt⟩ := many_s Rm hp (x := 0) t0
  rw [q_cnt H.1] at emt
  obtain ⟨mc, em2, emt2⟩ := many_s Rm hp (x := 1) t1
  rw [p_cnt H.2.2.1] at emt2
  have e1 : mw = (qf k).2 := eqI2 emt (qr_len c9.1) rfl
  have e2 : mc = (uf k).2 := eqI2 emt2 (qr_len c9.2.1) rfl
  have hQ48 := H.2.1
  have hP120 := (qr_N c9.2.1).1
  have e3 : (mc + mw).toInt = ((P.length + Q.length : Nat) : Int) := by rw [ta (by omega) (by omega)]; omega
  subst e1
  subst e2
  by_cases c : (uf k).2 + (qf k).2 = 0
  · refine ⟨.inl "java/lang/ArithmeticException", (FP.fconst0, 2), ?_, ?_, Or.inl ⟨_, rfl, by simp⟩⟩
    · simp only [tB_r, tB_l, Option.bind_some, if_neg bIt0, if_pos bI_f, thr_t, thr_f, sz_t, f_X4_share, eh4, if_pos c]
    · simp only [tB_r, tB_l, Option.bind_some, if_neg bIt0, if_pos bI_f, thr_t, thr_f, sz_t, f_X5_share, eh5, b_X5_share_13, em, em2, if_pos c, b_X5_share_46]
  · have hne : ((uf k).2 + (qf k).2).toInt ≠ 0 := fun z => c (eqI2 z t0 rfl)
    have hnn := share_n (uf k).2 (h := (uf k).2 + (qf k).2) (by omega)
    refine ⟨.inr (FP.fdiv (FP.i2f (uf k).2) (FP.i2f ((uf k).2 + (qf k).2))), (FP.fdiv (FP.i2f (uf k).2) (FP.i2f ((uf k).2 + (qf k).2)), 0), ?_, ?_, Or.inr ⟨rfl, rfl, hnn.2⟩⟩
    · simp only [tB_r, tB_l, Option.bind_some, if_neg bIt0, if_pos bI_f, thr_t, thr_f, sz_t, f_X4_share, eh4, if_neg c, if_pos hnn.1]
    · simp only [tB_r, tB_l, Option.bind_some, if_neg bIt0, if_pos bI_f, thr_t, thr_f, sz_t, f_X5_share, eh5, b_X5_share_13, em, em2, if_neg c, b_X5_share_46, if_pos hnn.1]
end OPS4
