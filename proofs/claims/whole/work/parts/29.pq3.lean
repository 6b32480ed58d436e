/-! spans, free times: the class's and the reference's -/
section Q3
variable {n : Nat} {T S W : Nat → Nat} {C : Nat → Bool} {t c : RS} {L A B : CL} {p : Int × Int} {v : Int32}
theorem app_ne (A B : CL) (p : Int × Int) : (A ++ p :: B) ≠ A := fun z => by
  have := congrArg List.length z
  simp at this
theorem end_s (ok : okB n T S W) (hr : rpC t c (A ++ p :: B)) (h : canon n T S W C (A ++ p :: B)) (h0 : tot A = 0) (hv : v.toInt = ((A.length : Nat) : Int)) : ∃ r, f_X0_endOfSpan t c v = some r ∧ idOf (FF n T S W C) p.1 r.toInt := by
  have hl := rpC_len hr
  refine lpL (L := A ++ p :: B) (fun F (a : Int32) v => l_X0_endOfSpan_4 t c F a v) (fun A' B' a => a.toInt = tot A' ∧ (A' = A ∨ tot A' ≠ 0) ∧ p.1 ≤ nx B' ∧ ∀ y, p.1 ≤ y → y < nx B' → FF n T S W C y ≠ 0) (fun o => ∃ r, o = some r ∧ idOf (FF n T S W C) p.1 r.toInt) hl ?_ ?_ (p :: B) A FU 0 v rfl hv (by rw [List.length_append] at hl; show _ < 1000000; omega) ⟨by rw [t0, h0], Or.inl rfl, by simp only [nx]; omega, fun y h1 h2 => by simp only [nx] at h2; have := (sg_nx ok h).1; omega⟩
  · rintro F a v h4 ⟨i1, i2, -⟩
    exfalso
    rcases i2 with e | e
    · exact app_ne A B p e
    · exact e (sg_end ok h)
  · rintro F a v A' p' B' e h4 ⟨i1, i2, i3, i4⟩
    show (∃ a' : Int32, l_X0_endOfSpan_4 t c (F + 1) a v = l_X0_endOfSpan_4 t c F a' (v + 1) ∧ _) ∨ ∃ r, l_X0_endOfSpan_4 t c (F + 1) a v = some r ∧ _
    have hr' := hr
    have h' := h
    rw [e] at hr' h'
    obtain ⟨n1, n2, n3, n4, n5⟩ := now_t ok hr' h' i1
    obtain ⟨g1, g2, g3, g4, g5⟩ := sg_nx ok h'
    have enx : (nx (p' :: B') : Int) = p'.1 := by simp only [nx]; omega
    rw [enx] at i3 i4
    rw [l_X0_endOfSpan_4, sz_t]
    simp only [Option.bind_some]
    rw [if_neg (sz_in hr' h4), rpC_c hr' h4]
    simp only [Option.bind_some]
    by_cases hz : tot A' + p'.2 = 0
    · rw [if_pos (eqI2 n1 t0 hz), rpC_t hr' h4]
      refine Or.inr ⟨_, rfl, ?_⟩
      rw [rpC_1 hr']
      exact ⟨i3, by rw [g5 p'.1 (by omega) g2]; exact hz, i4⟩
    · rw [if_neg (neI n1 t0 hz)]
      refine Or.inl ⟨_, rfl, by rw [tot_app]; exact n1, Or.inr (by rw [tot_app]; exact hz), by omega, fun y h1 h2 => ?_⟩
      by_cases c1 : y < p'.1
      · exact i4 y h1 c1
      · rw [g5 y (by omega) h2]; exact hz
theorem highSpan_s (ok : okB n T S W) (hr : rpC t c (A ++ p :: B)) (h : canon n T S W C (A ++ p :: B)) (h0 : tot A = 0) (hv : v.toInt = ((A.length : Nat) : Int)) : ∃ (r : Int32) (e : Int), f_X0_highestOfSpan t c v = some r ∧ idOf (FF n T S W C) p.1 e ∧ upOf (fun z => ∃ y, p.1 ≤ y ∧ y < e ∧ z = FF n T S W C y) r.toInt := by
  have hl := rpC_len hr
  have H := lpL (L := A ++ p :: B) (fun F (a : Int32 × Int32) v => l_X0_highestOfSpan_7 t c F a.1 a.2 v) (fun A' B' a => a.1.toInt = tot A' ∧ (A' = A ∨ tot A' ≠ 0) ∧ p.1 ≤ nx B' ∧ (∀ y, p.1 ≤ y → y < nx B' → FF n T S W C y ≠ 0) ∧ upOf (fun z => ∃ y, p.1 ≤ y ∧ y < nx B' ∧ z = FF n T S W C y) a.2.toInt) (fun o => ∃ (r : Int32) (e : Int), o = some r ∧ idOf (FF n T S W C) p.1 e ∧ upOf (fun z => ∃ y, p.1 ≤ y ∧ y < e ∧ z = FF n T S W C y) r.toInt) hl ?_ ?_ (p :: B) A FU (0, 0) v rfl hv (by rw [List.length_append] at hl; show _ < 1000000; omega) ⟨by show (0 : Int32).toInt = _; rw [t0, h0], Or.inl rfl, by simp only [nx]; omega, fun y h1 h2 => by simp only [nx] at h2; have := (sg_nx ok h).1; omega, ⟨fun z ⟨y, h1, h2, _⟩ => by simp only [nx] at h2; have := (sg_nx ok h).1; omega, by show 0 ≤ (0 : Int32).toInt; rw [t0]; omega, Or.inl t0⟩⟩
  · exact H
  · rintro F a v h4 ⟨i1, i2, -⟩
    exfalso
    rcases i2 with e | e
    · exact app_ne A B p e
    · exact e (sg_end ok h)
  · rintro F a v A' p' B' e h4 ⟨i1, i2, i3, i4, i5⟩
    show (∃ a' : Int32 × Int32, l_X0_highestOfSpan_7 t c (F + 1) a.1 a.2 v = l_X0_highestOfSpan_7 t c F a'.1 a'.2 (v + 1) ∧ _) ∨ ∃ (r : Int32) (e : Int), l_X0_highestOfSpan_7 t c (F + 1) a.1 a.2 v = some r ∧ _
    have hr' := hr
    have h' := h
    rw [e] at hr' h'
    obtain ⟨n1, n2, n3, n4, n5⟩ := now_t ok hr' h' i1
    obtain ⟨g1, g2, g3, g4, g5⟩ := sg_nx ok h'
    have enx : (nx (p' :: B') : Int) = p'.1 := by simp only [nx]; omega
    rw [enx] at i3 i4 i5
    rw [l_X0_highestOfSpan_7, sz_t]
    simp only [Option.bind_some]
    rw [if_neg (sz_in hr' h4), rpC_c hr' h4]
    simp only [Option.bind_some]
    by_cases hz : tot A' + p'.2 = 0
    · rw [if_pos (eqI2 n1 t0 hz)]
      exact Or.inr ⟨_, p'.1, rfl, ⟨i3, by rw [g5 p'.1 (by omega) g2]; exact hz, i4⟩, i5⟩
    · rw [if_neg (neI n1 t0 hz)]
      refine Or.inl ⟨(_, _), rfl, by rw [tot_app]; exact n1, Or.inr (by rw [tot_app]; exact hz), by omega, fun y h1 h2 => ?_, ?_⟩
      · by_cases c1 : y < p'.1
        · exact i4 y h1 c1
        · rw [g5 y (by omega) h2]; exact hz
      · show upOf _ (if a.2 < a.1 + iz p'.2 then a.1 + iz p'.2 else a.2).toInt
        rw [ifmax rfl n1]
        obtain ⟨u1, u2, u3⟩ := i5
        refine ⟨fun z ⟨y, h1, h2, h3⟩ => ?_, by omega, ?_⟩
        · by_cases c1 : y < p'.1
          · have := u1 z ⟨y, h1, c1, h3⟩; omega
          · rw [g5 y (by omega) h2] at h3; omega
        · by_cases c1 : a.2.toInt < tot A' + p'.2
          · exact Or.inr ⟨p'.1, i3, g2, by rw [g5 p'.1 (by omega) g2]; omega⟩
          · rcases u3 with u3 | ⟨y, h1, h2, h3⟩
            · exact Or.inl (by omega)
            · exact Or.inr ⟨y, h1, by omega, by omega⟩
/-- the first time from one on with many free times behind it -/
def frOf (F : Int → Int) (x m v : Int) : Prop := x ≤ v ∧ (∀ y, v ≤ y → y < v + m → F y = 0) ∧ ∀ s, x ≤ s → s < v → ∃ y, s ≤ y ∧ y < s + m ∧ F y ≠ 0
theorem fr_one {F : Int → Int} {x m v w : Int} (h : frOf F x m v) (h' : frOf F x m w) : v = w := by
  obtain ⟨a1, a2, a3⟩ := h
  obtain ⟨b1, b2, b3⟩ := h'
  by_cases c : v < w
  · obtain ⟨y, h1, h2, h3⟩ := b3 v a1 c
    exact absurd (a2 y h1 h2) h3
  · by_cases c2 : w < v
    · obtain ⟨y, h1, h2, h3⟩ := a3 w b1 c2
      exact absurd (b2 y h1 h2) h3
    · omega
theorem freeFrom_s (ok : okB n T S W) (hr : rpC t c L) (h : canon n T S W C L) {v1 v2 : Int32} {x m : Int} (h1 : v1.toInt = x) (h2 : v2.toInt = m) (hx : 0 ≤ x ∧ x ≤ 20000) (hm : 1 ≤ m ∧ m ≤ 500) : ∃ r, f_X0_freeFrom t c v1 v2 = some r ∧ frOf (FF n T S W C) x m r.toInt := by
  have hl := rpC_len hr
  refine lpL (L := L) (fun F (a : Int32 × Int32) v => l_X0_freeFrom_8 t c v2 F a.1 a.2 v) (fun A B a => a.1.toInt = tot A ∧ (x ≤ a.2.toInt ∧ a.2.toInt ≤ 20000) ∧ (∀ y, a.2.toInt ≤ y → y < a.2.toInt + m → y < nx B → FF n T S W C y = 0) ∧ ∀ s, x ≤ s → s < a.2.toInt → ∃ y, s ≤ y ∧ y < s + m ∧ FF n T S W C y ≠ 0) (fun o => ∃ r, o = some r ∧ frOf (FF n T S W C) x m r.toInt) hl ?_ ?_ L [] FU (0, v1) 0 rfl t0 (by show _ < 1000000; omega) ⟨t0, by show x ≤ v1.toInt ∧ v1.toInt ≤ 20000; omega, fun y _ _ h3 => sg_lo ok h y h3, fun s h3 h4 => by have h4 : s < v1.toInt := h4; omega⟩
  · rintro F a v h4 ⟨i1, i2, i3, i4⟩
    show ∃ r, l_X0_freeFrom_8 t c v2 (F + 1) a.1 a.2 v = some r ∧ _
    rw [l_X0_freeFrom_8, sz_t]
    simp only [Option.bind_some]
    rw [if_pos (sz_end hr h4)]
    refine ⟨_, rfl, i2.1, fun y h5 h6 => ?_, i4⟩
    by_cases c1 : y < 10500
    · exact i3 y h5 h6 c1
    · exact FF_out (fun b hb => (ok.2 b hb).1) (fun b hb => (ok.2 b hb).2.1) (Or.inr (by omega))
  · rintro F a v A p B e h4 ⟨i1, i2, i3, i4⟩
    subst e
    refine Or.inl ?_
    show ∃ a' : Int32 × Int32, l_X0_freeFrom_8 t c v2 (F + 1) a.1 a.2 v = l_X0_freeFrom_8 t c v2 F a'.1 a'.2 (v + 1) ∧ _
    obtain ⟨w, ew, hw⟩ := nxt_get hr h4
    obtain ⟨n1, n2, n3, n4, n5⟩ := now_t ok hr h i1
    obtain ⟨g1, g2, g3, g4, g5⟩ := sg_nx ok h
    have enx : (nx (p :: B) : Int) = p.1 := by simp only [nx]; omega
    rw [enx] at i3
    rw [l_X0_freeFrom_8, sz_t]
    simp only [Option.bind_some]
    rw [if_neg (sz_in hr h4), rpC_c hr h4, rpC_t hr h4, ew]
    simp only [Option.bind_some]
    by_cases hz : tot A + p.2 = 0
    · rw [if_pos (eqI2 n1 t0 hz)]
      refine ⟨(_, a.2), rfl, by rw [tot_app]; exact n1, i2, fun y h5 h6 h7 => ?_, i4⟩
      by_cases c1 : y < p.1
      · exact i3 y h5 h6 c1
      · rw [g5 y (by omega) h7]; exact hz
    · rw [if_neg (neI n1 t0 hz)]
      obtain ⟨q, B', rfl⟩ := last_0 ok h hz
      have hw2 := hw q B' rfl
      have bq := (canon_b ok h (p := q) (by simp)).1
      have eq1 : (nx (q :: B') : Int) = q.1 := by simp only [nx]; omega
      rw [eq1] at g2 g5
      have es : (a.2 + v2).toInt = a.2.toInt + m := by rw [ta (by omega) (by omega), h2]
      by_cases c1 : a.2.toInt + m ≤ p.1
      · rw [if_pos (leI es (rpC_1 hr) c1)]
        refine ⟨(_, a.2), rfl, by rw [tot_app]; exact n1, i2, fun y h5 h6 _ => i3 y h5 h6 (by have h6 : y < a.2.toInt + m := h6; omega), i4⟩
      · rw [if_neg (nleI es (rpC_1 hr) (by omega))]
        have em : (if a.2 < w then w else a.2).toInt = max a.2.toInt q.1 := ifmax rfl hw2
        refine ⟨(_, _), rfl, by rw [tot_app]; exact n1, ?_, ?_, ?_⟩
        · show x ≤ (if a.2 < w then w else a.2).toInt ∧ (if a.2 < w then w else a.2).toInt ≤ 20000
          rw [em]; omega
        · intro y h5 h6 h7
          have h5 : (if a.2 < w then w else a.2).toInt ≤ y := h5
          rw [em] at h5
          rw [eq1] at h7
          omega
        · intro s h5 h6
          have h6 : s < (if a.2 < w then w else a.2).toInt := h6
          rw [em] at h6
          by_cases c2 : s < a.2.toInt
          · exact i4 s h5 c2
          · by_cases c3 : s ≤ p.1
            · exact ⟨p.1, c3, by omega, by rw [g5 p.1 (by omega) g2]; exact hz⟩
            · exact ⟨s, by omega, by omega, by rw [g5 s (by omega) (by omega)]; exact hz⟩
/-- one that has the latest begin -/
theorem ex_max {P : Nat → Prop} {f : Nat → Nat} : ∀ {n : Nat}, (∃ b, b < n ∧ P b) → ∃ b, b < n ∧ P b ∧ ∀ d, d < n → P d → f d ≤ f b := by
  intro n
  induction n with
  | zero => rintro ⟨b, hb, _⟩; omega
  | succ n ih =>
    rintro ⟨b, hb, hp⟩
    by_cases c1 : ∃ b, b < n ∧ P b
    · obtain ⟨b1, h1, h2, h3⟩ := ih c1
      by_cases c2 : P n ∧ f b1 < f n
      · refine ⟨n, by omega, c2.1, fun d hd hpd => ?_⟩
        rcases lt_so hd with hd | rfl
        · have := h3 d hd hpd; omega
        · exact Nat.le_refl _
      · refine ⟨b1, by omega, h2, fun d hd hpd => ?_⟩
        rcases lt_so hd with hd | rfl
        · exact h3 d hd hpd
        · by_cases c3 : f b1 < f d
          · exact absurd ⟨hpd, c3⟩ c2
          · omega
    · have hbn : b = n := by
        rcases lt_so hb with hb | rfl
        · exact absurd ⟨b, hb, hp⟩ c1
        · rfl
      subst hbn
      refine ⟨b, by omega, hp, fun d hd hpd => ?_⟩
      rcases lt_so hd with hd | rfl
      · exact absurd ⟨d, hd, hpd⟩ c1
      · exact Nat.le_refl _
theorem peak {y : Int} (hy : FF n T S W C y ≠ 0) : ∃ b, b < n ∧ C b = true ∧ (T b : Int) ≤ y ∧ y < T b + S b ∧ FF n T S W C y ≤ FF n T S W C (T b) := by
  obtain ⟨b0, h1, h2, h3, h4⟩ := FF_pos hy
  obtain ⟨b, hb, ⟨p1, p2, p3⟩, hm⟩ := ex_max (P := fun b => C b = true ∧ (T b : Int) ≤ y ∧ y < T b + S b) (f := T) ⟨b0, h1, h2, h3, h4⟩
  refine ⟨b, hb, p1, p2, p3, sm_le (fun d hd => ?_)⟩
  by_cases c1 : C d = true
  · rw [if_pos c1, if_pos c1]
    unfold gb
    by_cases c2 : (T d : Int) ≤ y ∧ y < T d + S d
    · have := hm d hd ⟨c1, c2⟩
      rw [if_pos c2, if_pos (by omega)]; exact Int.le_refl _
    · rw [if_neg c2]
      split <;> omega
  · rw [if_neg c1, if_neg c1]; exact Int.le_refl _
end Q3
section M3
variable {n : Nat} {T S W Hm X : Nat → Nat} {ma : Int32} {ti sp we ho sa : Nat → Int32} {v1 : Int32} {h : Nat}
theorem FF_far (ok : okB n T S W) {C : Nat → Bool} {y : Int} (hy : 10499 ≤ y) : FF n T S W C y = 0 :=
  FF_out (fun b hb => (ok.2 b hb).1) (fun b hb => (ok.2 b hb).2.1) (Or.inr hy)
theorem FF_neg (ok : okB n T S W) {C : Nat → Bool} {y : Int} (hy : y < 0) : FF n T S W C y = 0 :=
  FF_out (fun b hb => (ok.2 b hb).1) (fun b hb => (ok.2 b hb).2.1) (Or.inl hy)
/-- where a loop over the busy spans stands -/
def atS (F : Int → Int) (v : Int) : Prop := v = 100000 ∨ (0 ≤ v ∧ v < 10500 ∧ F v ≠ 0 ∧ F (v - 1) = 0)
theorem at_first (ok : okB n T S W) (R : mR n T S W Hm X ma ti sp we ho sa) (hv : v1.toInt = h) : ∃ r, f_X5_busyFrom ma ti sp we ho sa v1 0 = some r ∧ atS (FF n T S W (cm Hm X h)) r.toInt ∧ ∀ y, y < r.toInt → FF n T S W (cm Hm X h) y = 0 := by
  obtain ⟨r, e, l1, l2⟩ := busyFrom_m R ok hv (v2 := 0) t0
  have z : ∀ y, y < r.toInt → FF n T S W (cm Hm X h) y = 0 := by
    intro y hy
    by_cases c1 : y < 0
    · exact FF_neg ok c1
    · by_cases c2 : FF n T S W (cm Hm X h) y = 0
      · exact c2
      · have := l1 y ⟨by omega, c2⟩; omega
  refine ⟨r, e, ?_, z⟩
  rcases l2 with l2 | ⟨l2, l3⟩
  · exact Or.inl l2
  · refine Or.inr ⟨l2, ?_, l3, z _ (by omega)⟩
    by_cases c1 : r.toInt < 10500
    · exact c1
    · exact absurd (FF_far ok (by omega)) l3
/-- one span on -/
theorem at_next (ok : okB n T S W) (R : mR n T S W Hm X ma ti sp we ho sa) (hv : v1.toInt = h) {v : Int32} (ha : atS (FF n T S W (cm Hm X h)) v.toInt) (hf : v.toInt ≠ 100000) : ∃ g r, f_X5_idleFrom ma ti sp we ho sa v1 v = some g ∧ f_X5_busyFrom ma ti sp we ho sa v1 g = some r ∧ idOf (FF n T S W (cm Hm X h)) v.toInt g.toInt ∧ v.toInt < g.toInt ∧ g.toInt < 10500 ∧ g.toInt < r.toInt ∧ atS (FF n T S W (cm Hm X h)) r.toInt ∧ ∀ y, g.toInt ≤ y → y < r.toInt → FF n T S W (cm Hm X h) y = 0 := by
  rcases ha with ha | ⟨a1, a2, a3, a4⟩
  · exact absurd ha hf
  obtain ⟨g, eg, i⟩ := idleFrom_s R ok hv (v3 := v) rfl a1
  obtain ⟨r, e, l1, l2⟩ := busyFrom_m R ok hv (v2 := g) rfl
  have z : ∀ y, g.toInt ≤ y → y < r.toInt → FF n T S W (cm Hm X h) y = 0 := by
    intro y h1 hy
    by_cases c2 : FF n T S W (cm Hm X h) y = 0
    · exact c2
    · have := l1 y ⟨h1, c2⟩; omega
  obtain ⟨i1, i2, i3⟩ := i
  have lt1 : v.toInt < g.toInt := by
    by_cases c1 : v.toInt = g.toInt
    · rw [c1] at a3; exact absurd i2 a3
    · omega
  have lt2 : g.toInt < 10500 := by
    by_cases c1 : g.toInt < 10500
    · exact c1
    · exact absurd (FF_far ok (y := 10499) (Int.le_refl _)) (i3 10499 (by omega) (by omega))
  have lt3 : g.toInt < r.toInt := by
    rcases l2 with l2 | ⟨l2, l3⟩
    · omega
    · by_cases c1 : g.toInt = r.toInt
      · rw [c1] at i2; exact absurd i2 l3
      · omega
  refine ⟨g, r, eg, e, ⟨i1, i2, i3⟩, lt1, lt2, lt3, ?_, z⟩
  rcases l2 with l2 | ⟨l2, l3⟩
  · exact Or.inl l2
  · refine Or.inr ⟨by omega, ?_, l3, z _ (by omega) (by omega)⟩
    by_cases c1 : r.toInt < 10500
    · exact c1
    · exact absurd (FF_far ok (by omega)) l3
theorem far_bc (ok : okB n T S W) {C : Nat → Bool} (x y : Int) {k : Nat} (hk : 10500 ≤ k) : bc (FF n T S W C) x y k = bc (FF n T S W C) x y 10500 :=
  bc_0 hk (fun j h1 _ => FF_far ok (by omega))
theorem far_sc (ok : okB n T S W) {C : Nat → Bool} {k : Nat} (hk : 10500 ≤ k) : sc (FF n T S W C) k = sc (FF n T S W C) 10500 :=
  sc_0 hk (fun j h1 _ z => z.1 (FF_far ok (by omega)))
theorem busyIn_m (ok : okB n T S W) (R : mR n T S W Hm X ma ti sp we ho sa) (hv : v1.toInt = h) {v2 v3 : Int32} {x y : Int} (h2 : v2.toInt = x) (h3 : v3.toInt = y) : ∃ r, f_X5_busyIn ma ti sp we ho sa v1 v2 v3 = some r ∧ r.toInt = bc (FF n T S W (cm Hm X h)) x y 10500 := by
  have key : ∀ (F : Nat) (v4 v5 : Int32), atS (FF n T S W (cm Hm X h)) v5.toInt → v4.toInt = bc (FF n T S W (cm Hm X h)) x y v5.toInt.toNat → (100000 - v5.toInt).toNat < F → ∃ r, l_X5_busyIn_11 ma ti sp we ho sa v1 v2 v3 F v4 v5 = some r ∧ r.toInt = bc (FF n T S W (cm Hm X h)) x y 10500 := by
    intro F
    induction F with
    | zero => intro v4 v5 _ _ hF; omega
    | succ F ih =>
      intro v4 v5 ha hb hF
      rw [l_X5_busyIn_11]
      by_cases c1 : v5.toInt = 100000
      · rw [if_pos (leI tF rfl (by omega))]
        exact ⟨v4, rfl, by rw [hb, far_bc ok x y (by omega)]⟩
      · have hlt : v5.toInt < 100000 := by
          rcases ha with ha | ha
          · omega
          · omega
        rw [if_neg (nleI tF rfl hlt)]
        obtain ⟨g, r, eg, er, i, l1, l2, l3, ha2, z⟩ := at_next ok R hv ha c1
        have h0 : 0 ≤ v5.toInt := by
          rcases ha with ha | ha
          · omega
          · omega
        have sg1 := bc_1 (F := FF n T S W (cm Hm X h)) (x := x) (y := y) (a := v5.toInt.toNat) (b := g.toInt.toNat) (by omega) (fun j h1 h2 => i.2.2 j (by omega) (by omega))
        have sg2 := bc_0 (F := FF n T S W (cm Hm X h)) (x := x) (y := y) (a := g.toInt.toNat) (b := r.toInt.toNat) (by omega) (fun j h1 h2 => z j (by omega) (by omega))
        have bd := bc_nn (FF n T S W (cm Hm X h)) x y v5.toInt.toNat
        have bd2 := bc_le (FF n T S W (cm Hm X h)) x y v5.toInt.toNat
        have fin : ∀ (s0 v7 : Int32), s0.toInt = min g.toInt y → v7.toInt = max v5.toInt x → ∃ r, b_X5_busyIn_53 ma ti sp we ho sa (fun qv4 qv5 => l_X5_busyIn_11 ma ti sp we ho sa v1 v2 v3 F qv4 qv5) v1 v2 v3 v4 g v7 s0 = some r ∧ r.toInt = bc (FF n T S W (cm Hm X h)) x y 10500 := by
          intro s0 v7 e1 e2
          unfold b_X5_busyIn_53 b_X5_busyIn_73
          rw [er]
          simp only [Option.bind_some]
          by_cases c2 : min g.toInt y ≤ max v5.toInt x
          · rw [if_pos (leI e1 e2 c2)]
            refine ih _ r ha2 ?_ (by omega)
            rw [ta (by rw [t0]; omega) (by rw [t0]; omega), t0, sg2, sg1]; omega
          · rw [if_neg (nleI e1 e2 (by omega))]
            refine ih _ r ha2 ?_ (by omega)
            have e3 : (s0 - v7).toInt = min g.toInt y - max v5.toInt x := by rw [tb (by omega) (by omega), e1, e2]
            rw [ta (by omega) (by omega), e3, sg2, sg1]; omega
        rw [eg]
        simp only [Option.bind_some]
        by_cases c2 : x ≤ v5.toInt
        · rw [if_pos (leI h2 rfl c2)]
          by_cases c3 : y ≤ g.toInt
          · rw [if_pos (leI h3 rfl c3)]
            exact fin v3 v5 (by omega) (by omega)
          · rw [if_neg (nleI h3 rfl (by omega))]
            exact fin g v5 (by omega) (by omega)
        · rw [if_neg (nleI h2 rfl (by omega))]
          by_cases c3 : y ≤ g.toInt
          · rw [if_pos (leI h3 rfl c3)]
            exact fin v3 v2 (by omega) (by omega)
          · rw [if_neg (nleI h3 rfl (by omega))]
            exact fin g v2 (by omega) (by omega)
  obtain ⟨r, e, ha, z⟩ := at_first ok R hv
  unfold f_X5_busyIn
  rw [e]
  simp only [Option.bind_some]
  have h0 : 0 ≤ r.toInt := by
    rcases ha with ha | ha
    · omega
    · omega
  refine key FU 0 r ha ?_ (by show _ < 1000000; omega)
  rw [t0, bc_0 (a := 0) (Nat.zero_le _) (fun j _ h2 => z j (by omega)), bc_z]
/-- the spans that begin ahead of where it stands -/
theorem sc_next (ok : okB n T S W) {F : Int → Int} {v g r : Int} (ha : atS F v) (hf : v ≠ 100000) (i : idOf F v g) (l1 : v < g) (l3 : g < r) (z : ∀ y, g ≤ y → y < r → F y = 0) : sc F r.toNat = sc F v.toNat + 1 := by
  rcases ha with ha | ⟨a1, a2, a3, a4⟩
  · exact absurd ha hf
  have e : ((v.toNat : Nat) : Int) = v := by omega
  rw [← sc_1 (a := v.toNat) (by rw [e]; exact ⟨a3, a4⟩)]
  refine sc_0 (by omega) (fun j h1 h2 q => ?_)
  by_cases c1 : (j : Int) < g
  · exact i.2.2 ((j : Int) - 1) (by omega) (by omega) q.2
  · exact q.1 (z j (by omega) (by omega))
theorem spans_l (ok : okB n T S W) (R : mR n T S W Hm X ma ti sp we ho sa) (hv : v1.toInt = h) (thc : Int32) : ∀ (F : Nat) (v2 v3 : Int32), atS (FF n T S W (cm Hm X h)) v3.toInt → v2.toInt = sc (FF n T S W (cm Hm X h)) v3.toInt.toNat → (100000 - v3.toInt).toNat < F → ∃ r, l_X5_spans_31 ma ti sp we ho sa v1 thc F v2 v3 = some (r, thc) ∧ r.toInt = sc (FF n T S W (cm Hm X h)) 10500 := by
  intro F
  induction F with
  | zero => intro v4 v5 _ _ hF; omega
  | succ F ih =>
    intro v2 v3 ha hb hF
    rw [l_X5_spans_31]
    by_cases c1 : v3.toInt = 100000
    · rw [if_pos (leI tF rfl (by omega))]
      exact ⟨v2, rfl, by rw [hb, far_sc ok (by omega)]⟩
    · have hlt : v3.toInt < 100000 := by
        rcases ha with ha | ha
        · omega
        · omega
      rw [if_neg (nleI tF rfl hlt)]
      obtain ⟨g, r, eg, er, i, l1, l2, l3, ha2, z⟩ := at_next ok R hv ha c1
      rw [eg]
      simp only [Option.bind_some]
      rw [er]
      simp only [Option.bind_some]
      have s := sc_next ok ha c1 i l1 l3 z
      have bd := sc_nn (FF n T S W (cm Hm X h)) v3.toInt.toNat
      have bd2 := sc_le (FF n T S W (cm Hm X h)) v3.toInt.toNat
      refine ih _ r ha2 ?_ (by omega)
      rw [ta (by rw [t1]; omega) (by rw [t1]; omega), t1, s, hb]
theorem span_l (ok : okB n T S W) (R : mR n T S W Hm X ma ti sp we ho sa) (hv : v1.toInt = h) {v2 : Int32} {x : Int} (h2 : v2.toInt = x) (v3 thc : Int32) : ∀ (F : Nat) (v4 v5 : Int32), atS (FF n T S W (cm Hm X h)) v4.toInt → v5.toInt = sc (FF n T S W (cm Hm X h)) v4.toInt.toNat → (v4.toInt = 100000 ∨ True) → (100000 - v4.toInt).toNat < F → (v5.toInt ≤ x ∨ v5.toInt = 0) → ∃ r : Int32, l_X5_span_64 ma ti sp we ho sa v1 v2 v3 thc F v4 v5 = b_X5_span_97 ma ti sp we ho sa v1 v2 v3 r thc ∧ atS (FF n T S W (cm Hm X h)) r.toInt ∧ (x < 0 ∨ (r.toInt = 100000 ∧ sc (FF n T S W (cm Hm X h)) 10500 ≤ x) ∨ (r.toInt ≠ 100000 ∧ sc (FF n T S W (cm Hm X h)) r.toInt.toNat = x)) := by
  intro F
  induction F with
  | zero => intro v4 v5 _ _ _ hF; omega
  | succ F ih =>
    intro v4 v5 ha hb _ hF hx
    have bd := sc_nn (FF n T S W (cm Hm X h)) v4.toInt.toNat
    have bd2 := sc_le (FF n T S W (cm Hm X h)) v4.toInt.toNat
    rw [l_X5_span_64]
    by_cases c0 : x ≤ v5.toInt
    · rw [if_pos (leI h2 rfl c0)]
      refine ⟨v4, rfl, ha, ?_⟩
      by_cases c1 : x < 0
      · exact Or.inl c1
      · by_cases c2 : v4.toInt = 100000
        · refine Or.inr (Or.inl ⟨c2, ?_⟩)
          rw [← far_sc ok (k := v4.toInt.toNat) (by omega)]; omega
        · exact Or.inr (Or.inr ⟨c2, by omega⟩)
    · rw [if_neg (nleI h2 rfl (by omega))]
      by_cases c1 : v4.toInt = 100000
      · rw [if_pos (leI tF rfl (by omega))]
        refine ⟨v4, rfl, ha, Or.inr (Or.inl ⟨c1, ?_⟩)⟩
        rw [← far_sc ok (k := v4.toInt.toNat) (by omega)]; omega
      · have hlt : v4.toInt < 100000 := by
          rcases ha with ha | ha
          · omega
          · omega
        rw [if_neg (nleI tF rfl hlt)]
        obtain ⟨g, r, eg, er, i, l1, l2, l3, ha2, z⟩ := at_next ok R hv ha c1
        rw [eg]
        simp only [Option.bind_some]
        rw [er]
        simp only [Option.bind_some]
        have s := sc_next ok ha c1 i l1 l3 z
        have e5 : (v5 + 1).toInt = v5.toInt + 1 := by rw [ta (by rw [t1]; omega) (by rw [t1]; omega), t1]
        exact ih r (v5 + 1) ha2 (by rw [e5, s, hb]) (Or.inr trivial) (by omega) (Or.inl (by omega))
theorem free_l (ok : okB n T S W) (R : mR n T S W Hm X ma ti sp we ho sa) (hv : v1.toInt = h) {v3 : Int32} {x m : Int} (h3 : v3.toInt = m) (hx : 0 ≤ x ∧ x ≤ 20000) (hm : 1 ≤ m ∧ m ≤ 500) (thc : Int32) : ∀ (F : Nat) (v4 v5 : Int32), (x ≤ v4.toInt ∧ v4.toInt ≤ 20000) → lowOf (fun y => v4.toInt ≤ y ∧ FF n T S W (cm Hm X h) y ≠ 0) v5.toInt → (∀ s, x ≤ s → s < v4.toInt → ∃ y, s ≤ y ∧ y < s + m ∧ FF n T S W (cm Hm X h) y ≠ 0) → (100000 - v5.toInt).toNat < F → ∃ r, l_X5_free_69 ma ti sp we ho sa v1 v3 thc F v4 v5 = some (r, thc) ∧ frOf (FF n T S W (cm Hm X h)) x m r.toInt := by
  intro F
  induction F with
  | zero => intro v4 v5 _ _ _ hF; omega
  | succ F ih =>
    intro v4 v5 hb ⟨l1, l2⟩ hbad hF
    rw [l_X5_free_69]
    have hr5 : 0 ≤ v5.toInt ∧ v5.toInt ≤ 100000 := by
      rcases l2 with l2 | ⟨l2, l3⟩
      · omega
      · by_cases c1 : v5.toInt < 10500
        · omega
        · exact absurd (FF_far ok (by omega)) l3
    have es : (v5 - v4).toInt = v5.toInt - v4.toInt := tb (by omega) (by omega)
    by_cases c1 : m ≤ v5.toInt - v4.toInt
    · rw [if_pos (leI h3 es c1)]
      refine ⟨v4, rfl, hb.1, fun y h1 h2 => ?_, hbad⟩
      by_cases c2 : FF n T S W (cm Hm X h) y = 0
      · exact c2
      · have := l1 y ⟨h1, c2⟩; omega
    · rw [if_neg (nleI h3 es (by omega))]
      have l4 : v4.toInt ≤ v5.toInt ∧ FF n T S W (cm Hm X h) v5.toInt ≠ 0 := by
        rcases l2 with l2 | l2
        · omega
        · exact l2
      obtain ⟨g, eg, i1, i2, i3⟩ := idleFrom_s R ok hv (v3 := v5) rfl hr5.1
      obtain ⟨r, er, k1, k2⟩ := busyFrom_m R ok hv (v2 := g) rfl
      have lt1 : v5.toInt < g.toInt := by
        by_cases c2 : v5.toInt = g.toInt
        · rw [c2] at l4; exact absurd i2 l4.2
        · omega
      have lt2 : g.toInt < 10500 := by
        by_cases c2 : g.toInt < 10500
        · exact c2
        · by_cases c3 : v5.toInt < 10500
          · exact absurd (FF_far ok (y := 10499) (Int.le_refl _)) (i3 10499 (by omega) (by omega))
          · exact absurd (FF_far ok (by omega)) l4.2
      rw [eg]
      simp only [Option.bind_some]
      rw [er]
      simp only [Option.bind_some]
      have lt3 : g.toInt ≤ r.toInt := by
        rcases k2 with k2 | k2
        · omega
        · exact k2.1
      refine ih g r (by omega) ⟨k1, k2⟩ (fun s h1 h2 => ?_) (by omega)
      by_cases c2 : s < v4.toInt
      · exact hbad s h1 c2
      · by_cases c3 : s ≤ v5.toInt
        · exact ⟨v5.toInt, c3, by omega, l4.2⟩
        · exact ⟨s, by omega, by omega, i3 s (by omega) (by omega)⟩
end M3
