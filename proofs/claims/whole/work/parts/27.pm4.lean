/-! the reference's crowd -/
theorem ta6 {a b : Int64} (h1 : -4611686018427387904 ≤ a.toInt + b.toInt) (h2 : a.toInt + b.toInt < 4611686018427387904) : (a + b).toInt = a.toInt + b.toInt := by
  rw [Int64.toInt_add]; exact Int.bmod_eq_of_le (by omega) (by omega)
theorem tm6 {a b : Int64} (h1 : -4611686018427387904 ≤ a.toInt * b.toInt) (h2 : a.toInt * b.toInt < 4611686018427387904) : (a * b).toInt = a.toInt * b.toInt := by
  rw [Int64.toInt_mul]; exact Int.bmod_eq_of_le (by omega) (by omega)
theorem t06 : (0 : Int64).toInt = 0 := rfl
theorem tab {a s1 s2 : Int32} {x y z : Int} (h1 : a.toInt = x) (h2 : s1.toInt = y) (h3 : s2.toInt = z) (b1 : -100000 ≤ x ∧ x ≤ 100000) (b2 : -100000 ≤ y ∧ y ≤ 100000) (b3 : -100000 ≤ z ∧ z ≤ 100000) : ((a + s1) - s2).toInt = x + y - z := by
  have : (a + s1).toInt = x + y := by rw [ta (by omega) (by omega)]; omega
  rw [tb (by omega) (by omega)]; omega
theorem low_conv {P Z : Int → Prop} {v : Int} (h : lowOf P v) (h1 : ∀ y, P y → Z y) (h2 : ∀ z, Z z → ∃ y, P y ∧ y ≤ z) : lowOf Z v :=
  ⟨fun z hz => by
    obtain ⟨y, hy, hyz⟩ := h2 z hz
    have := h.1 y hy
    omega, h.2.imp id (h1 v)⟩
def upOf (P : Int → Prop) (v : Int) : Prop := (∀ y, P y → y ≤ v) ∧ 0 ≤ v ∧ (v = 0 ∨ P v)
theorem up_skip {P P' : Int → Prop} {v : Int} (h : upOf P v) (e : ∀ y, P' y ↔ P y) : upOf P' v :=
  ⟨fun y hy => h.1 y ((e y).mp hy), h.2.1, h.2.2.imp id (e v).mpr⟩
theorem up_add {P P' : Int → Prop} {v w : Int} (h : upOf P v) (hw : v < w) (e : ∀ y, P' y ↔ P y ∨ y = w) : upOf P' w :=
  ⟨fun y hy => by rcases (e y).mp hy with z | z; · have := h.1 y z; omega
                  · omega, by have := h.2.1; omega, Or.inr ((e w).mpr (Or.inr rfl))⟩
theorem up_old {P P' : Int → Prop} {v x : Int} (h : upOf P v) (hx : x ≤ v) (e : ∀ y, P' y ↔ P y ∨ y = x) : upOf P' v :=
  ⟨fun y hy => by rcases (e y).mp hy with z | z; · exact h.1 y z
                  · omega, h.2.1, h.2.2.imp id (fun z => (e v).mpr (Or.inl z))⟩
theorem up_conv {P Z : Int → Prop} {v : Int} (h : upOf P v) (h1 : ∀ y, P y → Z y) (h2 : ∀ z, Z z → ∃ y, P y ∧ z ≤ y) : upOf Z v :=
  ⟨fun z hz => by
    obtain ⟨y, hy, hyz⟩ := h2 z hz
    have := h.1 y hy
    omega, h.2.1, h.2.2.imp id (h1 v)⟩
theorem up_one {P : Int → Prop} {v w : Int} (b : ∀ y, P y → 0 ≤ y) (h : upOf P v) (h' : upOf P w) : v = w := by
  obtain ⟨h1, h2, h3⟩ := h
  obtain ⟨k1, k2, k3⟩ := h'
  rcases h3 with e | e
  · rcases k3 with e' | e'
    · omega
    · have := h1 w e'; omega
  · rcases k3 with e' | e'
    · have := k1 v e; omega
    · have := h1 w e'; have := k1 v e; omega
abbrev onB (S Hm X : Nat → Nat) (h b : Nat) : Prop := cm Hm X h b = true ∧ 0 < S b
section MC
variable {n : Nat} {T S W Hm X : Nat → Nat} {ma : Int32} {ti sp we ho sa : Nat → Int32} {v1 : Int32} {h : Nat}
theorem isOf_k (R : mR n T S W Hm X ma ti sp we ho sa) (hv : v1.toInt = h) {p : Int32} {k : Nat} (hp : p.toInt = k) (hk : k < n) : f_X5_isOf sp ho sa v1 p = some (decide (onB S Hm X h k)) := by
  rw [isOf_s R hv hp hk]
  congr 1
  rw [Bool.eq_iff_iff]
  simp [onB]
/-- one booking's change at a time -/
def dt (T S W Hm X : Nat → Nat) (h : Nat) (y : Int) (b : Nat) : Int := (if onB S Hm X h b ∧ (T b : Int) = y then (W b : Int) else 0) - (if onB S Hm X h b ∧ (T b : Int) + S b = y then (W b : Int) else 0)
theorem dt_FF (y : Int) : sm n (dt T S W Hm X h y) = FF n T S W (cm Hm X h) y - FF n T S W (cm Hm X h) (y - 1) := by
  rw [FF_step]
  refine sm_congr (fun b _ => ?_)
  unfold dt
  by_cases c1 : cm Hm X h b = true
  · rw [if_pos c1]
    unfold gb
    by_cases c2 : 0 < S b
    · have o : onB S Hm X h b := ⟨c1, c2⟩
      by_cases c3 : (T b : Int) = y
      · rw [if_pos ⟨o, c3⟩, if_neg (fun z => by omega), if_pos (by omega), if_neg (by omega)]
      · rw [if_neg (fun z => c3 z.2)]
        by_cases c4 : (T b : Int) + S b = y
        · rw [if_pos ⟨o, c4⟩, if_neg (by omega), if_pos (by omega)]
        · rw [if_neg (fun z => c4 z.2)]
          by_cases c5 : (T b : Int) ≤ y ∧ y < T b + S b
          · rw [if_pos c5, if_pos (by omega)]; omega
          · rw [if_neg c5, if_neg (by omega)]
    · rw [if_neg (fun z => c2 z.1.2), if_neg (fun z => c2 z.1.2), if_neg (by omega), if_neg (by omega)]
  · rw [if_neg (fun z => c1 z.1.1), if_neg (fun z => c1 z.1.1), if_neg c1]; rfl
theorem changeAt_m (R : mR n T S W Hm X ma ti sp we ho sa) (ok : okB n T S W) (hv : v1.toInt = h) {v2 : Int32} {y : Int} (hy : v2.toInt = y) : ∃ r, f_X5_changeAt ma ti sp we ho sa v1 v2 = some r ∧ r.toInt = FF n T S W (cm Hm X h) y - FF n T S W (cm Hm X h) (y - 1) := by
  have hn := R.1
  obtain ⟨a, e, hc, -⟩ := lpN hn (fun F (a : Int32) v => l_X5_changeAt_5 ma ti sp we ho sa v1 v2 F a v) (fun k a => a.toInt = sm k (dt T S W Hm X h y) ∧ -(9 * (k : Int)) ≤ a.toInt ∧ a.toInt ≤ 9 * (k : Int)) (fun a => some a) (by
    intro F a v h4 _
    rw [l_X5_changeAt_5, if_pos (mR_end R h4)]) (by
    rintro F a v k h4 hk ⟨hc, hb⟩
    have hi : inB v 120 = true := inB_t h4 (by omega)
    obtain ⟨e1, e2, e3, -, -⟩ := R.2.2 k hk
    have okk := ok.2 k hk
    have hts : (ti k + sp k).toInt = (T k : Int) + S k := by rw [ta (by omega) (by omega)]; omega
    have io := isOf_k R hv h4 hk
    have fin : ∀ z : Int32, z.toInt = a.toInt + dt T S W Hm X h y k → (z.toInt = sm (k + 1) (dt T S W Hm X h y) ∧ -(9 * ((k + 1 : Nat) : Int)) ≤ z.toInt ∧ z.toInt ≤ 9 * ((k + 1 : Nat) : Int)) := by
      intro z hz
      have hd : -9 ≤ dt T S W Hm X h y k ∧ dt T S W Hm X h y k ≤ 9 := by
        unfold dt
        split <;> split <;> omega
      refine ⟨by rw [hz, hc]; rfl, by omega, by omega⟩
    rw [l_X5_changeAt_5, if_neg (mR_in R h4 hk), io]
    simp only [Option.bind_some, hi, if_true, clampN h4, b_X5_changeAt_47, io]
    by_cases c1 : onB S Hm X h k
    · rw [decide_eq_true c1, if_neg bIt0, if_neg bIt0, if_neg bIt0]
      by_cases c2 : (T k : Int) = y
      · rw [if_pos (eqI2 e1 hy c2), if_neg (neI hts hy (by omega))]
        refine ⟨_, rfl, fin _ ?_⟩
        rw [tab rfl e3 t0 (by omega) (by omega) (by omega)]
        unfold dt
        rw [if_pos ⟨c1, c2⟩, if_neg (fun z => by have := c1.2; omega)]; omega
      · rw [if_neg (neI e1 hy c2)]
        by_cases c3 : (T k : Int) + S k = y
        · rw [if_pos (eqI2 hts hy c3)]
          refine ⟨_, rfl, fin _ ?_⟩
          rw [tab rfl t0 e3 (by omega) (by omega) (by omega)]
          unfold dt
          rw [if_neg (fun z => c2 z.2), if_pos ⟨c1, c3⟩]; omega
        · rw [if_neg (neI hts hy c3)]
          refine ⟨_, rfl, fin _ ?_⟩
          rw [tab rfl t0 t0 (by omega) (by omega) (by omega)]
          unfold dt
          rw [if_neg (fun z => c2 z.2), if_neg (fun z => c3 z.2)]; omega
    · rw [decide_eq_false c1, if_pos bI_f, if_pos bI_f]
      refine ⟨_, rfl, fin _ ?_⟩
      rw [tab rfl t0 t0 (by omega) (by omega) (by omega)]
      unfold dt
      rw [if_neg (fun z => c1 z.1), if_neg (fun z => c1 z.1)]; omega) 0 ⟨by rw [t0]; rfl, by rw [t0]; omega, by rw [t0]; omega⟩
  exact ⟨a, e, by rw [hc, dt_FF]⟩
theorem loadOf_m (R : mR n T S W Hm X ma ti sp we ho sa) (ok : okB n T S W) (hv : v1.toInt = h) : ∃ r, f_X5_loadOf ma sp we ho sa v1 = some r ∧ r.toInt = LD n S W (cm Hm X h) := by
  have hn := R.1
  obtain ⟨a, e, hc, -⟩ := lpN hn (fun F (a : Int64) v => l_X5_loadOf_5 ma sp we ho sa v1 F a v) (fun k a => a.toInt = LD k S W (cm Hm X h) ∧ 0 ≤ a.toInt ∧ a.toInt ≤ 4500 * (k : Int)) (fun a => some a) (by
    intro F a v h4 _
    rw [l_X5_loadOf_5, if_pos (mR_end R h4)]) (by
    rintro F a v k h4 hk ⟨hc, hb⟩
    have hi : inB v 120 = true := inB_t h4 (by omega)
    obtain ⟨e1, e2, e3, -, -⟩ := R.2.2 k hk
    have okk := ok.2 k hk
    have hW : 0 ≤ (W k : Int) * S k ∧ (W k : Int) * S k ≤ 4500 := by
      refine ⟨Int.mul_nonneg (by omega) (by omega), ?_⟩
      have := Int.mul_le_mul (a := (W k : Int)) (b := (S k : Int)) (c := 9) (d := 500) (by omega) (by omega) (by omega) (by omega)
      omega
    have hm : ((we k).toInt64 * (sp k).toInt64).toInt = (W k : Int) * S k := by
      have q : ((we k).toInt64).toInt * ((sp k).toInt64).toInt = (W k : Int) * S k := by rw [Int32.toInt_toInt64, Int32.toInt_toInt64, e3, e2]
      rw [tm6 (by omega) (by omega), q]
    have hs : LD (k + 1) S W (cm Hm X h) = LD k S W (cm Hm X h) + if cm Hm X h k = true then (W k : Int) * S k else 0 := rfl
    rw [l_X5_loadOf_5, if_neg (mR_in R h4 hk), isOf_k R hv h4 hk]
    simp only [Option.bind_some, hi, if_true, clampN h4]
    by_cases c1 : onB S Hm X h k
    · rw [decide_eq_true c1, if_neg bIt0]
      rw [if_pos c1.1] at hs
      refine ⟨_, rfl, ?_⟩
      rw [ta6 (by omega) (by omega)]
      omega
    · rw [decide_eq_false c1, if_pos bI_f]
      refine ⟨_, rfl, ?_⟩
      rw [ta6 (by rw [t06]; omega) (by rw [t06]; omega), t06]
      by_cases c2 : cm Hm X h k = true
      · have c3 : S k = 0 := by
          by_cases c3 : 0 < S k
          · exact absurd ⟨c2, c3⟩ c1
          · omega
        rw [if_pos c2, c3] at hs
        simp at hs
        omega
      · rw [if_neg c2] at hs
        omega) 0 ⟨by rw [t06]; rfl, by rw [t06]; omega, by rw [t06]; omega⟩
  exact ⟨a, e, hc⟩
/-! busy times -/
theorem busyFrom_m (R : mR n T S W Hm X ma ti sp we ho sa) (ok : okB n T S W) (hv : v1.toInt = h) {v2 : Int32} {x : Int} (h2 : v2.toInt = x) : ∃ r, f_X5_busyFrom ma ti sp we ho sa v1 v2 = some r ∧ lowOf (fun y => x ≤ y ∧ FF n T S W (cm Hm X h) y ≠ 0) r.toInt := by
  have hn := R.1
  have hW : ∀ b, b < n → 0 < W b := fun b hb => by have := ok.2 b hb; omega
  have key : ∀ a0 : Int32, lowOf (fun y => (FF n T S W (cm Hm X h) x ≠ 0 ∧ y = x) ∨ kP 0 (fun b => onB S Hm X h b ∧ x ≤ (T b : Int)) (fun b => T b) y) a0.toInt → ∃ r, l_X5_busyFrom_19 ma ti sp ho sa v1 v2 FU a0 0 = some r ∧ lowOf (fun y => (FF n T S W (cm Hm X h) x ≠ 0 ∧ y = x) ∨ kP n (fun b => onB S Hm X h b ∧ x ≤ (T b : Int)) (fun b => T b) y) r.toInt := by
    intro a0 h0
    refine lpN hn (fun F (a : Int32) v => l_X5_busyFrom_19 ma ti sp ho sa v1 v2 F a v) (fun k a => lowOf (fun y => (FF n T S W (cm Hm X h) x ≠ 0 ∧ y = x) ∨ kP k (fun b => onB S Hm X h b ∧ x ≤ (T b : Int)) (fun b => T b) y) a.toInt) (fun a => some a) ?_ ?_ a0 h0
    · intro F a v h4 _
      rw [l_X5_busyFrom_19, if_pos (mR_end R h4)]
    · intro F a v k h4 hk hc
      have hi : inB v 120 = true := inB_t h4 (by omega)
      have e1 := (R.2.2 k hk).1
      have no : ¬ (onB S Hm X h k ∧ x ≤ (T k : Int)) → lowOf (fun y => (FF n T S W (cm Hm X h) x ≠ 0 ∧ y = x) ∨ kP (k + 1) (fun b => onB S Hm X h b ∧ x ≤ (T b : Int)) (fun b => T b) y) a.toInt := fun hz => low_skip hc (fun y => or_congr Iff.rfl (kP_no hz y))
      have yes : onB S Hm X h k ∧ x ≤ (T k : Int) → ∀ y : Int, ((FF n T S W (cm Hm X h) x ≠ 0 ∧ y = x) ∨ kP (k + 1) (fun b => onB S Hm X h b ∧ x ≤ (T b : Int)) (fun b => T b) y) ↔ (((FF n T S W (cm Hm X h) x ≠ 0 ∧ y = x) ∨ kP k (fun b => onB S Hm X h b ∧ x ≤ (T b : Int)) (fun b => T b) y) ∨ y = (T k : Int)) := fun hz y => by
        rw [kP_yes (p := fun b => onB S Hm X h b ∧ x ≤ (T b : Int)) (key := fun b => (T b : Int)) hz, or_assoc]
      rw [l_X5_busyFrom_19, if_neg (mR_in R h4 hk), isOf_k R hv h4 hk]
      simp only [Option.bind_some, hi, if_true, clampN h4]
      by_cases c1 : onB S Hm X h k
      · rw [decide_eq_true c1, if_neg bIt0]
        by_cases c2 : (T k : Int) < x
        · rw [if_pos (ltI e1 h2 c2)]
          exact ⟨a, rfl, no (fun z => by have := z.2; omega)⟩
        · rw [if_neg (nltI e1 h2 (by omega))]
          by_cases c3 : a.toInt ≤ (T k : Int)
          · rw [if_pos (leI rfl e1 c3)]
            exact ⟨a, rfl, low_old hc c3 (yes ⟨c1, by omega⟩)⟩
          · rw [if_neg (nleI rfl e1 (by omega))]
            refine ⟨ti k, rfl, ?_⟩
            rw [e1]
            exact low_add hc (by omega) (yes ⟨c1, by omega⟩)
      · rw [decide_eq_false c1, if_pos bI_f]
        exact ⟨a, rfl, no (fun z => c1 z.1)⟩
  have conv : ∀ v : Int, lowOf (fun y => (FF n T S W (cm Hm X h) x ≠ 0 ∧ y = x) ∨ kP n (fun b => onB S Hm X h b ∧ x ≤ (T b : Int)) (fun b => T b) y) v → lowOf (fun y => x ≤ y ∧ FF n T S W (cm Hm X h) y ≠ 0) v := by
    intro v hl
    refine low_conv hl (fun y hy => ?_) (fun z hz => ?_)
    · rcases hy with ⟨q1, q2⟩ | ⟨b, hb, hp, e⟩
      · rw [q2]; exact ⟨Int.le_refl _, q1⟩
      · have e' : y = (T b : Int) := e
        have := FF_on (T := T) (S := S) hW hb hp.1.1 (y := y) (by omega) (by have := hp.1.2; omega)
        exact ⟨by rw [e]; exact hp.2, by omega⟩
    · obtain ⟨b, hb, hc, q1, q2⟩ := FF_pos hz.2
      by_cases c : x ≤ (T b : Int)
      · exact ⟨T b, Or.inr ⟨b, hb, ⟨⟨hc, by omega⟩, c⟩, rfl⟩, q1⟩
      · have := FF_on (T := T) (S := S) hW hb hc (y := x) (by omega) (by omega)
        exact ⟨x, Or.inl ⟨by omega, rfl⟩, hz.1⟩
  obtain ⟨g, eg, hg⟩ := crowdAt_s R ok hv h2
  have hnn := FF_nn (n := n) (T := T) (S := S) (W := W) (C := cm Hm X h) x
  unfold f_X5_busyFrom
  rw [eg]
  simp only [Option.bind_some]
  by_cases c : FF n T S W (cm Hm X h) x = 0
  · rw [if_pos (leI hg t0 (by omega))]
    obtain ⟨r, er, hr⟩ := key 100000 (by
      rw [tF]
      exact low_top (fun y hy => by
        rcases hy with z | z
        · exact z.1 c
        · exact kP_0 y z))
    exact ⟨r, er, conv _ hr⟩
  · rw [if_neg (nleI hg t0 (by omega))]
    obtain ⟨r, er, hr⟩ := key v2 (by
      rw [h2]
      exact ⟨fun y hy => by
        rcases hy with z | z
        · omega
        · exact absurd z (kP_0 y), Or.inr (Or.inl ⟨c, rfl⟩)⟩)
    exact ⟨r, er, conv _ hr⟩
/-- the first time from one on that is not busy -/
def idOf (F : Int → Int) (x v : Int) : Prop := x ≤ v ∧ F v = 0 ∧ ∀ y, x ≤ y → y < v → F y ≠ 0
theorem id_one {F : Int → Int} {x v w : Int} (h : idOf F x v) (h' : idOf F x w) : v = w := by
  obtain ⟨a1, a2, a3⟩ := h
  obtain ⟨b1, b2, b3⟩ := h'
  by_cases c : v < w
  · exact absurd a2 (b3 v a1 c)
  · by_cases c2 : w < v
    · exact absurd b2 (a3 w b1 c2)
    · omega
theorem idleFrom_in (R : mR n T S W Hm X ma ti sp we ho sa) (ok : okB n T S W) (hv : v1.toInt = h) {v3 : Int32} {x : Int} (h3 : v3.toInt = x) (ko : Int32 → Option Int32) : ∃ r : Int32, l_X5_idleFrom_17 ma ti sp ho sa v1 v3 ko FU v3 0 = ko r ∧ x ≤ r.toInt ∧ (∀ b, b < n → onB S Hm X h b → (T b : Int) ≤ x → (T b : Int) + S b ≤ r.toInt) ∧ (r.toInt = x ∨ ∃ b, b < n ∧ onB S Hm X h b ∧ (T b : Int) ≤ x ∧ r.toInt = (T b : Int) + S b) := by
  have hn := R.1
  obtain ⟨a, e, q⟩ := lpN hn (fun F (a : Int32) v => l_X5_idleFrom_17 ma ti sp ho sa v1 v3 ko F a v) (fun k a => x ≤ a.toInt ∧ (∀ b, b < k → onB S Hm X h b → (T b : Int) ≤ x → (T b : Int) + S b ≤ a.toInt) ∧ (a.toInt = x ∨ ∃ b, b < n ∧ onB S Hm X h b ∧ (T b : Int) ≤ x ∧ a.toInt = (T b : Int) + S b)) (fun a => ko a) (by
    intro F a v h4 _
    rw [l_X5_idleFrom_17, if_pos (mR_end R h4)]) (by
    rintro F a v k h4 hk ⟨q1, q2, q3⟩
    have hi : inB v 120 = true := inB_t h4 (by omega)
    obtain ⟨e1, e2, e3, -, -⟩ := R.2.2 k hk
    have okk := ok.2 k hk
    have hts : (ti k + sp k).toInt = (T k : Int) + S k := by rw [ta (by omega) (by omega)]; omega
    have old : (onB S Hm X h k → (T k : Int) ≤ x → (T k : Int) + S k ≤ a.toInt) → ∀ b, b < k + 1 → onB S Hm X h b → (T b : Int) ≤ x → (T b : Int) + S b ≤ a.toInt := by
      intro hz b hb h1 h2
      rcases lt_so hb with hb | rfl
      · exact q2 b hb h1 h2
      · exact hz h1 h2
    rw [l_X5_idleFrom_17, if_neg (mR_in R h4 hk), isOf_k R hv h4 hk]
    simp only [Option.bind_some, hi, if_true, clampN h4]
    by_cases c1 : onB S Hm X h k
    · rw [decide_eq_true c1, if_neg bIt0]
      by_cases c2 : x < (T k : Int)
      · rw [if_pos (ltI h3 e1 c2)]
        exact ⟨a, rfl, q1, old (fun _ z => by omega), q3⟩
      · rw [if_neg (nltI h3 e1 (by omega))]
        by_cases c3 : (T k : Int) + S k ≤ a.toInt
        · rw [if_pos (leI hts rfl c3)]
          exact ⟨a, rfl, q1, old (fun _ _ => c3), q3⟩
        · rw [if_neg (nleI hts rfl (by omega))]
          refine ⟨_, rfl, by rw [hts]; omega, fun b hb h1 h2 => ?_, Or.inr ⟨k, hk, c1, by omega, hts⟩⟩
          rw [hts]
          rcases lt_so hb with hb | rfl
          · have := q2 b hb h1 h2; omega
          · exact Int.le_refl _
    · rw [decide_eq_false c1, if_pos bI_f]
      exact ⟨a, rfl, q1, old (fun z => absurd z c1), q3⟩) v3 ⟨by omega, fun b hb => absurd hb (Nat.not_lt_zero b), Or.inl h3⟩
  exact ⟨a, e, q⟩
theorem idleFrom_m (R : mR n T S W Hm X ma ti sp we ho sa) (ok : okB n T S W) (hv : v1.toInt = h) : ∀ (F : Nat) (v3 : Int32) (x : Int), v3.toInt = x → 0 ≤ x → (10500 - x).toNat < F → ∃ r, l_X5_idleFrom_2 ma ti sp we ho sa v1 F v3 = some r ∧ idOf (FF n T S W (cm Hm X h)) x r.toInt := by
  have hW : ∀ b, b < n → 0 < W b := fun b hb => by have := ok.2 b hb; omega
  intro F
  induction F with
  | zero => intro v3 x _ _ hF; omega
  | succ F ih =>
    intro v3 x h3 hx hF
    obtain ⟨g, eg, hg⟩ := crowdAt_s R ok hv h3
    have hnn := FF_nn (n := n) (T := T) (S := S) (W := W) (C := cm Hm X h) x
    rw [l_X5_idleFrom_2, eg]
    simp only [Option.bind_some]
    by_cases c : FF n T S W (cm Hm X h) x = 0
    · rw [if_pos (leI hg t0 (by omega))]
      exact ⟨v3, rfl, by omega, by rw [h3]; exact c, fun y h1 h2 => by omega⟩
    · rw [if_neg (nleI hg t0 (by omega))]
      obtain ⟨r, er, q1, q2, q3⟩ := idleFrom_in R ok hv h3 (fun qv3 => l_X5_idleFrom_2 ma ti sp we ho sa v1 F qv3)
      obtain ⟨b, hb, hc, b1, b2⟩ := FF_pos c
      have q4 := q2 b hb ⟨hc, by omega⟩ b1
      have okb := ok.2 b hb
      obtain ⟨r2, e2, i1, i2, i3⟩ := ih r r.toInt rfl (by clear q3; omega) (by clear q3; omega)
      rw [er]
      refine ⟨r2, e2, by omega, i2, fun y h1 h2 => ?_⟩
      by_cases c2 : y < r.toInt
      · rcases q3 with q3 | ⟨b', hb', o', q5, q6⟩
        · omega
        · have := FF_on (T := T) (S := S) hW hb' o'.1 (y := y) (by omega) (by omega)
          omega
      · exact i3 y (by omega) h2
theorem idleFrom_s (R : mR n T S W Hm X ma ti sp we ho sa) (ok : okB n T S W) (hv : v1.toInt = h) {v3 : Int32} {x : Int} (h3 : v3.toInt = x) (hx : 0 ≤ x) : ∃ r, f_X5_idleFrom ma ti sp we ho sa v1 v3 = some r ∧ idOf (FF n T S W (cm Hm X h)) x r.toInt :=
  idleFrom_m R ok hv FU v3 x h3 hx (by show _ < 1000000; omega)
/-! the greatest crowd -/
theorem greatestIn_m (R : mR n T S W Hm X ma ti sp we ho sa) (ok : okB n T S W) (hv : v1.toInt = h) {v2 v3 : Int32} {x y : Int} (h2 : v2.toInt = x) (h3 : v3.toInt = y) : ∃ r, f_X5_greatestIn ma ti sp we ho sa v1 v2 v3 = some r ∧ upOf (kP n (fun b => onB S Hm X h b ∧ x ≤ (T b : Int) ∧ (T b : Int) < y) (fun b => FF n T S W (cm Hm X h) (T b))) r.toInt := by
  have hn := R.1
  refine lpN hn (fun F (a : Int32) v => l_X5_greatestIn_6 ma ti sp we ho sa v1 v2 v3 F a v) (fun k a => upOf (kP k (fun b => onB S Hm X h b ∧ x ≤ (T b : Int) ∧ (T b : Int) < y) (fun b => FF n T S W (cm Hm X h) (T b))) a.toInt) (fun a => some a) ?_ ?_ 0 ⟨fun y hy => absurd hy (kP_0 y), by rw [t0]; omega, Or.inl t0⟩
  · intro F a v h4 _
    rw [l_X5_greatestIn_6, if_pos (mR_end R h4)]
  · intro F a v k h4 hk hc
    have hi : inB v 120 = true := inB_t h4 (by omega)
    have e1 := (R.2.2 k hk).1
    rw [l_X5_greatestIn_6, if_neg (mR_in R h4 hk), isOf_k R hv h4 hk]
    simp only [Option.bind_some, hi, if_true, clampN h4]
    by_cases c1 : onB S Hm X h k
    · rw [decide_eq_true c1, if_neg bIt0]
      by_cases c2 : (T k : Int) < x
      · rw [if_pos (ltI e1 h2 c2)]
        exact ⟨a, rfl, up_skip hc (kP_no (fun z => by have := z.2; omega))⟩
      · rw [if_neg (nltI e1 h2 (by omega))]
        by_cases c3 : y ≤ (T k : Int)
        · rw [if_pos (leI h3 e1 c3)]
          exact ⟨a, rfl, up_skip hc (kP_no (fun z => by have := z.2; omega))⟩
        · rw [if_neg (nleI h3 e1 (by omega))]
          obtain ⟨g, eg, hg⟩ := crowdAt_s R ok hv e1
          rw [eg]
          simp only [Option.bind_some]
          have pk : onB S Hm X h k ∧ x ≤ (T k : Int) ∧ (T k : Int) < y := ⟨c1, by omega, by omega⟩
          by_cases c4 : FF n T S W (cm Hm X h) (T k) ≤ a.toInt
          · rw [if_pos (leI hg rfl c4)]
            exact ⟨a, rfl, up_old hc c4 (kP_yes (p := fun b => onB S Hm X h b ∧ x ≤ (T b : Int) ∧ (T b : Int) < y) (key := fun b => FF n T S W (cm Hm X h) (T b)) pk)⟩
          · rw [if_neg (nleI hg rfl (by omega))]
            refine ⟨g, rfl, ?_⟩
            rw [hg]
            exact up_add hc (by omega) (kP_yes (p := fun b => onB S Hm X h b ∧ x ≤ (T b : Int) ∧ (T b : Int) < y) (key := fun b => FF n T S W (cm Hm X h) (T b)) pk)
    · rw [decide_eq_false c1, if_pos bI_f]
      exact ⟨a, rfl, up_skip hc (kP_no (fun z => c1 z.1))⟩
theorem greatestFrom_l (R : mR n T S W Hm X ma ti sp we ho sa) (ok : okB n T S W) (hv : v1.toInt = h) {v2 : Int32} {M : Int} (h2 : v2.toInt = M) (thc : Int32) : ∃ r, l_X5_greatestFrom_56 ma ti sp we ho sa v1 v2 thc FU 100000 0 = some (r, thc) ∧ lowOf (kP n (fun b => onB S Hm X h b ∧ FF n T S W (cm Hm X h) (T b) = M) (fun b => T b)) r.toInt := by
  have hn := R.1
  refine lpN hn (fun F (a : Int32) v => l_X5_greatestFrom_56 ma ti sp we ho sa v1 v2 thc F a v) (fun k a => lowOf (kP k (fun b => onB S Hm X h b ∧ FF n T S W (cm Hm X h) (T b) = M) (fun b => T b)) a.toInt) (fun a => some (a, thc)) ?_ ?_ 100000 (by rw [tF]; exact low_top kP_0)
  · intro F a v h4 _
    rw [l_X5_greatestFrom_56, if_pos (mR_end R h4)]
  · intro F a v k h4 hk hc
    have hi : inB v 120 = true := inB_t h4 (by omega)
    have e1 := (R.2.2 k hk).1
    rw [l_X5_greatestFrom_56, if_neg (mR_in R h4 hk), isOf_k R hv h4 hk]
    simp only [Option.bind_some, hi, if_true, clampN h4]
    by_cases c1 : onB S Hm X h k
    · rw [decide_eq_true c1, if_neg bIt0]
      by_cases c3 : a.toInt ≤ (T k : Int)
      · rw [if_pos (leI rfl e1 c3)]
        refine ⟨a, rfl, ?_⟩
        by_cases c4 : FF n T S W (cm Hm X h) (T k) = M
        · exact low_old hc c3 (kP_yes (p := fun b => onB S Hm X h b ∧ FF n T S W (cm Hm X h) (T b) = M) (key := fun b => (T b : Int)) ⟨c1, c4⟩)
        · exact low_skip hc (kP_no (fun z => c4 z.2))
      · rw [if_neg (nleI rfl e1 (by omega))]
        obtain ⟨g, eg, hg⟩ := crowdAt_s R ok hv e1
        rw [eg]
        simp only [Option.bind_some]
        by_cases c4 : FF n T S W (cm Hm X h) (T k) = M
        · rw [if_pos (eqI2 hg h2 c4)]
          refine ⟨ti k, rfl, ?_⟩
          rw [e1]
          exact low_add hc (by omega) (kP_yes (p := fun b => onB S Hm X h b ∧ FF n T S W (cm Hm X h) (T b) = M) (key := fun b => (T b : Int)) ⟨c1, c4⟩)
        · rw [if_neg (neI hg h2 c4)]
          exact ⟨a, rfl, low_skip hc (kP_no (fun z => c4 z.2))⟩
    · rw [decide_eq_false c1, if_pos bI_f]
      exact ⟨a, rfl, low_skip hc (kP_no (fun z => c1 z.1))⟩
/-! the turns -/
def tnP (n : Nat) (T S Hm X : Nat → Nat) (h : Nat) (x : Int) (k : Nat) (y : Int) : Prop := ∃ b, b < k ∧ onB S Hm X h b ∧ x < y ∧ (y = (T b : Int) ∨ y = (T b : Int) + S b)
theorem turnBehind_m (R : mR n T S W Hm X ma ti sp we ho sa) (ok : okB n T S W) (hv : v1.toInt = h) {v2 : Int32} {x : Int} (h2 : v2.toInt = x) : ∃ r, f_X5_turnBehind ma ti sp ho sa v1 v2 = some r ∧ lowOf (tnP n T S Hm X h x n) r.toInt := by
  have hn := R.1
  refine lpN hn (fun F (a : Int32) v => l_X5_turnBehind_6 ma ti sp ho sa v1 v2 F a v) (fun k a => lowOf (tnP n T S Hm X h x k) a.toInt) (fun a => some a) ?_ ?_ 100000 (by rw [tF]; exact low_top (fun y ⟨b, hb, _⟩ => absurd hb (Nat.not_lt_zero b)))
  · intro F a v h4 _
    rw [l_X5_turnBehind_6, if_pos (mR_end R h4)]
  · intro F a v k h4 hk hc
    have hi : inB v 120 = true := inB_t h4 (by omega)
    obtain ⟨e1, e2, e3, -, -⟩ := R.2.2 k hk
    have okk := ok.2 k hk
    have hts : (ti k + sp k).toInt = (T k : Int) + S k := by rw [ta (by omega) (by omega)]; omega
    rw [l_X5_turnBehind_6, if_neg (mR_in R h4 hk), isOf_k R hv h4 hk]
    simp only [Option.bind_some, hi, if_true, clampN h4]
    by_cases c1 : onB S Hm X h k
    · rw [decide_eq_true c1, if_neg bIt0]
      have mid : ∀ a' : Int32, lowOf (fun y => tnP n T S Hm X h x k y ∨ (x < y ∧ y = (T k : Int))) a'.toInt → ∃ a2, b_X5_turnBehind_58 ti sp (fun qv3 qv4 => l_X5_turnBehind_6 ma ti sp ho sa v1 v2 F qv3 qv4) v1 v2 v a' = l_X5_turnBehind_6 ma ti sp ho sa v1 v2 F a2 (v + 1) ∧ lowOf (tnP n T S Hm X h x (k + 1)) a2.toInt := by
        intro a' ha
        unfold b_X5_turnBehind_58
        simp only [hi, if_true, clampN h4]
        have sp1 : ∀ y, tnP n T S Hm X h x (k + 1) y ↔ (tnP n T S Hm X h x k y ∨ (x < y ∧ y = (T k : Int))) ∨ (x < y ∧ y = (T k : Int) + S k) := by
          intro y
          constructor
          · rintro ⟨b, hb, o, l1, l2⟩
            rcases lt_so hb with hb | rfl
            · exact Or.inl (Or.inl ⟨b, hb, o, l1, l2⟩)
            · rcases l2 with l2 | l2
              · exact Or.inl (Or.inr ⟨l1, l2⟩)
              · exact Or.inr ⟨l1, l2⟩
          · rintro ((⟨b, hb, o, l1, l2⟩ | ⟨l1, l2⟩) | ⟨l1, l2⟩)
            · exact ⟨b, by omega, o, l1, l2⟩
            · exact ⟨k, by omega, c1, l1, Or.inl l2⟩
            · exact ⟨k, by omega, c1, l1, Or.inr l2⟩
        by_cases c2 : (T k : Int) + S k ≤ x
        · rw [if_pos (leI hts h2 c2)]
          refine ⟨a', rfl, low_skip ha (fun y => ?_)⟩
          rw [sp1]
          exact ⟨fun z => z.resolve_right (fun z => by omega), Or.inl⟩
        · rw [if_neg (nleI hts h2 (by omega))]
          have sp2 : ∀ y, tnP n T S Hm X h x (k + 1) y ↔ (tnP n T S Hm X h x k y ∨ (x < y ∧ y = (T k : Int))) ∨ y = (T k : Int) + S k := fun y => by
            rw [sp1]
            exact or_congr Iff.rfl ⟨fun z => z.2, fun z => ⟨by omega, z⟩⟩
          by_cases c3 : a'.toInt ≤ (T k : Int) + S k
          · rw [if_pos (leI rfl hts c3)]
            exact ⟨a', rfl, low_old ha c3 sp2⟩
          · rw [if_neg (nleI rfl hts (by omega))]
            refine ⟨_, rfl, ?_⟩
            rw [hts]
            exact low_add ha (by omega) sp2
      by_cases c2 : (T k : Int) ≤ x
      · rw [if_pos (leI e1 h2 c2)]
        exact mid a (low_skip hc (fun y => ⟨fun z => z.resolve_right (fun z => by omega), Or.inl⟩))
      · rw [if_neg (nleI e1 h2 (by omega))]
        have sp3 : ∀ y, (tnP n T S Hm X h x k y ∨ (x < y ∧ y = (T k : Int))) ↔ (tnP n T S Hm X h x k y ∨ y = (T k : Int)) := fun y => or_congr Iff.rfl ⟨fun z => z.2, fun z => ⟨by omega, z⟩⟩
        by_cases c3 : a.toInt ≤ (T k : Int)
        · rw [if_pos (leI rfl e1 c3)]
          exact mid a (low_old hc c3 sp3)
        · rw [if_neg (nleI rfl e1 (by omega))]
          refine mid (ti k) ?_
          rw [e1]
          exact low_add hc (by omega) sp3
    · rw [decide_eq_false c1, if_pos bI_f]
      refine ⟨a, rfl, low_skip hc (fun y => ?_)⟩
      constructor
      · rintro ⟨b, hb, o, l1, l2⟩
        rcases lt_so hb with hb | rfl
        · exact ⟨b, hb, o, l1, l2⟩
        · exact absurd o c1
      · rintro ⟨b, hb, o, l1, l2⟩
        exact ⟨b, by omega, o, l1, l2⟩
end MC
