/-! the reference's loops that change something, and those that look for a least or a greatest -/
section ML3
variable {n : Nat} {T S W Hm X : Nat → Nat} {ma : Int32} {ti sp we ho sa : Nat → Int32} {v1 : Int32} {h : Nat}
theorem mR_X {X' : Nat → Nat} (R : mR n T S W Hm X ma ti sp we ho sa) (e : ∀ b, b < n → X' b = X b) : mR n T S W Hm X' ma ti sp we ho sa :=
  ⟨R.1, R.2.1, fun b hb => by rw [e b hb]; exact R.2.2 b hb⟩
theorem mR_Hm {Hm' : Nat → Nat} (R : mR n T S W Hm X ma ti sp we ho sa) (e : ∀ b, b < n → Hm' b = Hm b) : mR n T S W Hm' X ma ti sp we ho sa :=
  ⟨R.1, R.2.1, fun b hb => by rw [e b hb]; exact R.2.2 b hb⟩
theorem mR_setX {X' : Nat → Nat} (R : mR n T S W Hm X ma ti sp we ho sa) {v w : Int32} {k x : Nat} (hv : v.toInt = k) (hw : w.toInt = x) (e : ∀ b, b < n → X' b = if b = k then x else X b) : mR n T S W Hm X' ma ti sp we ho (upd sa v.toNatClampNeg w) := by
  refine ⟨R.1, R.2.1, fun b hb => ?_⟩
  obtain ⟨e1, e2, e3, e4, e5⟩ := R.2.2 b hb
  refine ⟨e1, e2, e3, e4, ?_⟩
  rw [e b hb, clampN hv]
  unfold upd
  by_cases c : b = k
  · rw [if_pos c, if_pos c]; exact hw
  · rw [if_neg c, if_neg c]; exact e5
theorem mR_setHm {Hm' : Nat → Nat} (R : mR n T S W Hm X ma ti sp we ho sa) {v w : Int32} {k x : Nat} (hv : v.toInt = k) (hw : w.toInt = x) (e : ∀ b, b < n → Hm' b = if b = k then x else Hm b) : mR n T S W Hm' X ma ti sp we (upd ho v.toNatClampNeg w) sa := by
  refine ⟨R.1, R.2.1, fun b hb => ?_⟩
  obtain ⟨e1, e2, e3, e4, e5⟩ := R.2.2 b hb
  refine ⟨e1, e2, e3, ?_, e5⟩
  rw [e b hb, clampN hv]
  unfold upd
  by_cases c : b = k
  · rw [if_pos c, if_pos c]; exact hw
  · rw [if_neg c, if_neg c]; exact e4
theorem isWaiting_k (R : mR n T S W Hm X ma ti sp we ho sa) (hv : v1.toInt = h) {p : Int32} {k : Nat} (hp : p.toInt = k) (hk : k < n) : f_X5_isWaiting ma ho sa v1 p = some (decide (Hm k = h ∧ X k = 0)) := by
  rw [isWaiting_s R hv p]
  have e : p.toInt.toNat = k := by omega
  rw [e]
  congr 1
  exact decide_eq_decide.mpr ⟨fun z => ⟨z.2.2.1, z.2.2.2⟩, fun z => ⟨by omega, by omega, z.1, z.2⟩⟩
def wp (T Hm X : Nat → Nat) (h : Nat) (x y : Int) : Nat → Bool := fun b => decide (Hm b = h ∧ X b = 0 ∧ x ≤ (T b : Int) ∧ (T b : Int) < y)
theorem wp_t {x y : Int} {b : Nat} : wp T Hm X h x y b = true ↔ Hm b = h ∧ X b = 0 ∧ x ≤ (T b : Int) ∧ (T b : Int) < y := decide_eq_true_iff
theorem one_up {p : Nat → Bool} {k : Nat} {a : Int32} (hk : k < 120) (ha : a.toInt = cb k p) (hp : p k = true) : (a + 1).toInt = cb (k + 1) p := by
  have := cb_le k p
  rw [cb_succ, if_pos hp, ta (by rw [t1]; omega) (by rw [t1]; omega), t1]; omega
theorem none_up {p : Nat → Bool} {k : Nat} {a : Int32} (ha : a.toInt = cb k p) (hp : ¬ p k = true) : a.toInt = cb (k + 1) p := by
  rw [cb_succ, if_neg hp, ha]; omega
theorem zero_up {p : Nat → Bool} {k : Nat} {a : Int32} (hk : k < 120) (ha : a.toInt = cb k p) (hp : ¬ p k = true) : (a + 0).toInt = cb (k + 1) p := by
  have := cb_le k p
  rw [cb_succ, if_neg hp, ta (by rw [t0]; omega) (by rw [t0]; omega), t0]; omega
theorem cut_X {p : Nat → Bool} {k x : Nat} (X : Nat → Nat) (hp : ¬ p k = true) (b : Nat) : (if b < k + 1 ∧ p b = true then x else X b) = if b < k ∧ p b = true then x else X b := by
  by_cases c : b < k ∧ p b = true
  · rw [if_pos c, if_pos ⟨by omega, c.2⟩]
  · rw [if_neg c, if_neg (fun z => by
      rcases lt_so z.1 with z1 | z1
      · exact c ⟨z1, z.2⟩
      · rw [z1] at z; exact hp z.2)]
theorem set_X {p : Nat → Bool} {k x : Nat} (X : Nat → Nat) (hp : p k = true) (b : Nat) : (if b < k + 1 ∧ p b = true then x else X b) = if b = k then x else if b < k ∧ p b = true then x else X b := by
  by_cases c : b = k
  · rw [if_pos c, if_pos ⟨by omega, by rw [c]; exact hp⟩]
  · rw [if_neg c]
    by_cases c2 : b < k ∧ p b = true
    · rw [if_pos c2, if_pos ⟨by omega, c2.2⟩]
    · rw [if_neg c2, if_neg (fun z => c2 ⟨by omega, z.2⟩)]
theorem end_X {p : Nat → Bool} {n x : Nat} (X : Nat → Nat) (b : Nat) (hb : b < n) : (if p b = true then x else X b) = if b < n ∧ p b = true then x else X b := by
  by_cases c : p b = true
  · rw [if_pos c, if_pos ⟨hb, c⟩]
  · rw [if_neg c, if_neg (fun z => c z.2)]
theorem callOffAll_l (R : mR n T S W Hm X ma ti sp we ho sa) (hv : v1.toInt = h) {v2 v3 : Int32} {x y : Int} (h2 : v2.toInt = x) (h3 : v3.toInt = y) (thc : Int32) : ∃ r sa', l_X5_callOffAll_46 ma ti ho v1 v2 v3 thc FU 0 0 sa = some (r, thc, sa') ∧ r.toInt = cb n (wp T Hm X h x y) ∧ mR n T S W Hm (fun b => if wp T Hm X h x y b = true then 2 else X b) ma ti sp we ho sa' := by
  have hn := R.1
  obtain ⟨a, e, hc, R'⟩ := lpN hn (fun F (a : Int32 × (Nat → Int32)) v => l_X5_callOffAll_46 ma ti ho v1 v2 v3 thc F a.1 v a.2) (fun k a => a.1.toInt = cb k (wp T Hm X h x y) ∧ mR n T S W Hm (fun b => if b < k ∧ wp T Hm X h x y b = true then 2 else X b) ma ti sp we ho a.2) (fun a => some (a.1, thc, a.2)) (by
    intro F a v h4 _
    rw [l_X5_callOffAll_46, if_pos (mR_end R h4)]) (by
    rintro F a v k h4 hk ⟨hc, R'⟩
    have hi : inB v 120 = true := inB_t h4 (by omega)
    have e1 := (R.2.2 k hk).1
    have sk : ¬ wp T Hm X h x y k = true → (a.1.toInt = cb (k + 1) (wp T Hm X h x y) ∧ mR n T S W Hm (fun b => if b < k + 1 ∧ wp T Hm X h x y b = true then 2 else X b) ma ti sp we ho a.2) := fun z => ⟨none_up hc z, mR_X R' (fun b _ => cut_X X z b)⟩
    rw [l_X5_callOffAll_46, if_neg (mR_in R h4 hk), isWaiting_k R' hv h4 hk]
    simp only [Option.bind_some, hi, if_true, clampN h4, Nat.lt_irrefl, false_and, if_false]
    by_cases c1 : Hm k = h ∧ X k = 0
    · rw [decide_eq_true c1, if_neg bIt0]
      by_cases c2 : (T k : Int) < x
      · rw [if_pos (ltI e1 h2 c2)]
        exact ⟨a, rfl, sk (fun z => by have := wp_t.mp z; omega)⟩
      · rw [if_neg (nltI e1 h2 (by omega))]
        by_cases c3 : y ≤ (T k : Int)
        · rw [if_pos (leI h3 e1 c3)]
          exact ⟨a, rfl, sk (fun z => by have := wp_t.mp z; omega)⟩
        · rw [if_neg (nleI h3 e1 (by omega))]
          have hp : wp T Hm X h x y k = true := wp_t.mpr ⟨c1.1, c1.2, by omega, by omega⟩
          refine ⟨(a.1 + 1, upd a.2 k 2), rfl, one_up (by omega) hc hp, ?_⟩
          have := mR_setX R' h4 (w := 2) (x := 2) t2 (fun b _ => set_X (x := 2) X hp b)
          rw [clampN h4] at this
          exact this
    · rw [decide_eq_false c1, if_pos bI_f]
      exact ⟨a, rfl, sk (fun z => by have := wp_t.mp z; exact c1 ⟨this.1, this.2.1⟩)⟩) (0, sa) ⟨by simp [cb, t0], mR_X R (fun b _ => if_neg (fun z => Nat.not_lt_zero _ z.1))⟩
  exact ⟨a.1, a.2, e, hc, mR_X R' (fun b hb => end_X X b hb)⟩
theorem moved_s (R : mR n T S W Hm X ma ti sp we ho sa) (hv : v1.toInt = h) {v2 v3 v4 : Int32} {o : Nat} {x y : Int} (hv2 : v2.toInt = o) (h2 : v3.toInt = x) (h3 : v4.toInt = y) (d : Bool) : ∃ r ho', f_X5_moved ma ti ho sa v1 v2 v3 v4 d = some (r, ho') ∧ r.toInt = cb n (wp T Hm X h x y) ∧ mR n T S W (fun b => if wp T Hm X h x y b = true then (if d = true then o else h) else Hm b) X ma ti sp we ho' sa := by
  have hn := R.1
  obtain ⟨a, e, hc, R'⟩ := lpN hn (fun F (a : Int32 × (Nat → Int32)) v => l_X5_moved_6 ma ti sa v1 v2 v3 v4 d F a.1 v a.2) (fun k a => a.1.toInt = cb k (wp T Hm X h x y) ∧ mR n T S W (fun b => if b < k ∧ wp T Hm X h x y b = true then (if d = true then o else h) else Hm b) X ma ti sp we a.2 sa) (fun a => some (a.1, a.2)) (by
    intro F a v h4 _
    rw [l_X5_moved_6, if_pos (mR_end R h4)]) (by
    rintro F a v k h4 hk ⟨hc, R'⟩
    have hi : inB v 120 = true := inB_t h4 (by omega)
    have e1 := (R.2.2 k hk).1
    have sk : ¬ wp T Hm X h x y k = true → (a.1.toInt = cb (k + 1) (wp T Hm X h x y) ∧ mR n T S W (fun b => if b < k + 1 ∧ wp T Hm X h x y b = true then (if d = true then o else h) else Hm b) X ma ti sp we a.2 sa) := fun z => ⟨none_up hc z, mR_Hm R' (fun b _ => cut_X Hm z b)⟩
    rw [l_X5_moved_6, if_neg (mR_in R h4 hk), isWaiting_k R' hv h4 hk]
    simp only [Option.bind_some, hi, if_true, clampN h4, Nat.lt_irrefl, false_and, if_false]
    by_cases c1 : Hm k = h ∧ X k = 0
    · rw [decide_eq_true c1, if_neg bIt0]
      by_cases c2 : (T k : Int) < x
      · rw [if_pos (ltI e1 h2 c2)]
        exact ⟨a, rfl, sk (fun z => by have := wp_t.mp z; omega)⟩
      · rw [if_neg (nltI e1 h2 (by omega))]
        by_cases c3 : y ≤ (T k : Int)
        · rw [if_pos (leI h3 e1 c3)]
          exact ⟨a, rfl, sk (fun z => by have := wp_t.mp z; omega)⟩
        · rw [if_neg (nleI h3 e1 (by omega))]
          have hp : wp T Hm X h x y k = true := wp_t.mpr ⟨c1.1, c1.2, by omega, by omega⟩
          cases d with
          | true =>
            rw [if_neg bIt0]
            refine ⟨(a.1 + 1, upd a.2 k v2), rfl, one_up (by omega) hc hp, ?_⟩
            have := mR_setHm R' h4 hv2 (fun b _ => set_X (x := o) Hm hp b)
            rw [clampN h4] at this
            exact this
          | false =>
            rw [if_pos bI_f]
            refine ⟨(a.1 + 1, upd a.2 k v1), rfl, one_up (by omega) hc hp, ?_⟩
            have := mR_setHm R' h4 hv (fun b _ => set_X (x := h) Hm hp b)
            rw [clampN h4] at this
            exact this
    · rw [decide_eq_false c1, if_pos bI_f]
      exact ⟨a, rfl, sk (fun z => by have := wp_t.mp z; exact c1 ⟨this.1, this.2.1⟩)⟩) (0, ho) ⟨by simp [cb, t0], mR_Hm R (fun b _ => if_neg (fun z => Nat.not_lt_zero _ z.1))⟩
  exact ⟨a.1, a.2, e, hc, mR_Hm R' (fun b hb => end_X Hm b hb)⟩
def bp (T Hm X : Nat → Nat) (h : Nat) (x : Int) : Nat → Bool := fun b => decide (Hm b = h ∧ X b = 1 ∧ x < (T b : Int))
theorem bp_t {x : Int} {b : Nat} : bp T Hm X h x b = true ↔ Hm b = h ∧ X b = 1 ∧ x < (T b : Int) := decide_eq_true_iff
theorem back_51 (R : mR n T S W Hm X ma ti sp we ho sa) (hv : v1.toInt = h) {v2 : Int32} {x : Int} (h2 : v2.toInt = x) (cl : Nat → Int32) (thc : Int32) : ∃ r : Int32, r.toInt = cb n (bp T Hm X h x) ∧ l_X5_back_51 ma ti ho sa cl v1 v2 thc FU 0 0 = (if inB v1 4 = true then (if (cl v1.toNatClampNeg) < v2 then b_X5_back_136 ma ti ho sa cl v1 v2 r true thc else ((f_X5_many ma ho sa v1 0).bind fun g4 => (if (g4 + r) ≤ 48 then b_X5_back_136 ma ti ho sa cl v1 v2 r false thc else b_X5_back_136 ma ti ho sa cl v1 v2 r true thc))) else none) := by
  have hn := R.1
  obtain ⟨a, e, hc⟩ := lpN hn (fun F (a : Int32) v => l_X5_back_51 ma ti ho sa cl v1 v2 thc F a v) (fun k a => a.toInt = cb k (bp T Hm X h x)) (fun r => (if inB v1 4 = true then (if (cl v1.toNatClampNeg) < v2 then b_X5_back_136 ma ti ho sa cl v1 v2 r true thc else ((f_X5_many ma ho sa v1 0).bind fun g4 => (if (g4 + r) ≤ 48 then b_X5_back_136 ma ti ho sa cl v1 v2 r false thc else b_X5_back_136 ma ti ho sa cl v1 v2 r true thc))) else none)) (by
    intro F a v h4 _
    rw [l_X5_back_51, if_pos (mR_end R h4)]) (by
    intro F a v k h4 hk hc
    have hi : inB v 120 = true := inB_t h4 (by omega)
    have e1 := (R.2.2 k hk).1
    have hk9 : k < 120 := by omega
    rw [l_X5_back_51, if_neg (mR_in R h4 hk)]
    simp only [hi, if_true, clampN h4]
    by_cases c1 : Hm k = h
    · rw [if_pos ((mR_ho R hv hk).mpr c1)]
      by_cases c2 : X k = 1
      · rw [if_pos ((mR_sa R (x := 1) t1 hk).mpr c2)]
        by_cases c3 : (T k : Int) ≤ x
        · rw [if_pos (leI e1 h2 c3)]
          exact ⟨_, rfl, zero_up hk9 hc (fun z => by have := bp_t.mp z; omega)⟩
        · rw [if_neg (nleI e1 h2 (by omega))]
          exact ⟨_, rfl, one_up hk9 hc (bp_t.mpr ⟨c1, c2, by omega⟩)⟩
      · rw [if_neg (fun z => c2 ((mR_sa R (x := 1) t1 hk).mp z))]
        exact ⟨_, rfl, zero_up hk9 hc (fun z => c2 (bp_t.mp z).2.1)⟩
    · rw [if_neg (fun z => c1 ((mR_ho R hv hk).mp z))]
      exact ⟨_, rfl, zero_up hk9 hc (fun z => c1 (bp_t.mp z).1)⟩) 0 (by simp [cb, t0])
  exact ⟨a, hc, e⟩
theorem back_148 (R : mR n T S W Hm X ma ti sp we ho sa) (hv : v1.toInt = h) (hh : h < 4) {v2 : Int32} {x : Int} (h2 : v2.toInt = x) (cl : Nat → Int32) (v3 thc : Int32) : ∃ sa', l_X5_back_148 ma ti ho cl v1 v2 v3 thc FU 0 sa = some (v3, thc, sa', upd cl h v2) ∧ mR n T S W Hm (fun b => if bp T Hm X h x b = true then 0 else X b) ma ti sp we ho sa' := by
  have hn := R.1
  have hi4 : inB v1 4 = true := inB_t hv hh
  obtain ⟨a, e, R'⟩ := lpN hn (fun F (a : Nat → Int32) v => l_X5_back_148 ma ti ho cl v1 v2 v3 thc F v a) (fun k a => mR n T S W Hm (fun b => if b < k ∧ bp T Hm X h x b = true then 0 else X b) ma ti sp we ho a) (fun a => some (v3, thc, a, upd cl h v2)) (by
    intro F a v h4 _
    rw [l_X5_back_148, if_pos (mR_end R h4), if_pos hi4, clampN hv]) (by
    intro F a v k h4 hk R'
    have hi : inB v 120 = true := inB_t h4 (by omega)
    have e1 := (R.2.2 k hk).1
    have sk : ¬ bp T Hm X h x k = true → mR n T S W Hm (fun b => if b < k + 1 ∧ bp T Hm X h x b = true then 0 else X b) ma ti sp we ho a := fun z => mR_X R' (fun b _ => cut_X X z b)
    have hs := mR_sa R' (x := 1) t1 hk
    simp only [Nat.lt_irrefl, false_and, if_false] at hs
    rw [l_X5_back_148, if_neg (mR_in R h4 hk)]
    simp only [hi, if_true, clampN h4]
    by_cases c1 : Hm k = h
    · rw [if_pos ((mR_ho R hv hk).mpr c1)]
      by_cases c2 : X k = 1
      · rw [if_pos (hs.mpr c2)]
        by_cases c3 : (T k : Int) ≤ x
        · rw [if_pos (leI e1 h2 c3)]
          exact ⟨_, rfl, sk (fun z => by have := bp_t.mp z; omega)⟩
        · rw [if_neg (nleI e1 h2 (by omega))]
          have hp : bp T Hm X h x k = true := bp_t.mpr ⟨c1, c2, by omega⟩
          refine ⟨upd a k 0, rfl, ?_⟩
          have := mR_setX R' h4 (w := 0) (x := 0) t0 (fun b _ => set_X (x := 0) X hp b)
          rw [clampN h4] at this
          exact this
      · rw [if_neg (fun z => c2 (hs.mp z))]
        exact ⟨_, rfl, sk (fun z => c2 (bp_t.mp z).2.1)⟩
    · rw [if_neg (fun z => c1 ((mR_ho R hv hk).mp z))]
      exact ⟨_, rfl, sk (fun z => c1 (bp_t.mp z).1)⟩) sa (mR_X R (fun b _ => if_neg (fun z => Nat.not_lt_zero _ z.1)))
  exact ⟨a, e, mR_X R' (fun b hb => end_X X b hb)⟩
/-! least and greatest -/
def lowOf (P : Int → Prop) (v : Int) : Prop := (∀ y, P y → v ≤ y) ∧ (v = 100000 ∨ P v)
theorem low_skip {P P' : Int → Prop} {v : Int} (h : lowOf P v) (e : ∀ y, P' y ↔ P y) : lowOf P' v :=
  ⟨fun y hy => h.1 y ((e y).mp hy), h.2.imp id (e v).mpr⟩
theorem low_add {P P' : Int → Prop} {v w : Int} (h : lowOf P v) (hw : w < v) (e : ∀ y, P' y ↔ P y ∨ y = w) : lowOf P' w :=
  ⟨fun y hy => by rcases (e y).mp hy with z | z; · have := h.1 y z; omega
                  · omega, Or.inr ((e w).mpr (Or.inr rfl))⟩
theorem low_old {P P' : Int → Prop} {v x : Int} (h : lowOf P v) (hx : v ≤ x) (e : ∀ y, P' y ↔ P y ∨ y = x) : lowOf P' v :=
  ⟨fun y hy => by rcases (e y).mp hy with z | z; · exact h.1 y z
                  · omega, h.2.imp id (fun z => (e v).mpr (Or.inl z))⟩
theorem low_top {P : Int → Prop} (h : ∀ y, ¬ P y) : lowOf P 100000 := ⟨fun y hy => absurd hy (h y), Or.inl rfl⟩
theorem low_one {P : Int → Prop} {v w : Int} (b : ∀ y, P y → y < 100000) (h : lowOf P v) (h' : lowOf P w) : v = w := by
  rcases h.2 with e | e
  · rcases h'.2 with e' | e'
    · omega
    · have := h.1 w e'; have := b w e'; omega
  · rcases h'.2 with e' | e'
    · have := h'.1 v e; have := b v e; omega
    · have := h.1 w e'; have := h'.1 v e; omega
/-- said of the first k -/
def kP (k : Nat) (p : Nat → Prop) (key : Nat → Int) (y : Int) : Prop := ∃ b, b < k ∧ p b ∧ y = key b
theorem kP_0 {p : Nat → Prop} {key : Nat → Int} (y : Int) : ¬ kP 0 p key y := fun ⟨b, hb, _⟩ => absurd hb (Nat.not_lt_zero b)
theorem kP_no {k : Nat} {p : Nat → Prop} {key : Nat → Int} (hp : ¬ p k) (y : Int) : kP (k + 1) p key y ↔ kP k p key y := by
  constructor
  · rintro ⟨b, hb, h1, h2⟩
    rcases lt_so hb with hb | rfl
    · exact ⟨b, hb, h1, h2⟩
    · exact absurd h1 hp
  · rintro ⟨b, hb, h1, h2⟩
    exact ⟨b, by omega, h1, h2⟩
theorem kP_yes {k : Nat} {p : Nat → Prop} {key : Nat → Int} (hp : p k) (y : Int) : kP (k + 1) p key y ↔ kP k p key y ∨ y = key k := by
  constructor
  · rintro ⟨b, hb, h1, h2⟩
    rcases lt_so hb with hb | rfl
    · exact Or.inl ⟨b, hb, h1, h2⟩
    · exact Or.inr h2
  · rintro (⟨b, hb, h1, h2⟩ | e)
    · exact ⟨b, by omega, h1, h2⟩
    · exact ⟨k, by omega, hp, e⟩
theorem nextTime_l (R : mR n T S W Hm X ma ti sp we ho sa) (hv : v1.toInt = h) {v2 : Int32} {x : Int} (h2 : v2.toInt = x) (thc : Int32) : ∃ r : Int32, lowOf (kP n (fun b => Hm b = h ∧ X b = 0 ∧ x ≤ (T b : Int)) (fun b => T b)) r.toInt ∧ l_X5_nextTime_28 ma ti ho sa v1 v2 thc FU 100000 0 = (if r = 100000 then b_X5_nextTime_99 r true thc else b_X5_nextTime_99 r false thc) := by
  have hn := R.1
  obtain ⟨a, e, hc⟩ := lpN hn (fun F (a : Int32) v => l_X5_nextTime_28 ma ti ho sa v1 v2 thc F a v) (fun k a => lowOf (kP k (fun b => Hm b = h ∧ X b = 0 ∧ x ≤ (T b : Int)) (fun b => T b)) a.toInt) (fun r => (if r = 100000 then b_X5_nextTime_99 r true thc else b_X5_nextTime_99 r false thc)) (by
    intro F a v h4 _
    rw [l_X5_nextTime_28, if_pos (mR_end R h4)]) (by
    intro F a v k h4 hk hc
    have hi : inB v 120 = true := inB_t h4 (by omega)
    have e1 := (R.2.2 k hk).1
    rw [l_X5_nextTime_28, if_neg (mR_in R h4 hk), isWaiting_k R hv h4 hk]
    simp only [Option.bind_some, hi, if_true, clampN h4]
    by_cases c1 : Hm k = h ∧ X k = 0
    · rw [decide_eq_true c1, if_neg bIt0]
      by_cases c2 : (T k : Int) < x
      · rw [if_pos (ltI e1 h2 c2)]
        exact ⟨a, rfl, low_skip hc (kP_no (fun z => by have := z.2.2; omega))⟩
      · rw [if_neg (nltI e1 h2 (by omega))]
        have pk : Hm k = h ∧ X k = 0 ∧ x ≤ (T k : Int) := ⟨c1.1, c1.2, by omega⟩
        by_cases c3 : a.toInt ≤ (T k : Int)
        · rw [if_pos (leI rfl e1 c3)]
          exact ⟨a, rfl, low_old hc c3 (kP_yes (p := fun b => Hm b = h ∧ X b = 0 ∧ x ≤ (T b : Int)) (key := fun b => (T b : Int)) pk)⟩
        · rw [if_neg (nleI rfl e1 (by omega))]
          refine ⟨ti k, rfl, ?_⟩
          rw [e1]
          exact low_add hc (by omega) (kP_yes (p := fun b => Hm b = h ∧ X b = 0 ∧ x ≤ (T b : Int)) (key := fun b => (T b : Int)) pk)
    · rw [decide_eq_false c1, if_pos bI_f]
      exact ⟨a, rfl, low_skip hc (kP_no (fun z => c1 ⟨z.1, z.2.1⟩))⟩) 100000 (by rw [tF]; exact low_top kP_0)
  exact ⟨a, hc, e⟩
end ML3
