/-! the class's crowd: counts, spans, sums -/
theorem sm_seg0 {f : Nat → Int} {a b : Nat} (hab : a ≤ b) (h : ∀ j, a ≤ j → j < b → f j = 0) : sm b f = sm a f := by
  induction b with
  | zero =>
    have : a = 0 := by omega
    subst this; rfl
  | succ b ih =>
    by_cases c : a = b + 1
    · rw [c]
    · show sm b f + f b = _
      rw [ih (by omega) (fun j h1 h2 => h j h1 (by omega)), h b (by omega) (by omega)]; omega
/-- how many times are busy, of the first k, in a stretch -/
def bc (F : Int → Int) (x y : Int) (k : Nat) : Int := sm k (fun j => if F j ≠ 0 ∧ x ≤ (j : Int) ∧ (j : Int) < y then 1 else 0)
theorem bc_nn (F : Int → Int) (x y : Int) (k : Nat) : 0 ≤ bc F x y k := sm_nn (fun b _ => by split <;> omega)
theorem bc_z (F : Int → Int) (x y : Int) : bc F x y 0 = 0 := rfl
theorem bc_le (F : Int → Int) (x y : Int) (k : Nat) : bc F x y k ≤ k := by
  have := sm_bd (n := k) (f := fun j => if F j ≠ 0 ∧ x ≤ (j : Int) ∧ (j : Int) < y then 1 else 0) (c := 1) (fun b _ => by split <;> omega)
  unfold bc; omega
theorem bc_0 {F : Int → Int} {x y : Int} {a b : Nat} (hab : a ≤ b) (h : ∀ j : Nat, a ≤ j → j < b → F j = 0) : bc F x y b = bc F x y a :=
  sm_seg0 hab (fun j h1 h2 => if_neg (fun z => z.1 (h j h1 h2)))
theorem bc_1 {F : Int → Int} {x y : Int} {a b : Nat} (hab : a ≤ b) (h : ∀ j : Nat, a ≤ j → j < b → F j ≠ 0) : bc F x y b = bc F x y a + max 0 (min y b - max x a) := by
  induction b with
  | zero =>
    have : a = 0 := by omega
    subst this; omega
  | succ b ih =>
    by_cases c : a = b + 1
    · subst c; omega
    · have e : bc F x y (b + 1) = bc F x y b + (if F b ≠ 0 ∧ x ≤ (b : Int) ∧ (b : Int) < y then 1 else 0) := rfl
      rw [e, ih (by omega) (fun j h1 h2 => h j h1 (by omega))]
      have hb := h b (by omega) (by omega)
      by_cases c2 : x ≤ (b : Int) ∧ (b : Int) < y
      · rw [if_pos ⟨hb, c2⟩]; omega
      · rw [if_neg (fun z => c2 z.2)]; omega
/-- how many spans begin at the first k times -/
def sc (F : Int → Int) (k : Nat) : Int := sm k (fun j => if F j ≠ 0 ∧ F ((j : Int) - 1) = 0 then 1 else 0)
theorem sc_nn (F : Int → Int) (k : Nat) : 0 ≤ sc F k := sm_nn (fun b _ => by split <;> omega)
theorem sc_le (F : Int → Int) (k : Nat) : sc F k ≤ k := by
  have := sm_bd (n := k) (f := fun j => if F j ≠ 0 ∧ F ((j : Int) - 1) = 0 then 1 else 0) (c := 1) (fun b _ => by split <;> omega)
  unfold sc; omega
theorem sc_0 {F : Int → Int} {a b : Nat} (hab : a ≤ b) (h : ∀ j : Nat, a ≤ j → j < b → ¬ (F j ≠ 0 ∧ F ((j : Int) - 1) = 0)) : sc F b = sc F a :=
  sm_seg0 hab (fun j h1 h2 => if_neg (h j h1 h2))
theorem sc_1 {F : Int → Int} {a : Nat} (h : F a ≠ 0 ∧ F ((a : Int) - 1) = 0) : sc F (a + 1) = sc F a + 1 := by
  exact congrArg (fun z => sc F a + z) (if_pos h)
theorem sc_mono {F : Int → Int} {a b : Nat} (hab : a ≤ b) : sc F a ≤ sc F b := by
  induction b with
  | zero =>
    have : a = 0 := by omega
    subst this; exact Int.le_refl _
  | succ b ih =>
    by_cases c : a = b + 1
    · rw [c]; exact Int.le_refl _
    · have e : sc F (b + 1) = sc F b + (if F b ≠ 0 ∧ F ((b : Int) - 1) = 0 then 1 else 0) := rfl
      have := ih (by omega)
      rw [e]
      split <;> omega
theorem sc_inj {F : Int → Int} {a b : Nat} (ha : F a ≠ 0 ∧ F ((a : Int) - 1) = 0) (hb : F b ≠ 0 ∧ F ((b : Int) - 1) = 0) (h : sc F a = sc F b) : a = b := by
  have h1 := sc_1 ha
  have h2 := sc_1 hb
  by_cases c : a < b
  · have := sc_mono (F := F) (a := a + 1) (b := b) (by omega); omega
  · by_cases c2 : b < a
    · have := sc_mono (F := F) (a := b + 1) (b := a) (by omega); omega
    · omega
def nx : CL → Nat
  | [] => 10500
  | p :: _ => p.1.toNat
theorem mom_app (A : CL) (p : Int × Int) : mom (A ++ [p]) = mom A + p.1 * p.2 := by
  induction A with
  | nil => simp [mom]
  | cons a A ih => rw [List.cons_append, mom, ih, mom]; omega
theorem ring1 (a d m p q : Int) : (a + d) * q - (m + p * d) = (a * p - m) + (a + d) * (q - p) := by
  rw [Int.mul_sub, Int.add_mul, Int.add_mul, Int.mul_comm p d]; omega
theorem ifmin {a b : Int32} {x y : Int} (h1 : a.toInt = x) (h2 : b.toInt = y) : (if a < b then a else b).toInt = min x y := by
  by_cases c : x < y
  · rw [if_pos (ltI h1 h2 c)]; omega
  · rw [if_neg (nltI h1 h2 (by omega))]; omega
theorem ifmax {a b : Int32} {x y : Int} (h1 : a.toInt = x) (h2 : b.toInt = y) : (if a < b then b else a).toInt = max x y := by
  by_cases c : x < y
  · rw [if_pos (ltI h1 h2 c)]; omega
  · rw [if_neg (nltI h1 h2 (by omega))]; omega
theorem lpL {β γ : Type} {L : CL} (l : Nat → β → Int32 → Option γ) (I : CL → CL → β → Prop) (Q : Option γ → Prop) (hl : L.length ≤ 240)
    (he : ∀ F a v, v.toInt = ((L.length : Nat) : Int) → I L [] a → Q (l (F + 1) a v))
    (hs : ∀ F a v A p B, L = A ++ p :: B → v.toInt = ((A.length : Nat) : Int) → I A (p :: B) a → (∃ a', l (F + 1) a v = l F a' (v + 1) ∧ I (A ++ [p]) B a') ∨ Q (l (F + 1) a v)) :
    ∀ (B A : CL) (F : Nat) (a : β) (v : Int32), L = A ++ B → v.toInt = ((A.length : Nat) : Int) → B.length < F → I A B a → Q (l F a v) := by
  intro B
  induction B with
  | nil =>
    intro A F a v e hv hF hI
    obtain ⟨F, rfl⟩ : ∃ F', F = F' + 1 := ⟨F - 1, by omega⟩
    rw [List.append_nil] at e
    subst e
    exact he F a v hv hI
  | cons p B ih =>
    intro A F a v e hv hF hI
    rw [List.length_cons] at hF
    obtain ⟨F, rfl⟩ : ∃ F', F = F' + 1 := ⟨F - 1, by omega⟩
    rcases hs F a v A p B e hv hI with ⟨a', e2, hI'⟩ | hq
    · have hlen : L.length = A.length + (B.length + 1) := by rw [e]; simp
      rw [e2]
      exact ih (A ++ [p]) F a' (v + 1) (by rw [e]; simp) (by rw [inc_t hv (by omega)]; simp) (by omega) hI'
    · exact hq
section Q2
variable {n : Nat} {T S W : Nat → Nat} {C : Nat → Bool} {t c : RS} {L A B : CL} {p : Int × Int} {v : Int32}
theorem sz_end (hr : rpC t c L) (h4 : v.toInt = ((L.length : Nat) : Int)) : t.2 ≤ v := leI (rpC_sz hr) h4 (Int.le_refl _)
theorem sz_in (hr : rpC t c (A ++ p :: B)) (h4 : v.toInt = ((A.length : Nat) : Int)) : ¬ t.2 ≤ v := nleI (rpC_sz hr) h4 (by simp; omega)
theorem sg_nx (ok : okB n T S W) (h : canon n T S W C (A ++ p :: B)) : 0 ≤ p.1 ∧ p.1 < nx B ∧ nx B ≤ 10500 ∧ p.2 ≠ 0 ∧ ∀ y, p.1 ≤ y → y < nx B → FF n T S W C y = tot A + p.2 := by
  have b1 := (canon_b ok h (p := p) (by simp)).1
  have n1 := h.2.1 p (by simp)
  cases B with
  | nil =>
    refine ⟨b1.1, by simp only [nx]; omega, Nat.le_refl _, n1, fun y h1 _ => sg3 h h1 (fun q hq => by cases hq)⟩
  | cons q B =>
    have b2 := (canon_b ok h (p := q) (by simp)).1
    have hlt := (sg_lt h).2 q List.mem_cons_self
    refine ⟨b1.1, by simp only [nx]; omega, by simp only [nx]; omega, n1, fun y h1 h2 => sg3 h h1 (fun z hz => ?_)⟩
    simp only [nx] at h2
    rcases List.mem_cons.mp hz with rfl | hz
    · omega
    · have s2 := (srt_last h.1).2.1
      have := s2.2.1 z hz
      omega
theorem sg_lo (ok : okB n T S W) (h : canon n T S W C L) : ∀ y : Int, y < nx L → FF n T S W C y = 0 := by
  intro y hy
  cases L with
  | nil => exact FF_lo ok h (fun q hq => by cases hq)
  | cons q L =>
    have b2 := (canon_b ok h (p := q) (by simp)).1
    simp only [nx] at hy
    refine FF_lo ok h (fun z hz => ?_)
    rcases List.mem_cons.mp hz with rfl | hz
    · omega
    · have := h.1.1 z hz
      omega
theorem now_t (ok : okB n T S W) (hr : rpC t c (A ++ p :: B)) (h : canon n T S W C (A ++ p :: B)) {a : Int32} (ha : a.toInt = tot A) : (a + iz p.2).toInt = tot A + p.2 ∧ 0 ≤ tot A + p.2 ∧ tot A + p.2 ≤ 1080 ∧ 0 ≤ tot A ∧ tot A ≤ 1080 := by
  have b1 := sg_totA ok h
  have b2 := sg_totA ok (sg_app h)
  rw [tot_app] at b2
  have e2 := rpC_2 hr
  exact ⟨by rw [ta (by omega) (by omega), ha, e2], b2.1, b2.2, b1⟩
theorem last_0 (ok : okB n T S W) (h : canon n T S W C (A ++ p :: B)) (hz : tot A + p.2 ≠ 0) : ∃ q B', B = q :: B' := by
  cases B with
  | nil =>
    have := sg_end ok h
    rw [tot_app] at this
    exact absurd this hz
  | cons q B' => exact ⟨q, B', rfl⟩
theorem nxt_get (hr : rpC t c (A ++ p :: B)) (h4 : v.toInt = ((A.length : Nat) : Int)) : ∃ w, f_X3_get 240 t (v + 1) = some w ∧ ∀ q B', B = q :: B' → w.toInt = q.1 := by
  have hl := rpC_len hr
  rw [List.length_append, List.length_cons] at hl
  have h5 := inc_t h4 (by omega)
  cases B with
  | nil => exact ⟨0, rpC_t_end hr (by rw [h5]; simp), fun q B' e => by cases e⟩
  | cons q B =>
    have hr' : rpC t c ((A ++ [p]) ++ q :: B) := by rw [List.append_assoc]; exact hr
    exact ⟨iz q.1, rpC_t hr' (by rw [h5]; simp), fun q' B' e => by cases e; exact rpC_1 hr'⟩
theorem busyTimes_s (ok : okB n T S W) (hr : rpC t c L) (h : canon n T S W C L) {v1 v2 : Int32} {x y : Int} (h1 : v1.toInt = x) (h2 : v2.toInt = y) : ∃ r, f_X0_busyTimes t c v1 v2 = some r ∧ r.toInt = bc (FF n T S W C) x y 10500 := by
  have hl := rpC_len hr
  refine lpL (L := L) (fun F (a : Int32 × Int32) v => l_X0_busyTimes_8 t c v1 v2 F a.1 a.2 v) (fun A B a => a.1.toInt = tot A ∧ a.2.toInt = bc (FF n T S W C) x y (nx B)) (fun o => ∃ r, o = some r ∧ r.toInt = bc (FF n T S W C) x y 10500) hl ?_ ?_ L [] FU (0, 0) 0 rfl t0 (by show _ < 1000000; omega) ⟨t0, ?_⟩
  · intro F a v h4 hI
    show ∃ r, l_X0_busyTimes_8 t c v1 v2 (F + 1) a.1 a.2 v = some r ∧ _
    rw [l_X0_busyTimes_8, sz_t]
    simp only [Option.bind_some]
    rw [if_pos (sz_end hr h4)]
    exact ⟨_, rfl, hI.2⟩
  · rintro F a v A p B e h4 ⟨i1, i2⟩
    subst e
    refine Or.inl ?_
    show ∃ a' : Int32 × Int32, l_X0_busyTimes_8 t c v1 v2 (F + 1) a.1 a.2 v = l_X0_busyTimes_8 t c v1 v2 F a'.1 a'.2 (v + 1) ∧ _
    obtain ⟨w, ew, hw⟩ := nxt_get hr h4
    obtain ⟨n1, n2, n3, n4, n5⟩ := now_t ok hr h i1
    obtain ⟨g1, g2, g3, g4, g5⟩ := sg_nx ok h
    have bd := bc_nn (FF n T S W C) x y (nx (p :: B))
    have bd2 := bc_le (FF n T S W C) x y (nx (p :: B))
    have enx : nx (p :: B) = p.1.toNat := rfl
    rw [l_X0_busyTimes_8, sz_t]
    simp only [Option.bind_some]
    rw [if_neg (sz_in hr h4), rpC_c hr h4, rpC_t hr h4, ew]
    simp only [Option.bind_some]
    by_cases hz : tot A + p.2 = 0
    · rw [if_pos (eqI2 n1 t0 hz)]
      refine ⟨(_, a.2), rfl, by rw [tot_app]; exact n1, ?_⟩
      show a.2.toInt = _
      rw [i2, enx]
      exact (bc_0 (by omega) (fun j h1 h2 => by rw [g5 j (by omega) (by omega)]; exact hz)).symm
    · rw [if_neg (neI n1 t0 hz)]
      obtain ⟨q, B', rfl⟩ := last_0 ok h hz
      have hw2 := hw q B' rfl
      have eq1 : nx (q :: B') = q.1.toNat := rfl
      have bq := (canon_b ok h (p := q) (by simp)).1
      have eE : (if w < v2 then w else v2).toInt = min q.1 y := ifmin hw2 h2
      have eB : (if v1 < iz p.1 then iz p.1 else v1).toInt = max x p.1 := ifmax h1 (rpC_1 hr)
      have seg := bc_1 (F := FF n T S W C) (x := x) (y := y) (a := nx (p :: B'.cons q)) (b := nx (q :: B')) (by omega) (fun j h1 h2 => by rw [g5 j (by omega) (by omega)]; exact hz)
      rw [enx, eq1] at seg
      by_cases c1 : min q.1 y ≤ max x p.1
      · rw [if_pos (leI eE eB c1)]
        refine ⟨(_, a.2), rfl, by rw [tot_app]; exact n1, ?_⟩
        show a.2.toInt = _
        rw [i2, enx, eq1]; omega
      · rw [if_neg (nleI eE eB (by omega))]
        refine ⟨(_, _), rfl, by rw [tot_app]; exact n1, ?_⟩
        have e3 : ((if w < v2 then w else v2) - (if v1 < iz p.1 then iz p.1 else v1)).toInt = min q.1 y - max x p.1 := by rw [tb (by omega) (by omega), eE, eB]
        show (a.2 + _).toInt = _
        rw [ta (by omega) (by omega), e3, i2, enx, eq1]; omega
  · show (0 : Int32).toInt = _
    rw [t0, bc_0 (a := 0) (Nat.zero_le _) (fun j _ h2 => sg_lo ok h j (by omega))]; rfl
theorem last_at (hr : rpC t c (A ++ [p])) : ((t.2 - 1) : Int32).toInt = ((A.length : Nat) : Int) := by
  have := rpC_sz hr
  have hl := rpC_len hr
  rw [List.length_append, List.length_singleton] at this hl
  exact (dec_t this (by omega)).1
theorem allBusy_s (ok : okB n T S W) (hr : rpC t c L) (h : canon n T S W C L) : ∃ r, f_X0_allBusyTimes t c = some r ∧ r.toInt = bc (FF n T S W C) 0 100000 10500 := by
  unfold f_X0_allBusyTimes
  rw [sz_t]
  simp only [Option.bind_some]
  rcases List.eq_nil_or_concat L with rfl | ⟨A, p, rfl⟩
  · have := rpC_sz hr
    rw [rp_get_out hr.1 (Or.inl (by rw [tb (by rw [t1]; simp at this; omega) (by rw [t1]; simp at this; omega), t1]; simp at this; omega))]
    simp only [Option.bind_some]
    obtain ⟨r, e, hr2⟩ := busyTimes_s ok hr h (v1 := 0) (v2 := 0) t0 t0
    rw [e]
    refine ⟨r, rfl, ?_⟩
    rw [hr2, bc_0 (a := 0) (Nat.zero_le _) (fun j _ h2 => sg_lo ok h j (by simp only [nx]; omega)), bc_0 (a := 0) (b := 10500) (Nat.zero_le _) (fun j _ h2 => sg_lo ok h j (by simp only [nx]; omega)), bc_z, bc_z]
  · rw [List.concat_eq_append] at hr h
    have hr' : rpC t c (A ++ p :: []) := hr
    rw [rpC_t hr' (last_at hr)]
    simp only [Option.bind_some]
    obtain ⟨r, e, hr2⟩ := busyTimes_s ok hr h (v1 := 0) (v2 := iz p.1) t0 (rpC_1 hr')
    rw [e]
    refine ⟨r, rfl, ?_⟩
    rw [hr2]
    have s0 := sg_end ok h
    rw [tot_app] at s0
    refine sm_congr (fun j hj => ?_)
    by_cases c1 : FF n T S W C j ≠ 0 ∧ (0 : Int) ≤ (j : Int) ∧ (j : Int) < p.1
    · rw [if_pos c1, if_pos ⟨c1.1, c1.2.1, by omega⟩]
    · rw [if_neg c1, if_neg (fun z => c1 ⟨z.1, z.2.1, ?_⟩)]
      by_cases c2 : p.1 ≤ (j : Int)
      · exact absurd (by rw [sg3 (B := []) h c2 (fun q hq => by cases hq)]; exact s0) z.1
      · omega
theorem total_s (ok : okB n T S W) (hr : rpC t c L) (h : canon n T S W C L) : ∃ r, f_X0_total t c = some r ∧ r.toInt = -(mom L) := by
  have hl := rpC_len hr
  refine lpL (L := L) (fun F (a : Int32 × Int64) v => l_X0_total_7 t c F a.1 a.2 v) (fun A B a => a.1.toInt = tot A ∧ a.2.toInt = tot A * nx B - mom A ∧ 0 ≤ a.2.toInt ∧ a.2.toInt ≤ 1080 * (nx B : Int)) (fun o => ∃ r, o = some r ∧ r.toInt = -(mom L)) hl ?_ ?_ L [] FU (0, 0) 0 rfl t0 (by show _ < 1000000; omega) ⟨t0, by simp [tot, mom], by simp, by simp; omega⟩
  · rintro F a v h4 ⟨i1, i2, -⟩
    show ∃ r, l_X0_total_7 t c (F + 1) a.1 a.2 v = some r ∧ _
    rw [l_X0_total_7, sz_t]
    simp only [Option.bind_some]
    rw [if_pos (sz_end hr h4)]
    refine ⟨_, rfl, ?_⟩
    rw [i2, sg_end ok h]; omega
  · rintro F a v A p B e h4 ⟨i1, i2, i3, i4⟩
    subst e
    refine Or.inl ?_
    show ∃ a' : Int32 × Int64, l_X0_total_7 t c (F + 1) a.1 a.2 v = l_X0_total_7 t c F a'.1 a'.2 (v + 1) ∧ _
    obtain ⟨w, ew, hw⟩ := nxt_get hr h4
    obtain ⟨n1, n2, n3, n4, n5⟩ := now_t ok hr h i1
    obtain ⟨g1, g2, g3, g4, g5⟩ := sg_nx ok h
    have enx : (nx (p :: B) : Int) = p.1 := by simp only [nx]; omega
    rw [enx] at i2 i4
    have r1 := ring1 (tot A) p.2 (mom A) p.1 (nx B)
    rw [l_X0_total_7, sz_t]
    simp only [Option.bind_some]
    rw [if_neg (sz_in hr h4), rpC_c hr h4, rpC_t hr h4, ew]
    simp only [Option.bind_some]
    by_cases hz : tot A + p.2 = 0
    · rw [if_pos (eqI2 n1 t0 hz)]
      rw [hz, Int.zero_mul, Int.zero_mul] at r1
      refine ⟨(_, a.2), rfl, by rw [tot_app]; exact n1, ?_, i3, by show a.2.toInt ≤ _; omega⟩
      show a.2.toInt = _
      rw [tot_app, mom_app, hz, Int.zero_mul]; omega
    · rw [if_neg (neI n1 t0 hz)]
      obtain ⟨q, B', rfl⟩ := last_0 ok h hz
      have hw2 := hw q B' rfl
      have bq := (canon_b ok h (p := q) (by simp)).1
      have bp := (canon_b ok h (p := p) (by simp)).1
      have eq1 : (nx (q :: B') : Int) = q.1 := by simp only [nx]; omega
      rw [eq1] at r1 g2
      have hp1 := rpC_1 hr
      have e3 : (w - iz p.1).toInt = q.1 - p.1 := by rw [tb (by omega) (by omega)]; omega
      have m1 : 0 ≤ (tot A + p.2) * (q.1 - p.1) := Int.mul_nonneg (by omega) (by omega)
      have m2 : (tot A + p.2) * (q.1 - p.1) ≤ 1080 * (q.1 - p.1) := Int.mul_le_mul_of_nonneg_right (by omega) (by omega)
      have e4 : ((a.1 + iz p.2).toInt64 * (w - iz p.1).toInt64).toInt = (tot A + p.2) * (q.1 - p.1) := by
        have z : ((a.1 + iz p.2).toInt64).toInt * ((w - iz p.1).toInt64).toInt = (tot A + p.2) * (q.1 - p.1) := by rw [Int32.toInt_toInt64, Int32.toInt_toInt64, n1, e3]
        rw [tm6 (by omega) (by omega), z]
      have e5 : (a.2 + ((a.1 + iz p.2).toInt64 * (w - iz p.1).toInt64)).toInt = a.2.toInt + (tot A + p.2) * (q.1 - p.1) := by rw [ta6 (by omega) (by omega), e4]
      refine ⟨(_, _), rfl, by rw [tot_app]; exact n1, ?_, ?_, ?_⟩
      · show (a.2 + _).toInt = _
        rw [e5, tot_app, mom_app, eq1]; omega
      · show 0 ≤ (a.2 + _).toInt
        rw [e5]; omega
      · show (a.2 + _).toInt ≤ _
        rw [e5, eq1]; omega
theorem isLevel_s (ok : okB n T S W) (hr : rpC t c L) (h : canon n T S W C L) : f_X0_isLevelInTheEnd c = some true := by
  have hl := rpC_len hr
  refine lpL (L := L) (fun F (a : Int32) v => l_X0_isLevelInTheEnd_4 c F a v) (fun A B a => a.toInt = tot A) (fun o => o = some true) hl ?_ ?_ L [] FU 0 0 rfl t0 (by show _ < 1000000; omega) t0
  · intro F a v h4 i1
    show l_X0_isLevelInTheEnd_4 c (F + 1) a v = some true
    rw [l_X0_isLevelInTheEnd_4, sz_t]
    simp only [Option.bind_some]
    rw [if_pos (leI (rpC_szc hr) h4 (Int.le_refl _)), if_pos (eqI2 i1 t0 (sg_end ok h))]
  · intro F a v A p B e h4 i1
    subst e
    refine Or.inl ?_
    show ∃ a', l_X0_isLevelInTheEnd_4 c (F + 1) a v = l_X0_isLevelInTheEnd_4 c F a' (v + 1) ∧ _
    obtain ⟨n1, n2, n3, n4, n5⟩ := now_t ok hr h i1
    rw [l_X0_isLevelInTheEnd_4, sz_t]
    simp only [Option.bind_some]
    rw [if_neg (nleI (rpC_szc hr) h4 (by simp; omega)), rpC_c hr h4]
    exact ⟨_, rfl, by rw [tot_app]; exact n1⟩
theorem isOverAt_s (ok : okB n T S W) (hr : rpC t c L) (h : canon n T S W C L) {v1 : Int32} {x : Int} (h1 : v1.toInt = x) : ∃ r, f_X0_isOverAt t v1 = some r ∧ (r = true ↔ ∀ y, x ≤ y → FF n T S W C y = 0) := by
  unfold f_X0_isOverAt
  rw [isEmpty_s hr]
  simp only [Option.bind_some]
  rcases List.eq_nil_or_concat L with rfl | ⟨A, p, rfl⟩
  · rw [decide_eq_true (show ([] : CL) = [] from rfl), if_neg bIt0]
    exact ⟨true, rfl, fun _ y _ => FF_lo ok h (fun q hq => by cases hq), fun _ => rfl⟩
  · rw [List.concat_eq_append] at *
    have hr' : rpC t c (A ++ p :: []) := hr
    rw [decide_eq_false (by simp), if_pos bI_f, sz_t]
    simp only [Option.bind_some]
    rw [rpC_t hr' (last_at hr)]
    simp only [Option.bind_some]
    have s0 := sg_end ok h
    rw [tot_app] at s0
    by_cases c1 : x < p.1
    · rw [if_pos (ltI h1 (rpC_1 hr') c1)]
      refine ⟨false, rfl, fun z => (by cases z), fun z => ?_⟩
      have := z (p.1 - 1) (by omega)
      rw [sg1 (B := []) h] at this
      have n1 := h.2.1 p (by simp)
      omega
    · rw [if_neg (nltI h1 (rpC_1 hr') (by omega))]
      refine ⟨true, rfl, fun _ y hy => ?_, fun _ => rfl⟩
      rw [sg3 (B := []) h (y := y) (by omega) (fun q hq => by cases hq)]
      exact s0
theorem sc_seg (ok : okB n T S W) (h : canon n T S W C (A ++ p :: B)) : sc (FF n T S W C) (nx B) = sc (FF n T S W C) (nx (p :: B)) + if tot A = 0 then 1 else 0 := by
  obtain ⟨g1, g2, g3, g4, g5⟩ := sg_nx ok h
  have enx : nx (p :: B) = p.1.toNat := rfl
  have s1 : sc (FF n T S W C) (nx B) = sc (FF n T S W C) (p.1.toNat + 1) := sc_0 (by omega) (fun j h1 h2 z => by
    rw [g5 j (by omega) (by omega), g5 ((j : Int) - 1) (by omega) (by omega)] at z
    exact z.1 z.2)
  have e0 : ((p.1.toNat : Nat) : Int) = p.1 := by omega
  have e1 := sg1 h
  have e2 := sg2 h
  rw [s1, enx]
  by_cases c1 : tot A = 0
  · rw [if_pos c1]
    exact sc_1 (by rw [e0, e1, e2]; omega)
  · rw [if_neg c1]
    have : sc (FF n T S W C) (p.1.toNat + 1) = sc (FF n T S W C) p.1.toNat := sc_0 (by omega) (fun j h1 h2 z => by
      have : j = p.1.toNat := by omega
      subst this
      rw [e0, e1] at z
      exact c1 z.2)
    omega
theorem busySpans_s (ok : okB n T S W) (hr : rpC t c L) (h : canon n T S W C L) : ∃ r, f_X0_busySpans t c = some r ∧ r.toInt = sc (FF n T S W C) 10500 := by
  have hl := rpC_len hr
  refine lpL (L := L) (fun F (a : Int32 × Int32) v => l_X0_busySpans_6 t c F a.1 a.2 v) (fun A B a => a.1.toInt = tot A ∧ a.2.toInt = sc (FF n T S W C) (nx B)) (fun o => ∃ r, o = some r ∧ r.toInt = sc (FF n T S W C) 10500) hl ?_ ?_ L [] FU (0, 0) 0 rfl t0 (by show _ < 1000000; omega) ⟨t0, ?_⟩
  · intro F a v h4 hI
    show ∃ r, l_X0_busySpans_6 t c (F + 1) a.1 a.2 v = some r ∧ _
    rw [l_X0_busySpans_6, sz_t]
    simp only [Option.bind_some]
    rw [if_pos (sz_end hr h4)]
    exact ⟨_, rfl, hI.2⟩
  · rintro F a v A p B e h4 ⟨i1, i2⟩
    subst e
    refine Or.inl ?_
    show ∃ a' : Int32 × Int32, l_X0_busySpans_6 t c (F + 1) a.1 a.2 v = l_X0_busySpans_6 t c F a'.1 a'.2 (v + 1) ∧ _
    obtain ⟨n1, n2, n3, n4, n5⟩ := now_t ok hr h i1
    have sg := sc_seg ok h
    have bd := sc_nn (FF n T S W C) (nx (p :: B))
    have bd2 := sc_le (FF n T S W C) (nx (p :: B))
    obtain ⟨g1, g2, g3, g4, g5⟩ := sg_nx ok h
    have enx : nx (p :: B) = p.1.toNat := rfl
    rw [l_X0_busySpans_6, sz_t]
    simp only [Option.bind_some]
    rw [if_neg (sz_in hr h4)]
    unfold b_X0_busySpans_27
    rw [rpC_c hr h4]
    simp only [Option.bind_some]
    by_cases hz : tot A = 0
    · rw [if_pos (eqI2 i1 t0 hz)]
      rw [if_pos hz] at sg
      refine ⟨(_, _), rfl, by rw [tot_app]; exact n1, ?_⟩
      show (a.2 + bI true).toInt = _
      have e1 : (bI true).toInt = 1 := rfl
      rw [ta (by omega) (by omega)]; omega
    · rw [if_neg (neI i1 t0 hz)]
      rw [if_neg hz] at sg
      refine ⟨(_, _), rfl, by rw [tot_app]; exact n1, ?_⟩
      show (a.2 + bI false).toInt = _
      have e1 : (bI false).toInt = 0 := rfl
      rw [ta (by omega) (by omega)]; omega
  · show (0 : Int32).toInt = _
    rw [t0, sc_0 (a := 0) (Nat.zero_le _) (fun j _ h2 z => z.1 (sg_lo ok h j (by omega)))]; rfl
theorem firstChange_s (ok : okB n T S W) (hr : rpC t c L) (h : canon n T S W C L) {v1 : Int32} {x : Int} (h1 : v1.toInt = x) : ∃ r, f_X0_firstChangeOf t c v1 = some r ∧ ((∃ A p B, L = A ++ p :: B ∧ r.toInt = ((A.length : Nat) : Int) ∧ tot A = 0 ∧ sc (FF n T S W C) (nx (p :: B)) = x) ∨ (r = -1 ∧ ∀ A p B, L = A ++ p :: B → tot A = 0 → sc (FF n T S W C) (nx (p :: B)) ≠ x)) := by
  have hl := rpC_len hr
  refine lpL (L := L) (fun F (a : Int32 × Int32) v => l_X0_firstChangeOf_7 t c v1 F a.1 a.2 v) (fun A B a => (a.1.toInt = tot A ∧ a.2.toInt = sc (FF n T S W C) (nx B)) ∧ ∀ A' p' B', L = A' ++ p' :: B' → A'.length < A.length → tot A' = 0 → sc (FF n T S W C) (nx (p' :: B')) ≠ x) (fun o => ∃ r, o = some r ∧ ((∃ A p B, L = A ++ p :: B ∧ r.toInt = ((A.length : Nat) : Int) ∧ tot A = 0 ∧ sc (FF n T S W C) (nx (p :: B)) = x) ∨ (r = -1 ∧ ∀ A p B, L = A ++ p :: B → tot A = 0 → sc (FF n T S W C) (nx (p :: B)) ≠ x))) hl ?_ ?_ L [] FU (0, 0) 0 rfl t0 (by show _ < 1000000; omega) ⟨⟨t0, ?_⟩, fun A' p' B' _ hlt => absurd hlt (Nat.not_lt_zero _)⟩
  · rintro F a v h4 ⟨-, hI⟩
    show ∃ r, l_X0_firstChangeOf_7 t c v1 (F + 1) a.1 a.2 v = some r ∧ _
    rw [l_X0_firstChangeOf_7, sz_t]
    simp only [Option.bind_some]
    rw [if_pos (sz_end hr h4)]
    refine ⟨_, rfl, Or.inr ⟨rfl, fun A p B e => hI A p B e (by rw [e]; simp)⟩⟩
  · rintro F a v A p B e h4 ⟨⟨i1, i2⟩, i3⟩
    show (∃ a' : Int32 × Int32, l_X0_firstChangeOf_7 t c v1 (F + 1) a.1 a.2 v = l_X0_firstChangeOf_7 t c v1 F a'.1 a'.2 (v + 1) ∧ _) ∨ ∃ r, l_X0_firstChangeOf_7 t c v1 (F + 1) a.1 a.2 v = some r ∧ _
    have hr' := hr
    have h' := h
    rw [e] at hr' h'
    obtain ⟨n1, n2, n3, n4, n5⟩ := now_t ok hr' h' i1
    have sg := sc_seg ok h'
    have bd := sc_nn (FF n T S W C) (nx (p :: B))
    have bd2 := sc_le (FF n T S W C) (nx (p :: B))
    obtain ⟨g1, g2, g3, g4, g5⟩ := sg_nx ok h'
    have enx : nx (p :: B) = p.1.toNat := rfl
    have more : (tot A = 0 → sc (FF n T S W C) (nx (p :: B)) ≠ x) → ∀ A' p' B', L = A' ++ p' :: B' → A'.length < (A ++ [p]).length → tot A' = 0 → sc (FF n T S W C) (nx (p' :: B')) ≠ x := by
      intro hn A' p' B' e' hlt h0
      by_cases c1 : A'.length = A.length
      · obtain ⟨q1, q2⟩ := List.append_inj (e'.symm.trans e) c1
        cases q2
        subst q1
        exact hn h0
      · exact i3 A' p' B' e' (by rw [List.length_append, List.length_singleton] at hlt; omega) h0
    rw [l_X0_firstChangeOf_7, sz_t]
    simp only [Option.bind_some]
    rw [if_neg (sz_in hr' h4)]
    unfold b_X0_firstChangeOf_34
    rw [rpC_c hr' h4]
    simp only [Option.bind_some]
    by_cases hz : tot A = 0
    · rw [if_pos (eqI2 i1 t0 hz)]
      rw [if_pos hz] at sg
      by_cases hx : sc (FF n T S W C) (nx (p :: B)) = x
      · rw [if_pos (eqI2 i2 h1 hx)]
        exact Or.inr ⟨v, rfl, Or.inl ⟨A, p, B, e, h4, hz, hx⟩⟩
      · rw [if_neg (neI i2 h1 hx)]
        refine Or.inl ⟨(_, _), rfl, ⟨by rw [tot_app]; exact n1, ?_⟩, more (fun _ => hx)⟩
        show (a.2 + 1).toInt = _
        rw [ta (by rw [t1]; omega) (by rw [t1]; omega), t1]; omega
    · rw [if_neg (neI i1 t0 hz)]
      rw [if_neg hz] at sg
      refine Or.inl ⟨(_, a.2), rfl, ⟨by rw [tot_app]; exact n1, ?_⟩, more (fun z => absurd z hz)⟩
      show a.2.toInt = _
      omega
  · show (0 : Int32).toInt = _
    rw [t0, sc_0 (a := 0) (Nat.zero_le _) (fun j _ h2 z => z.1 (sg_lo ok h j (by omega)))]; rfl
end Q2
