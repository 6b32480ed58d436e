/-! the law's cases: what they hand on -/
abbrev ch (x : Int32) : Int32 := (x.toUInt32 % 65536).toInt32
abbrev lv0 (sb : Nat) (a b : Nat → Nat) (o1 o2 : Nat) (i5 : Int32) : List (Nat × Value) := [(5, .int i5), (0, .ref sb), (1, .ref (a 0)), (2, .ref (b 0)), (3, .ref o1), (4, .ref o2)]
def Kont (E : gE) (X : gX) (a b : Nat → Nat) (o1 o2 sb : Nat) (i5 : Int32) (bd k n : Nat) : Prop := ∀ {fo : Nat → Int64} {fd : Nat → UInt64} {lt ls lw lh lx rt rc : RS} {zf : Nat → Int32} {qf uf tf cf : Nat → RS} {th ma st : Int32} {ti sp we ho sa ca cl : Nat → Int32} {su : Int64}, RQ (bd + 120) lt ls lw lh lx zf qf uf tf cf ma st ti sp we ho sa ca cl → rb rt rc → Gx E X (WW E a b o1 o2 fo fd lt ls lw lh lx rt rc zf qf uf tf cf th ma st ti sp we ho sa ca cl su) 9 (lv0 sb a b o1 o2 i5) [] 2256 (k + 4) (n + 24)
theorem updL0 (f : Nat → Int64) (x : Int64) : vp_updL f 0 x (0 : Int32).toNatClampNeg = x := by first | rfl | simp [vp_updL]
theorem updD0 (f : Nat → UInt64) (x : UInt64) : vf_upd f 0 x (0 : Int32).toNatClampNeg = x := by first | rfl | simp [vf_upd]
theorem cmp0 (x : Int64) : lg_cmp x x = 0 := by simp [lg_cmp]
theorem g_sldv {E : gE} {X : gX} {cc : ByteArray} {nL : Nat} {own : String} {Ts : List Cond} {R0 : Room} {ret : Option FieldType} {hh : List ExceptionTableEntry} {ws : va_W} {lv : List (Nat × Value)} {st : List Value} {pc k n : Nat} {b L : Nat} {xs : Nat → Int32} {i v : Int32} (C : Cx E X cc nL own Ts R0 ret hh) (S : Sx X b L xs) (hin : vp_in i L) (hv : xs i.toNatClampNeg = v) (d : decode cc pc = .ok (.iaload, 1)) (kk : Gx E X ws nL lv (.int v :: st) (pc + 1) k n) : Gx E X ws nL lv (.int i :: .ref b :: st) pc k n := by
  subst hv
  exact g_sld C S hin d kk
theorem houseAt_no {p : Int32} (hp : p.toInt < 0 ∨ 4 ≤ p.toInt) {x : Nat} (h : f_X4_houseAt p = some (.inr x)) : False := by
  rw [houseAt_f hp] at h
  cases h
section BADS
variable {th ma st : Int32} {ti sp we ho sa ca cl : Nat → Int32} {su : Int64} {p1 : Int32}
theorem bad_book (hp : p1.toInt < 0 ∨ 4 ≤ p1.toInt) (p2 p3 p4 : Int32) : f_X4_book_bad p1 = some (.inl "java/lang/IndexOutOfBoundsException") ∧ f_X5_book ma ti sp we ho sa cl p1 p2 p3 p4 = some (0, 1, ma, ti, sp, we, ho, sa) := by
  constructor
  · simp only [f_X4_book_bad, houseAt_f hp, tB_r, tB_l, Option.bind_some, if_neg bIt0, if_pos bI_f, thr_t, thr_f]
  · simp only [f_X5_book, house_f hp, tB_r, tB_l, Option.bind_some, if_neg bIt0, if_pos bI_f, thr_t, thr_f, b_X5_book_104, b_X5_book_59, b_X5_book_13]
theorem bad_series (hp : p1.toInt < 0 ∨ 4 ≤ p1.toInt) (p2 p3 p4 p5 p6 : Int32) : f_X4_series_bad p1 = some (.inl "java/lang/IndexOutOfBoundsException") ∧ f_X5_series ma ti sp we ho sa cl p1 p2 p3 p4 p5 p6 = some (0, 1, ma, ti, sp, we, ho, sa) := by
  constructor
  · simp only [f_X4_series_bad, houseAt_f hp, tB_r, tB_l, Option.bind_some, if_neg bIt0, if_pos bI_f, thr_t, thr_f]
  · simp only [f_X5_series, house_f hp, tB_r, tB_l, Option.bind_some, if_neg bIt0, if_pos bI_f, thr_t, thr_f, b_X5_series_164, b_X5_series_113, b_X5_series_84, b_X5_series_13]
theorem bad_callOff (hp : p1.toInt < 0 ∨ 4 ≤ p1.toInt) (p2 : Int32) : f_X4_callOff_bad p1 = some (.inl "java/lang/IndexOutOfBoundsException") ∧ f_X5_callOff ma ho sa p1 p2 = some (false, 1, sa) := by
  constructor
  · simp only [f_X4_callOff_bad, houseAt_f hp, tB_r, tB_l, Option.bind_some, if_neg bIt0, if_pos bI_f, thr_t, thr_f]
  · simp only [f_X5_callOff, house_f hp, tB_r, tB_l, Option.bind_some, if_neg bIt0, if_pos bI_f, thr_t, thr_f, b_X5_callOff_13]
theorem bad_callOffAll (hp : p1.toInt < 0 ∨ 4 ≤ p1.toInt) (p2 p3 : Int32) : f_X4_callOffAll_bad p1 = some (.inl "java/lang/IndexOutOfBoundsException") ∧ f_X5_callOffAll ma ti ho sa p1 p2 p3 = some (0, 1, sa) := by
  constructor
  · simp only [f_X4_callOffAll_bad, houseAt_f hp, tB_r, tB_l, Option.bind_some, if_neg bIt0, if_pos bI_f, thr_t, thr_f]
  · simp only [f_X5_callOffAll, house_f hp, tB_r, tB_l, Option.bind_some, if_neg bIt0, if_pos bI_f, thr_t, thr_f, b_X5_callOffAll_31, b_X5_callOffAll_13]
theorem bad_put (hp : p1.toInt < 0 ∨ 4 ≤ p1.toInt) (p2 p3 : Int32) : f_X4_put_bad p1 = some (.inl "java/lang/IndexOutOfBoundsException") ∧ f_X5_put ma ti ho sa cl p1 p2 p3 = some (0, 1, ti) := by
  constructor
  · simp only [f_X4_put_bad, houseAt_f hp, tB_r, tB_l, Option.bind_some, if_neg bIt0, if_pos bI_f, thr_t, thr_f]
  · simp only [f_X5_put, house_f hp, tB_r, tB_l, Option.bind_some, if_neg bIt0, if_pos bI_f, thr_t, thr_f, b_X5_put_82, b_X5_put_59, b_X5_put_37, b_X5_put_13]
theorem bad_next (hp : p1.toInt < 0 ∨ 4 ≤ p1.toInt)  : f_X4_next_bad p1 = some (.inl "java/lang/IndexOutOfBoundsException") ∧ f_X5_next ma st ti ho sa ca cl p1 = some (0, 1, st, sa, ca, cl) := by
  constructor
  · simp only [f_X4_next_bad, houseAt_f hp, tB_r, tB_l, Option.bind_some, if_neg bIt0, if_pos bI_f, thr_t, thr_f]
  · simp only [f_X5_next, house_f hp, tB_r, tB_l, Option.bind_some, if_neg bIt0, if_pos bI_f, thr_t, thr_f, b_X5_next_39, b_X5_next_13]
theorem bad_run (hp : p1.toInt < 0 ∨ 4 ≤ p1.toInt) (p2 : Int32) : f_X4_run_bad p1 = some (.inl "java/lang/IndexOutOfBoundsException") ∧ f_X5_run ma st ti ho sa ca cl p1 p2 = some (0, 1, st, sa, ca, cl) := by
  constructor
  · simp only [f_X4_run_bad, houseAt_f hp, tB_r, tB_l, Option.bind_some, if_neg bIt0, if_pos bI_f, thr_t, thr_f]
  · simp only [f_X5_run, house_f hp, tB_r, tB_l, Option.bind_some, if_neg bIt0, if_pos bI_f, thr_t, thr_f, b_X5_run_60, b_X5_run_37, b_X5_run_13]
theorem bad_back (hp : p1.toInt < 0 ∨ 4 ≤ p1.toInt) (p2 : Int32) : f_X4_back_bad p1 = some (.inl "java/lang/IndexOutOfBoundsException") ∧ f_X5_back ma ti ho sa cl p1 p2 = some (0, 1, sa, cl) := by
  constructor
  · simp only [f_X4_back_bad, houseAt_f hp, tB_r, tB_l, Option.bind_some, if_neg bIt0, if_pos bI_f, thr_t, thr_f]
  · simp only [f_X5_back, house_f hp, tB_r, tB_l, Option.bind_some, if_neg bIt0, if_pos bI_f, thr_t, thr_f, b_X5_back_136, b_X5_back_37, b_X5_back_13]
theorem bad_clock (hp : p1.toInt < 0 ∨ 4 ≤ p1.toInt)  : f_X4_clock_bad p1 = some (.inl "java/lang/IndexOutOfBoundsException") ∧ f_X5_clock cl p1 = some (0, 1) := by
  constructor
  · simp only [f_X4_clock_bad, houseAt_f hp, tB_r, tB_l, Option.bind_some, if_neg bIt0, if_pos bI_f, thr_t, thr_f]
  · simp only [f_X5_clock, house_f hp, tB_r, tB_l, Option.bind_some, if_neg bIt0, if_pos bI_f, thr_t, thr_f, b_X5_clock_13]
theorem bad_waiting (hp : p1.toInt < 0 ∨ 4 ≤ p1.toInt)  : f_X4_waiting_bad p1 = some (.inl "java/lang/IndexOutOfBoundsException") ∧ f_X5_waiting ma ho sa p1 = some (0, 1) := by
  constructor
  · simp only [f_X4_waiting_bad, houseAt_f hp, tB_r, tB_l, Option.bind_some, if_neg bIt0, if_pos bI_f, thr_t, thr_f]
  · simp only [f_X5_waiting, house_f hp, tB_r, tB_l, Option.bind_some, if_neg bIt0, if_pos bI_f, thr_t, thr_f, b_X5_waiting_13]
theorem bad_came (hp : p1.toInt < 0 ∨ 4 ≤ p1.toInt)  : f_X4_came_bad p1 = some (.inl "java/lang/IndexOutOfBoundsException") ∧ f_X5_came ma ho sa p1 = some (0, 1) := by
  constructor
  · simp only [f_X4_came_bad, houseAt_f hp, tB_r, tB_l, Option.bind_some, if_neg bIt0, if_pos bI_f, thr_t, thr_f]
  · simp only [f_X5_came, house_f hp, tB_r, tB_l, Option.bind_some, if_neg bIt0, if_pos bI_f, thr_t, thr_f, b_X5_came_13]
theorem bad_waits (hp : p1.toInt < 0 ∨ 4 ≤ p1.toInt) (p2 : Int32) : f_X4_waits_bad p1 = some (.inl "java/lang/IndexOutOfBoundsException") ∧ f_X5_waits ma ti ho sa p1 p2 = some (0, 1) := by
  constructor
  · simp only [f_X4_waits_bad, houseAt_f hp, tB_r, tB_l, Option.bind_some, if_neg bIt0, if_pos bI_f, thr_t, thr_f]
  · simp only [f_X5_waits, house_f hp, tB_r, tB_l, Option.bind_some, if_neg bIt0, if_pos bI_f, thr_t, thr_f, b_X5_waits_70, b_X5_waits_55, b_X5_waits_13]
theorem bad_cameAt (hp : p1.toInt < 0 ∨ 4 ≤ p1.toInt) (p2 : Int32) : f_X4_cameAt_bad p1 = some (.inl "java/lang/IndexOutOfBoundsException") ∧ f_X5_cameAt ma ho sa ca p1 p2 = some (0, 1) := by
  constructor
  · simp only [f_X4_cameAt_bad, houseAt_f hp, tB_r, tB_l, Option.bind_some, if_neg bIt0, if_pos bI_f, thr_t, thr_f]
  · simp only [f_X5_cameAt, house_f hp, tB_r, tB_l, Option.bind_some, if_neg bIt0, if_pos bI_f, thr_t, thr_f, b_X5_cameAt_71, b_X5_cameAt_56, b_X5_cameAt_13]
theorem bad_nextTime (hp : p1.toInt < 0 ∨ 4 ≤ p1.toInt) (p2 : Int32) : f_X4_nextTime_bad p1 = some (.inl "java/lang/IndexOutOfBoundsException") ∧ f_X5_nextTime ma ti ho sa p1 p2 = some (0, 1) := by
  constructor
  · simp only [f_X4_nextTime_bad, houseAt_f hp, tB_r, tB_l, Option.bind_some, if_neg bIt0, if_pos bI_f, thr_t, thr_f]
  · simp only [f_X5_nextTime, house_f hp, tB_r, tB_l, Option.bind_some, if_neg bIt0, if_pos bI_f, thr_t, thr_f, b_X5_nextTime_99, b_X5_nextTime_13]
theorem bad_crowd (hp : p1.toInt < 0 ∨ 4 ≤ p1.toInt) (p2 : Int32) : f_X4_crowd_bad p1 = some (.inl "java/lang/IndexOutOfBoundsException") ∧ f_X5_crowd ma ti sp we ho sa p1 p2 = some (0, 1) := by
  constructor
  · simp only [f_X4_crowd_bad, houseAt_f hp, tB_r, tB_l, Option.bind_some, if_neg bIt0, if_pos bI_f, thr_t, thr_f]
  · simp only [f_X5_crowd, house_f hp, tB_r, tB_l, Option.bind_some, if_neg bIt0, if_pos bI_f, thr_t, thr_f, b_X5_crowd_13]
theorem bad_change (hp : p1.toInt < 0 ∨ 4 ≤ p1.toInt) (p2 : Int32) : f_X4_change_bad p1 = some (.inl "java/lang/IndexOutOfBoundsException") ∧ f_X5_change ma ti sp we ho sa p1 p2 = some (0, 1) := by
  constructor
  · simp only [f_X4_change_bad, houseAt_f hp, tB_r, tB_l, Option.bind_some, if_neg bIt0, if_pos bI_f, thr_t, thr_f]
  · simp only [f_X5_change, house_f hp, tB_r, tB_l, Option.bind_some, if_neg bIt0, if_pos bI_f, thr_t, thr_f, b_X5_change_13]
theorem bad_greatest (hp : p1.toInt < 0 ∨ 4 ≤ p1.toInt)  : f_X4_greatest_bad p1 = some (.inl "java/lang/IndexOutOfBoundsException") ∧ f_X5_greatest ma ti sp we ho sa p1 = some (0, 1) := by
  constructor
  · simp only [f_X4_greatest_bad, houseAt_f hp, tB_r, tB_l, Option.bind_some, if_neg bIt0, if_pos bI_f, thr_t, thr_f]
  · simp only [f_X5_greatest, house_f hp, tB_r, tB_l, Option.bind_some, if_neg bIt0, if_pos bI_f, thr_t, thr_f, b_X5_greatest_13]
theorem bad_greatestFrom (hp : p1.toInt < 0 ∨ 4 ≤ p1.toInt)  : f_X4_greatestFrom_bad p1 = some (.inl "java/lang/IndexOutOfBoundsException") ∧ f_X5_greatestFrom ma ti sp we ho sa p1 = some (0, 1) := by
  constructor
  · simp only [f_X4_greatestFrom_bad, houseAt_f hp, tB_r, tB_l, Option.bind_some, if_neg bIt0, if_pos bI_f, thr_t, thr_f]
  · simp only [f_X5_greatestFrom, house_f hp, tB_r, tB_l, Option.bind_some, if_neg bIt0, if_pos bI_f, thr_t, thr_f, b_X5_greatestFrom_41, b_X5_greatestFrom_13]
theorem bad_busy (hp : p1.toInt < 0 ∨ 4 ≤ p1.toInt) (p2 p3 : Int32) : f_X4_busy_bad p1 = some (.inl "java/lang/IndexOutOfBoundsException") ∧ f_X5_busy ma ti sp we ho sa p1 p2 p3 = some (0, 1) := by
  constructor
  · simp only [f_X4_busy_bad, houseAt_f hp, tB_r, tB_l, Option.bind_some, if_neg bIt0, if_pos bI_f, thr_t, thr_f]
  · simp only [f_X5_busy, house_f hp, tB_r, tB_l, Option.bind_some, if_neg bIt0, if_pos bI_f, thr_t, thr_f, b_X5_busy_31, b_X5_busy_13]
theorem bad_spans (hp : p1.toInt < 0 ∨ 4 ≤ p1.toInt)  : f_X4_spans_bad p1 = some (.inl "java/lang/IndexOutOfBoundsException") ∧ f_X5_spans ma ti sp we ho sa p1 = some (0, 1) := by
  constructor
  · simp only [f_X4_spans_bad, houseAt_f hp, tB_r, tB_l, Option.bind_some, if_neg bIt0, if_pos bI_f, thr_t, thr_f]
  · simp only [f_X5_spans, house_f hp, tB_r, tB_l, Option.bind_some, if_neg bIt0, if_pos bI_f, thr_t, thr_f, b_X5_spans_13]
theorem bad_span (hp : p1.toInt < 0 ∨ 4 ≤ p1.toInt) (p2 p3 : Int32) : f_X4_span_bad p1 = some (.inl "java/lang/IndexOutOfBoundsException") ∧ f_X5_span ma ti sp we ho sa p1 p2 p3 = some (0, 1) := by
  constructor
  · simp only [f_X4_span_bad, houseAt_f hp, tB_r, tB_l, Option.bind_some, if_neg bIt0, if_pos bI_f, thr_t, thr_f]
  · simp only [f_X5_span, house_f hp, tB_r, tB_l, Option.bind_some, if_neg bIt0, if_pos bI_f, thr_t, thr_f, b_X5_span_114, b_X5_span_97, b_X5_span_44, b_X5_span_13]
theorem bad_free (hp : p1.toInt < 0 ∨ 4 ≤ p1.toInt) (p2 p3 : Int32) : f_X4_free_bad p1 = some (.inl "java/lang/IndexOutOfBoundsException") ∧ f_X5_free ma ti sp we ho sa p1 p2 p3 = some (0, 1) := by
  constructor
  · simp only [f_X4_free_bad, houseAt_f hp, tB_r, tB_l, Option.bind_some, if_neg bIt0, if_pos bI_f, thr_t, thr_f]
  · simp only [f_X5_free, house_f hp, tB_r, tB_l, Option.bind_some, if_neg bIt0, if_pos bI_f, thr_t, thr_f, b_X5_free_48, b_X5_free_13]
theorem bad_load (hp : p1.toInt < 0 ∨ 4 ≤ p1.toInt)  : f_X4_load_bad p1 = some (.inl "java/lang/IndexOutOfBoundsException") ∧ f_X5_load ma sp we ho sa p1 = some (0, 1) := by
  constructor
  · simp only [f_X4_load_bad, houseAt_f hp, tB_r, tB_l, Option.bind_some, if_neg bIt0, if_pos bI_f, thr_t, thr_f]
  · simp only [f_X5_load, house_f hp, tB_r, tB_l, Option.bind_some, if_neg bIt0, if_pos bI_f, thr_t, thr_f, b_X5_load_13]
theorem bad_mean (hp : p1.toInt < 0 ∨ 4 ≤ p1.toInt)  : f_X4_mean_bad p1 = some (.inl "java/lang/IndexOutOfBoundsException") ∧ f_X5_mean ma ti sp we ho sa p1 = some (FP.dconst0, 1) := by
  constructor
  · simp only [f_X4_mean_bad, houseAt_f hp, tB_r, tB_l, Option.bind_some, if_neg bIt0, if_pos bI_f, thr_t, thr_f]
  · simp only [f_X5_mean, house_f hp, tB_r, tB_l, Option.bind_some, if_neg bIt0, if_pos bI_f, thr_t, thr_f, b_X5_mean_41, b_X5_mean_13]
theorem bad_share (hp : p1.toInt < 0 ∨ 4 ≤ p1.toInt)  : f_X4_share_bad p1 = some (.inl "java/lang/IndexOutOfBoundsException") ∧ f_X5_share ma ho sa p1 = some (FP.fconst0, 1) := by
  constructor
  · simp only [f_X4_share_bad, houseAt_f hp, tB_r, tB_l, Option.bind_some, if_neg bIt0, if_pos bI_f, thr_t, thr_f]
  · simp only [f_X5_share, house_f hp, tB_r, tB_l, Option.bind_some, if_neg bIt0, if_pos bI_f, thr_t, thr_f, b_X5_share_46, b_X5_share_13]
theorem bad_isQuiet (hp : p1.toInt < 0 ∨ 4 ≤ p1.toInt)  : f_X4_isQuiet_bad p1 = some (.inl "java/lang/IndexOutOfBoundsException") ∧ f_X5_isQuiet ma ti sp we ho sa cl p1 = some (false, 1) := by
  constructor
  · simp only [f_X4_isQuiet_bad, houseAt_f hp, tB_r, tB_l, Option.bind_some, if_neg bIt0, if_pos bI_f, thr_t, thr_f]
  · simp only [f_X5_isQuiet, house_f hp, tB_r, tB_l, Option.bind_some, if_neg bIt0, if_pos bI_f, thr_t, thr_f, b_X5_isQuiet_13]
theorem bad_join {p2 : Int32}  (hp : ¬ ((0 ≤ p1.toInt ∧ p1.toInt < 4) ∧ (0 ≤ p2.toInt ∧ p2.toInt < 4) ∧ p1 ≠ p2)) : ∃ (e : String) (t9 : Int32), f_X4_join_bad p1 p2 = some (.inl e) ∧ f_X5_join ma ti ho sa cl p1 p2 = some (0, t9, ho) ∧ (e, t9) ∈ ([("java/lang/IndexOutOfBoundsException", 1), ("java/lang/IllegalStateException", 2)] : List (String × Int32)) := by
  by_cases c1 : 0 ≤ p1.toInt ∧ p1.toInt < 4
  · obtain ⟨k1, h1, g1⟩ : ∃ k1 : Nat, p1.toInt = k1 ∧ k1 < 4 := ⟨p1.toInt.toNat, by omega, by omega⟩
    by_cases c2 : 0 ≤ p2.toInt ∧ p2.toInt < 4
    · obtain ⟨k2, h2, g2⟩ : ∃ k2 : Nat, p2.toInt = k2 ∧ k2 < 4 := ⟨p2.toInt.toNat, by omega, by omega⟩
      have c3 : p1 = p2 := Classical.byContradiction (fun z => hp ⟨c1, c2, z⟩)
      refine ⟨"java/lang/IllegalStateException", 2, ?_, ?_, by simp⟩
      · simp only [f_X4_join_bad, houseAt_t h1 g1, houseAt_t h2 g2, f_X4_refuseIfSame, if_pos c3, tB_r, tB_l, Option.bind_some, if_neg bIt0, if_pos bI_f, thr_t, thr_f]
      · simp only [f_X5_join, house_t h1 g1, house_t h2 g2, b_X5_join_20, f_X5_goes, if_pos c3.symm, b_X5_goes_49, tB_r, tB_l, Option.bind_some, if_neg bIt0, if_pos bI_f, thr_t, thr_f]
    · refine ⟨"java/lang/IndexOutOfBoundsException", 1, ?_, ?_, by simp⟩
      · simp only [f_X4_join_bad, houseAt_t h1 g1, houseAt_f (p := p2) (by omega), tB_r, tB_l, Option.bind_some, if_neg bIt0, if_pos bI_f, thr_t, thr_f]
      · simp only [f_X5_join, house_t h1 g1, house_f (p := p2) (by omega), b_X5_join_20, tB_r, tB_l, Option.bind_some, if_neg bIt0, if_pos bI_f, thr_t, thr_f]
  · refine ⟨"java/lang/IndexOutOfBoundsException", 1, ?_, ?_, by simp⟩
    · simp only [f_X4_join_bad, houseAt_f (p := p1) (by omega), tB_r, tB_l, Option.bind_some, if_neg bIt0, if_pos bI_f, thr_t, thr_f]
    · simp only [f_X5_join, house_f (p := p1) (by omega), b_X5_join_20, tB_r, tB_l, Option.bind_some, if_neg bIt0, if_pos bI_f, thr_t, thr_f]
theorem bad_part {p2 : Int32} (p3 : Int32) (hp : ¬ ((0 ≤ p1.toInt ∧ p1.toInt < 4) ∧ (0 ≤ p2.toInt ∧ p2.toInt < 4) ∧ p1 ≠ p2)) : ∃ (e : String) (t9 : Int32), f_X4_part_bad p1 p2 = some (.inl e) ∧ f_X5_part ma ti ho sa cl p1 p2 p3 = some (0, t9, ho) ∧ (e, t9) ∈ ([("java/lang/IndexOutOfBoundsException", 1), ("java/lang/IllegalStateException", 2)] : List (String × Int32)) := by
  by_cases c1 : 0 ≤ p1.toInt ∧ p1.toInt < 4
  · obtain ⟨k1, h1, g1⟩ : ∃ k1 : Nat, p1.toInt = k1 ∧ k1 < 4 := ⟨p1.toInt.toNat, by omega, by omega⟩
    by_cases c2 : 0 ≤ p2.toInt ∧ p2.toInt < 4
    · obtain ⟨k2, h2, g2⟩ : ∃ k2 : Nat, p2.toInt = k2 ∧ k2 < 4 := ⟨p2.toInt.toNat, by omega, by omega⟩
      have c3 : p1 = p2 := Classical.byContradiction (fun z => hp ⟨c1, c2, z⟩)
      refine ⟨"java/lang/IllegalStateException", 2, ?_, ?_, by simp⟩
      · simp only [f_X4_part_bad, houseAt_t h1 g1, houseAt_t h2 g2, f_X4_refuseIfSame, if_pos c3, tB_r, tB_l, Option.bind_some, if_neg bIt0, if_pos bI_f, thr_t, thr_f]
      · simp only [f_X5_part, house_t h1 g1, house_t h2 g2, b_X5_part_20, f_X5_goes, if_pos c3, b_X5_goes_49, tB_r, tB_l, Option.bind_some, if_neg bIt0, if_pos bI_f, thr_t, thr_f]
    · refine ⟨"java/lang/IndexOutOfBoundsException", 1, ?_, ?_, by simp⟩
      · simp only [f_X4_part_bad, houseAt_t h1 g1, houseAt_f (p := p2) (by omega), tB_r, tB_l, Option.bind_some, if_neg bIt0, if_pos bI_f, thr_t, thr_f]
      · simp only [f_X5_part, house_t h1 g1, house_f (p := p2) (by omega), b_X5_part_20, tB_r, tB_l, Option.bind_some, if_neg bIt0, if_pos bI_f, thr_t, thr_f]
  · refine ⟨"java/lang/IndexOutOfBoundsException", 1, ?_, ?_, by simp⟩
    · simp only [f_X4_part_bad, houseAt_f (p := p1) (by omega), tB_r, tB_l, Option.bind_some, if_neg bIt0, if_pos bI_f, thr_t, thr_f]
    · simp only [f_X5_part, house_f (p := p1) (by omega), b_X5_part_20, tB_r, tB_l, Option.bind_some, if_neg bIt0, if_pos bI_f, thr_t, thr_f]
end BADS
