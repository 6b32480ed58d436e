/-! the reference's pure functions over its arrays, said of numbers -/
/-- the reference's arrays hold these numbers -/
def mR (n : Nat) (T S W Hm X : Nat → Nat) (ma : Int32) (ti sp we ho sa : Nat → Int32) : Prop := n ≤ 120 ∧ ma.toInt = n ∧ ∀ b, b < n → (ti b).toInt = T b ∧ (sp b).toInt = S b ∧ (we b).toInt = W b ∧ (ho b).toInt = Hm b ∧ (sa b).toInt = X b
/-- who came in a house -/
def cm (Hm X : Nat → Nat) (h : Nat) : Nat → Bool := fun b => decide (Hm b = h ∧ X b = 1)
section MR
variable {n : Nat} {T S W Hm X : Nat → Nat} {ma : Int32} {ti sp we ho sa : Nat → Int32} {v1 : Int32} {h : Nat}
theorem mR_lt (R : mR n T S W Hm X ma ti sp we ho sa) {p : Int32} {k : Nat} (hp : p.toInt = k) : (ma ≤ p) = (n ≤ k) := by
  rw [Int32.le_iff_toInt_le, R.2.1, hp]
  exact propext (by omega)
theorem eqI {a b : Int32} : (a = b) = (a.toInt = b.toInt) := propext ⟨fun h => by rw [h], fun h => Int32.toInt_inj.mp h⟩
theorem isOf_s (R : mR n T S W Hm X ma ti sp we ho sa) (hv : v1.toInt = h) {p : Int32} {k : Nat} (hp : p.toInt = k) (hk : k < n) : f_X5_isOf sp ho sa v1 p = some (cm Hm X h k && decide (0 < S k)) := by
  obtain ⟨h1, h2, h3⟩ := R
  obtain ⟨-, e2, -, e4, e5⟩ := h3 k hk
  have hi : inB p 120 = true := inB_t hp (by omega)
  unfold f_X5_isOf
  rw [if_pos hi, clampN hp]
  simp only [hi, if_true, eqI, e4, e5, hv, t1, Int32.le_iff_toInt_le, e2, t0]
  by_cases c1 : Hm k = h
  · rw [if_pos (by omega)]
    by_cases c2 : X k = 1
    · rw [if_pos (by omega)]
      by_cases c3 : S k = 0
      · rw [if_pos (by omega)]; simp [cm, c1, c2, c3]
      · rw [if_neg (by omega)]; simp [cm, c1, c2]; omega
    · rw [if_neg (by omega)]; simp [cm, c1, c2]
  · rw [if_neg (by omega)]; simp [cm, c1]
theorem isWaiting_s (R : mR n T S W Hm X ma ti sp we ho sa) (hv : v1.toInt = h) (p : Int32) : f_X5_isWaiting ma ho sa v1 p = some (decide (0 ≤ p.toInt ∧ p.toInt < n ∧ Hm p.toInt.toNat = h ∧ X p.toInt.toNat = 0)) := by
  obtain ⟨h1, h2, h3⟩ := R
  unfold f_X5_isWaiting
  simp only [Int32.lt_iff_toInt_lt, Int32.le_iff_toInt_le, h2, t0]
  by_cases c1 : p.toInt < 0
  · rw [if_pos c1]; congr 1; symm; exact decide_eq_false (by omega)
  · rw [if_neg c1]
    by_cases c2 : (n : Int) ≤ p.toInt
    · rw [if_pos c2]; congr 1; symm; exact decide_eq_false (by omega)
    · rw [if_neg c2]
      have hp : p.toInt = (p.toInt.toNat : Nat) := by omega
      have hi : inB p 120 = true := inB_t hp (by omega)
      have hk : p.toInt.toNat < n := by omega
      obtain ⟨-, -, -, e4, e5⟩ := h3 _ hk
      rw [if_pos hi, if_pos hi, clampN hp]
      simp only [eqI, e4, e5, hv, t0]
      by_cases c3 : Hm p.toInt.toNat = h
      · rw [if_pos (by omega)]
        by_cases c4 : X p.toInt.toNat = 0
        · rw [if_pos (by omega)]; congr 1; symm; exact decide_eq_true (by omega)
        · rw [if_neg (by omega)]; congr 1; symm; exact decide_eq_false (by omega)
      · rw [if_neg (by omega)]; congr 1; symm; exact decide_eq_false (by omega)
/-- how many have a state -/
def cnt (n : Nat) (Hm X : Nat → Nat) (h x : Nat) : Nat := ((List.range n).filter (fun b => decide (Hm b = h ∧ X b = x))).length
theorem cnt_le (n : Nat) (Hm X : Nat → Nat) (h x : Nat) : cnt n Hm X h x ≤ n := by
  unfold cnt
  have := List.length_filter_le (fun b => decide (Hm b = h ∧ X b = x)) (List.range n)
  rwa [List.length_range] at this
theorem cnt_succ (n : Nat) (Hm X : Nat → Nat) (h x : Nat) : cnt (n + 1) Hm X h x = cnt n Hm X h x + if Hm n = h ∧ X n = x then 1 else 0 := by
  unfold cnt
  rw [List.range_succ, List.filter_append, List.length_append]
  by_cases c : Hm n = h ∧ X n = x
  · rw [if_pos c]; simp [c]
  · rw [if_neg c]; simp [c]
theorem many_l (R : mR n T S W Hm X ma ti sp we ho sa) (hv : v1.toInt = h) {v2 : Int32} {x : Nat} (hx : v2.toInt = x) : ∀ (F k : Nat) (v3 v4 : Int32), v4.toInt = k → k ≤ n → n - k < F → v3.toInt = cnt k Hm X h x → ∃ r, l_X5_many_5 ma ho sa v1 v2 F v3 v4 = some r ∧ r.toInt = cnt n Hm X h x := by
  intro F
  induction F with
  | zero => intro k v3 v4 _ _ hF; omega
  | succ F ih =>
    intro k v3 v4 h4 hk hF h3
    have hn := R.1
    rw [l_X5_many_5]
    by_cases c : n ≤ k
    · rw [if_pos (by rw [mR_lt R h4]; exact c)]
      have : k = n := by omega
      subst this
      exact ⟨v3, rfl, h3⟩
    · rw [if_neg (by rw [mR_lt R h4]; exact c)]
      obtain ⟨-, -, -, e4, e5⟩ := R.2.2 k (by omega)
      have hi : inB v4 120 = true := inB_t h4 (by omega)
      have hc := cnt_le k Hm X h x
      have hs := cnt_succ k Hm X h x
      have i4 := inc_t h4 (by omega)
      rw [if_pos hi, if_pos hi, clampN h4]
      simp only [eqI, e4, e5, hv, hx]
      have z1 : (v3 + 1).toInt = cnt k Hm X h x + 1 := by rw [ta (by rw [t1]; omega) (by rw [t1]; omega), t1]; omega
      have z0 : (v3 + 0).toInt = cnt k Hm X h x := by rw [ta (by rw [t0]; omega) (by rw [t0]; omega), t0]; omega
      by_cases c1 : Hm k = h
      · rw [if_pos (by omega)]
        by_cases c2 : X k = x
        · rw [if_pos (by omega)]
          rw [if_pos ⟨c1, c2⟩] at hs
          exact ih (k + 1) _ _ i4 (by omega) (by omega) (by omega)
        · rw [if_neg (by omega)]
          rw [if_neg (fun z => c2 z.2)] at hs
          exact ih (k + 1) _ _ i4 (by omega) (by omega) (by omega)
      · rw [if_neg (by omega)]
        rw [if_neg (fun z => c1 z.1)] at hs
        exact ih (k + 1) _ _ i4 (by omega) (by omega) (by omega)
theorem many_s (R : mR n T S W Hm X ma ti sp we ho sa) (hv : v1.toInt = h) {v2 : Int32} {x : Nat} (hx : v2.toInt = x) : ∃ r, f_X5_many ma ho sa v1 v2 = some r ∧ r.toInt = cnt n Hm X h x :=
  many_l R hv hx FU 0 0 0 t0 (Nat.zero_le _) (by have := R.1; show _ < 1000000; omega) t0
/-- the crowd, summed up -/
theorem crowdAt_l (R : mR n T S W Hm X ma ti sp we ho sa) (ok : okB n T S W) (hv : v1.toInt = h) {v2 : Int32} {y : Int} (hy : v2.toInt = y) : ∀ (F k : Nat) (v3 v4 : Int32), v4.toInt = k → k ≤ n → n - k < F → v3.toInt = FF k T S W (cm Hm X h) y → ∃ r, l_X5_crowdAt_5 ma ti sp we ho sa v1 v2 F v3 v4 = some r ∧ r.toInt = FF n T S W (cm Hm X h) y := by
  intro F
  induction F with
  | zero => intro k v3 v4 _ _ hF; omega
  | succ F ih =>
    intro k v3 v4 h4 hk hF h3
    have hn := R.1
    rw [l_X5_crowdAt_5]
    by_cases c : n ≤ k
    · rw [if_pos (by rw [mR_lt R h4]; exact c)]
      have : k = n := by omega
      subst this
      exact ⟨v3, rfl, h3⟩
    · rw [if_neg (by rw [mR_lt R h4]; exact c)]
      have hkn : k < n := by omega
      obtain ⟨e1, e2, e3, -, -⟩ := R.2.2 k hkn
      have okk := ok.2 k hkn
      have hi : inB v4 120 = true := inB_t h4 (by omega)
      have i4 := inc_t h4 (by omega)
      have bd1 := FF_nn (n := k) (T := T) (S := S) (W := W) (C := cm Hm X h) y
      have bd2 := FF_le (n := k) (T := T) (S := S) (W := W) (C := cm Hm X h) (fun b hb => (ok.2 b (by omega)).2.2.2) y
      have hs : FF (k + 1) T S W (cm Hm X h) y = FF k T S W (cm Hm X h) y + if cm Hm X h k = true then gb T S W k y else 0 := rfl
      have z0 : (v3 + 0).toInt = FF k T S W (cm Hm X h) y := by rw [ta (by rw [t0]; omega) (by rw [t0]; omega), t0]; omega
      have zw : (v3 + we k).toInt = FF k T S W (cm Hm X h) y + W k := by rw [ta (by omega) (by omega)]; omega
      have zt : (ti k + sp k).toInt = (T k : Int) + S k := by rw [ta (by omega) (by omega)]; omega
      rw [isOf_s R hv h4 hkn]
      simp only [Option.bind_some, hi, if_true, clampN h4, bI_0, Int32.lt_iff_toInt_lt, Int32.le_iff_toInt_le, hy, e1, zt]
      by_cases c1 : (cm Hm X h k && decide (0 < S k)) = false
      · rw [if_pos c1]
        refine ih (k + 1) _ _ i4 (by omega) (by omega) ?_
        rw [z0, hs]
        by_cases c2 : cm Hm X h k = true
        · rw [if_pos c2]
          rw [c2] at c1
          simp at c1
          unfold gb; rw [if_neg (by omega)]; omega
        · rw [if_neg c2]; omega
      · rw [if_neg c1]
        have c2 : cm Hm X h k = true := by
          cases hc : cm Hm X h k
          · rw [hc] at c1; simp at c1
          · rfl
        rw [if_pos c2] at hs
        unfold gb at hs
        by_cases c3 : y < T k
        · rw [if_pos c3]
          rw [if_neg (by omega)] at hs
          exact ih (k + 1) _ _ i4 (by omega) (by omega) (by omega)
        · rw [if_neg c3]
          by_cases c4 : (T k : Int) + S k ≤ y
          · rw [if_pos c4]
            rw [if_neg (by omega)] at hs
            exact ih (k + 1) _ _ i4 (by omega) (by omega) (by omega)
          · rw [if_neg c4]
            rw [if_pos (by omega)] at hs
            exact ih (k + 1) _ _ i4 (by omega) (by omega) (by omega)
theorem crowdAt_s (R : mR n T S W Hm X ma ti sp we ho sa) (ok : okB n T S W) (hv : v1.toInt = h) {v2 : Int32} {y : Int} (hy : v2.toInt = y) : ∃ r, f_X5_crowdAt ma ti sp we ho sa v1 v2 = some r ∧ r.toInt = FF n T S W (cm Hm X h) y :=
  crowdAt_l R ok hv hy FU 0 0 0 t0 (Nat.zero_le _) (by have := R.1; show _ < 1000000; omega) t0
end MR
