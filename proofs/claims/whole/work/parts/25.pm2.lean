/-! the reference's loops over the bookings -/
theorem ltI {a b : Int32} {x y : Int} (h1 : a.toInt = x) (h2 : b.toInt = y) (h : x < y) : a < b := by rw [Int32.lt_iff_toInt_lt]; omega
theorem nltI {a b : Int32} {x y : Int} (h1 : a.toInt = x) (h2 : b.toInt = y) (h : y ≤ x) : ¬ a < b := by rw [Int32.lt_iff_toInt_lt]; omega
theorem leI {a b : Int32} {x y : Int} (h1 : a.toInt = x) (h2 : b.toInt = y) (h : x ≤ y) : a ≤ b := by rw [Int32.le_iff_toInt_le]; omega
theorem nleI {a b : Int32} {x y : Int} (h1 : a.toInt = x) (h2 : b.toInt = y) (h : y < x) : ¬ a ≤ b := by rw [Int32.le_iff_toInt_le]; omega
theorem eqI2 {a b : Int32} {x y : Int} (h1 : a.toInt = x) (h2 : b.toInt = y) (h : x = y) : a = b := Int32.toInt_inj.mp (by omega)
theorem neI {a b : Int32} {x y : Int} (h1 : a.toInt = x) (h2 : b.toInt = y) (h : x ≠ y) : ¬ a = b := fun z => by rw [z] at h1; omega
theorem m1 : (-1 : Int32).toInt = -1 := rfl
theorem tF : (100000 : Int32).toInt = 100000 := rfl
theorem t2 : (2 : Int32).toInt = 2 := rfl
theorem t4 : (4 : Int32).toInt = 4 := rfl
theorem t48 : (48 : Int32).toInt = 48 := rfl
theorem t120 : (120 : Int32).toInt = 120 := rfl
theorem t9999 : (9999 : Int32).toInt = 9999 := rfl
theorem t500 : (500 : Int32).toInt = 500 := rfl
theorem t12 : (12 : Int32).toInt = 12 := rfl
theorem t9 : (9 : Int32).toInt = 9 := rfl
theorem t20000 : (20000 : Int32).toInt = 20000 := rfl
theorem thr_t (k : Int32) : f_X5_isThrown true k = some (true, k) := by unfold f_X5_isThrown; rw [if_neg bIt0]
theorem thr_f (k : Int32) : f_X5_isThrown false k = some (false, 0) := by unfold f_X5_isThrown; rw [if_pos bI_f]
theorem house_t {p : Int32} {h : Nat} (hp : p.toInt = h) (hh : h < 4) : f_X5_isHouse p = some true := by
  unfold f_X5_isHouse
  rw [if_neg (nltI hp t0 (by omega)), if_neg (nleI t4 hp (by omega))]
theorem house_f {p : Int32} (hp : p.toInt < 0 ∨ 4 ≤ p.toInt) : f_X5_isHouse p = some false := by
  unfold f_X5_isHouse
  by_cases c : p.toInt < 0
  · rw [if_pos (ltI rfl t0 c)]
  · rw [if_neg (nltI rfl t0 (by omega)), if_pos (leI t4 rfl (by omega))]
theorem lpN {β γ : Type} {n : Nat} (hn : n ≤ 120) (l : Nat → β → Int32 → Option γ) (I : Nat → β → Prop) (fin : β → Option γ)
    (he : ∀ F a v, v.toInt = ((n : Nat) : Int) → I n a → l (F + 1) a v = fin a)
    (hs : ∀ F a v k, v.toInt = ((k : Nat) : Int) → k < n → I k a → ∃ a', l (F + 1) a v = l F a' (v + 1) ∧ I (k + 1) a')
    (a0 : β) (h0 : I 0 a0) : ∃ a, l FU a0 0 = fin a ∧ I n a := by
  have key : ∀ (F k : Nat) (a : β) (v : Int32), v.toInt = ((k : Nat) : Int) → k ≤ n → n - k < F → I k a → ∃ a', l F a v = fin a' ∧ I n a' := by
    intro F
    induction F with
    | zero => intro k a v _ _ hF; omega
    | succ F ih =>
      intro k a v hv hk hF hI
      by_cases c : k = n
      · subst c
        exact ⟨a, he F a v hv hI, hI⟩
      · obtain ⟨a', e, hI'⟩ := hs F a v k hv (by omega) hI
        obtain ⟨a2, e2, h2⟩ := ih (k + 1) a' (v + 1) (inc_t hv (by omega)) (by omega) (by omega) hI'
        exact ⟨a2, e.trans e2, h2⟩
  exact key FU 0 a0 0 t0 (Nat.zero_le _) (by show _ < 1000000; omega) h0
theorem lt_so {b k : Nat} (h : b < k + 1) : b < k ∨ b = k := by omega
/-! the first one by a sequence -/
def mnOf (k : Nat) (pr : Nat → Prop) (lt : Nat → Nat → Prop) (v : Int32) : Prop := (v = -1 ∧ ∀ b, b < k → ¬ pr b) ∨ ∃ f : Nat, v.toInt = f ∧ f < k ∧ pr f ∧ ∀ b, b < k → pr b → b = f ∨ lt f b
def hdI : List Nat → Int
  | [] => -1
  | a :: _ => a
section MN
variable {k : Nat} {pr : Nat → Prop} {lt : Nat → Nat → Prop} {v w : Int32}
theorem mn_0 : mnOf 0 pr lt (-1) := Or.inl ⟨rfl, fun b hb => absurd hb (Nat.not_lt_zero b)⟩
theorem mn_skip (h : mnOf k pr lt v) (hk : ¬ pr k) : mnOf (k + 1) pr lt v := by
  rcases h with ⟨e, h⟩ | ⟨f, e, hf, hp, h⟩
  · refine Or.inl ⟨e, fun b hb => ?_⟩
    rcases lt_so hb with hb | rfl
    · exact h b hb
    · exact hk
  · refine Or.inr ⟨f, e, by omega, hp, fun b hb hb2 => ?_⟩
    rcases lt_so hb with hb | rfl
    · exact h b hb hb2
    · exact absurd hb2 hk
theorem mn_new (h : mnOf k pr lt (-1)) (hk : pr k) (hw : w.toInt = k) : mnOf (k + 1) pr lt w := by
  rcases h with ⟨e, h⟩ | ⟨f, e, hf, hp, h⟩
  · refine Or.inr ⟨k, hw, by omega, hk, fun b hb hb2 => ?_⟩
    rcases lt_so hb with hb | rfl
    · exact absurd hb2 (h b hb)
    · exact Or.inl rfl
  · rw [m1] at e; omega
theorem mn_at (h : mnOf k pr lt v) (hv : v ≠ -1) : ∃ f : Nat, v.toInt = f ∧ f < k ∧ pr f := by
  rcases h with ⟨e, -⟩ | ⟨f, e, hf, hp, -⟩
  · exact absurd e hv
  · exact ⟨f, e, hf, hp⟩
theorem mn_better {f : Nat} (tr : ∀ a b c, lt a b → lt b c → lt a c) (h : mnOf k pr lt v) (hv : v.toInt = f) (hk : pr k) (hl : lt k f) (hw : w.toInt = k) : mnOf (k + 1) pr lt w := by
  rcases h with ⟨e, -⟩ | ⟨g, e, hf, hp, h⟩
  · rw [e, m1] at hv; omega
  · have eg : g = f := by omega
    subst eg
    refine Or.inr ⟨k, hw, by omega, hk, fun b hb hb2 => ?_⟩
    rcases lt_so hb with hb | rfl
    · rcases h b hb hb2 with rfl | h9
      · exact Or.inr hl
      · exact Or.inr (tr _ _ _ hl h9)
    · exact Or.inl rfl
theorem mn_worse {f : Nat} (h : mnOf k pr lt v) (hv : v.toInt = f) (hl : lt f k) : mnOf (k + 1) pr lt v := by
  rcases h with ⟨e, -⟩ | ⟨g, e, hf, hp, h⟩
  · rw [e, m1] at hv; omega
  · have eg : g = f := by omega
    subst eg
    refine Or.inr ⟨g, e, by omega, hp, fun b hb hb2 => ?_⟩
    rcases lt_so hb with hb | rfl
    · exact h b hb hb2
    · exact Or.inr hl
theorem mn_hd {Q : List Nat} (as : ∀ a b, lt a b → ¬ lt b a) (hQ : ∀ b, b ∈ Q ↔ b < k ∧ pr b) (hs : Q.Pairwise lt) (h : mnOf k pr lt v) : v.toInt = hdI Q := by
  cases Q with
  | nil =>
    rcases h with ⟨e, -⟩ | ⟨f, e, hf, hp, -⟩
    · rw [e]; rfl
    · exact absurd ((hQ f).mpr ⟨hf, hp⟩) List.not_mem_nil
  | cons q Q =>
    have hq := (hQ q).mp List.mem_cons_self
    rcases h with ⟨e, h⟩ | ⟨f, e, hf, hp, h⟩
    · exact absurd hq.2 (h q hq.1)
    · rw [e]
      show (f : Int) = q
      rcases h q hq.1 hq.2 with h | h
      · rw [h]
      · rcases List.mem_cons.mp ((hQ f).mpr ⟨hf, hp⟩) with h2 | h2
        · rw [h2]
        · exact absurd ((List.pairwise_cons.mp hs).1 f h2) (as _ _ h)
end MN
abbrev ah (T : Nat → Nat) (a b : Nat) : Prop := T a < T b ∨ (T a = T b ∧ a < b)
theorem ah_tr {T : Nat → Nat} (a b c : Nat) (h1 : ah T a b) (h2 : ah T b c) : ah T a c := by unfold ah at *; omega
theorem ah_tot {T : Nat → Nat} {a b : Nat} (h : a ≠ b) (h2 : ¬ ah T a b) : ah T b a := by unfold ah at *; omega
theorem ah_irr {T : Nat → Nat} {a : Nat} : ¬ ah T a a := by unfold ah; omega
theorem ah_as {T : Nat → Nat} (a b : Nat) (h : ah T a b) : ¬ ah T b a := by unfold ah at *; omega
/-- how many of the first ones are so -/
def cb (n : Nat) (p : Nat → Bool) : Nat := ((List.range n).filter p).length
theorem cb_le (n : Nat) (p : Nat → Bool) : cb n p ≤ n := by
  unfold cb
  have := List.length_filter_le p (List.range n)
  rwa [List.length_range] at this
theorem cb_succ (n : Nat) (p : Nat → Bool) : cb (n + 1) p = cb n p + if p n = true then 1 else 0 := by
  unfold cb
  rw [List.range_succ, List.filter_append, List.length_append]
  by_cases c : p n = true
  · rw [if_pos c, List.filter_cons_of_pos c]; rfl
  · rw [if_neg c, List.filter_cons_of_neg c]; rfl
theorem cb_list {n : Nat} {p : Nat → Bool} {l : List Nat} (hn : l.Nodup) (h : ∀ b, b ∈ l ↔ b < n ∧ p b = true) : cb n p = l.length := by
  unfold cb
  refine List.Perm.length_eq ((List.perm_ext_iff_of_nodup (List.Pairwise.filter _ List.nodup_range) hn).mpr (fun b => ?_))
  rw [List.mem_filter, List.mem_range, h]
theorem cb_zero {n : Nat} {p : Nat → Bool} : 0 < cb n p ↔ ∃ b, b < n ∧ p b = true := by
  unfold cb
  rw [List.length_pos_iff_exists_mem]
  constructor
  · rintro ⟨b, hb⟩
    rw [List.mem_filter, List.mem_range] at hb
    exact ⟨b, hb⟩
  · rintro ⟨b, hb⟩
    exact ⟨b, by rw [List.mem_filter, List.mem_range]; exact hb⟩
section ML
variable {n : Nat} {T S W Hm X : Nat → Nat} {ma : Int32} {ti sp we ho sa : Nat → Int32} {v1 : Int32} {h : Nat}
theorem mR_end (R : mR n T S W Hm X ma ti sp we ho sa) {p : Int32} (hp : p.toInt = ((n : Nat) : Int)) : ma ≤ p := leI R.2.1 hp (Int.le_refl _)
theorem mR_in (R : mR n T S W Hm X ma ti sp we ho sa) {p : Int32} {k : Nat} (hp : p.toInt = k) (hk : k < n) : ¬ ma ≤ p := nleI R.2.1 hp (by omega)
theorem mR_ho (R : mR n T S W Hm X ma ti sp we ho sa) (hv : v1.toInt = h) {k : Nat} (hk : k < n) : (ho k = v1 ↔ Hm k = h) := by
  rw [eqI, (R.2.2 k hk).2.2.2.1, hv]; omega
theorem mR_sa (R : mR n T S W Hm X ma ti sp we ho sa) {v : Int32} {x : Nat} (hv : v.toInt = x) {k : Nat} (hk : k < n) : (sa k = v ↔ X k = x) := by
  rw [eqI, (R.2.2 k hk).2.2.2.2, hv]; omega
theorem isAheadM (R : mR n T S W Hm X ma ti sp we ho sa) {p1 p2 : Int32} {a b : Nat} (h1 : p1.toInt = a) (ha : a < n) (h2 : p2.toInt = b) (hb : b < n) : f_X5_isAhead ti p1 p2 = some (decide (ah T a b)) := by
  have hn := R.1
  have i1 : inB p1 120 = true := inB_t h1 (by omega)
  have i2 : inB p2 120 = true := inB_t h2 (by omega)
  have e1 := (R.2.2 a ha).1
  have e2 := (R.2.2 b hb).1
  unfold f_X5_isAhead
  simp only [i1, i2, if_true, clampN h1, clampN h2]
  by_cases c1 : T a < T b
  · rw [if_pos (ltI e1 e2 (by omega)), decide_eq_true (show ah T a b from Or.inl c1)]
  · rw [if_neg (nltI e1 e2 (by omega))]
    by_cases c2 : T a = T b
    · rw [if_pos (eqI2 e1 e2 (by omega))]
      by_cases c3 : b ≤ a
      · rw [if_pos (leI h2 h1 (by omega)), decide_eq_false (show ¬ ah T a b from fun z => by rcases z with z | z <;> omega)]
      · rw [if_neg (nleI h2 h1 (by omega)), decide_eq_true (show ah T a b from Or.inr ⟨c2, by omega⟩)]
    · rw [if_neg (neI e1 e2 (by omega)), decide_eq_false (show ¬ ah T a b from fun z => by rcases z with z | z <;> omega)]
theorem behind_g (R : mR n T S W Hm X ma ti sp we ho sa) (hv : v1.toInt = h) {v2 : Int32} {g : Nat → Prop} (hq : (v2 = -1 ∧ ∀ b, g b) ∨ (∃ o : Nat, v2.toInt = o ∧ o < n ∧ ∀ b, g b ↔ ah T o b)) : ∃ r, f_X5_behind ma ti ho sa v1 v2 = some r ∧ mnOf n (fun b => Hm b = h ∧ X b = 0 ∧ g b) (ah T) r := by
  have hn := R.1
  refine lpN hn (fun F a v => l_X5_behind_5 ma ti ho sa v1 v2 F a v) (fun k a => mnOf k (fun b => Hm b = h ∧ X b = 0 ∧ g b) (ah T) a) (fun a => some a) ?_ ?_ (-1) mn_0
  · intro F a v h4 _
    rw [l_X5_behind_5, if_pos (mR_end R h4)]
  · intro F a v k h4 hk hI
    have hi : inB v 120 = true := inB_t h4 (by omega)
    rw [l_X5_behind_5, if_neg (mR_in R h4 hk), if_pos hi, if_pos hi, clampN h4]
    by_cases c1 : Hm k = h
    · rw [if_pos ((mR_ho R hv hk).mpr c1)]
      by_cases c2 : X k = 0
      · rw [if_pos ((mR_sa R (x := 0) t0 hk).mpr c2)]
        have pk : g k → ∃ a', b_X5_behind_50 ti (fun qv3 qv4 => l_X5_behind_5 ma ti ho sa v1 v2 F qv3 qv4) v1 v2 a v = l_X5_behind_5 ma ti ho sa v1 v2 F a' (v + 1) ∧ mnOf (k + 1) (fun b => Hm b = h ∧ X b = 0 ∧ g b) (ah T) a' := by
          intro hg
          unfold b_X5_behind_50
          by_cases c4 : a = -1
          · rw [if_pos c4]
            subst c4
            exact ⟨v, rfl, mn_new hI ⟨c1, c2, hg⟩ h4⟩
          · rw [if_neg c4]
            obtain ⟨f, ef, hf, hpf⟩ := mn_at hI c4
            rw [isAheadM R h4 hk ef (by omega)]
            simp only [Option.bind_some]
            by_cases c5 : ah T k f
            · rw [decide_eq_true c5, if_neg bIt0]
              exact ⟨v, rfl, mn_better ah_tr hI ef ⟨c1, c2, hg⟩ c5 h4⟩
            · rw [decide_eq_false c5, if_pos bI_f]
              exact ⟨a, rfl, mn_worse hI ef (ah_tot (by omega) c5)⟩
        rcases hq with ⟨q1, q2⟩ | ⟨o, q1, q2, q3⟩
        · rw [if_pos q1]
          exact pk (q2 k)
        · rw [if_neg (neI q1 m1 (by omega)), isAheadM R q1 q2 h4 hk]
          simp only [Option.bind_some]
          by_cases c3 : ah T o k
          · rw [decide_eq_true c3, if_neg bIt0]
            exact pk ((q3 k).mpr c3)
          · rw [decide_eq_false c3, if_pos bI_f]
            exact ⟨a, rfl, mn_skip hI (fun z => c3 ((q3 k).mp z.2.2))⟩
      · rw [if_neg (fun z => c2 ((mR_sa R (x := 0) t0 hk).mp z))]
        exact ⟨a, rfl, mn_skip hI (fun z => c2 z.2.1)⟩
    · rw [if_neg (fun z => c1 ((mR_ho R hv hk).mp z))]
      exact ⟨a, rfl, mn_skip hI (fun z => c1 z.1)⟩
/-- those that wait in a house, in their sequence -/
def qOf (n : Nat) (T Hm X : Nat → Nat) (h : Nat) (Q : List Nat) : Prop := (∀ b, b ∈ Q ↔ b < n ∧ Hm b = h ∧ X b = 0) ∧ Q.Pairwise (ah T)
theorem first_s {Q : List Nat} (R : mR n T S W Hm X ma ti sp we ho sa) (hv : v1.toInt = h) (hQ : qOf n T Hm X h Q) : ∃ r, f_X5_first ma ti ho sa v1 = some r ∧ r.toInt = hdI Q := by
  obtain ⟨r, e, hm⟩ := behind_g (v2 := -1) (g := fun _ => True) R hv (Or.inl ⟨rfl, fun _ => trivial⟩)
  refine ⟨r, by unfold f_X5_first; rw [e]; rfl, mn_hd ah_as (fun b => ?_) hQ.2 hm⟩
  rw [hQ.1]
  exact ⟨fun z => ⟨z.1, z.2.1, z.2.2, trivial⟩, fun z => ⟨z.1, z.2.1, z.2.2.1⟩⟩
theorem behind_s {A B : List Nat} {o : Nat} {v2 : Int32} (R : mR n T S W Hm X ma ti sp we ho sa) (hv : v1.toInt = h) (hQ : qOf n T Hm X h (A ++ o :: B)) (h2 : v2.toInt = o) : ∃ r, f_X5_behind ma ti ho sa v1 v2 = some r ∧ r.toInt = hdI B := by
  have ho := (hQ.1 o).mp (by simp)
  obtain ⟨r, e, hm⟩ := behind_g (v2 := v2) (g := fun b => ah T o b) R hv (Or.inr ⟨o, h2, ho.1, fun _ => Iff.rfl⟩)
  obtain ⟨s1, s2, s3⟩ := List.pairwise_append.mp hQ.2
  obtain ⟨s4, s5⟩ := List.pairwise_cons.mp s2
  refine ⟨r, e, mn_hd ah_as (fun b => ?_) s5 hm⟩
  constructor
  · intro hb
    have := (hQ.1 b).mp (by simp [hb])
    exact ⟨this.1, this.2.1, this.2.2, s4 b hb⟩
  · rintro ⟨z1, z2, z3, z4⟩
    have := (hQ.1 b).mpr ⟨z1, z2, z3⟩
    rcases List.mem_append.mp this with q | q
    · exact absurd z4 (ah_as _ _ (s3 b q o List.mem_cons_self))
    · rcases List.mem_cons.mp q with q | q
      · rw [q] at z4; exact absurd z4 ah_irr
      · exact q
/-! those that came -/
theorem cameBehind_g {ca : Nat → Int32} {K : Nat → Nat} (R : mR n T S W Hm X ma ti sp we ho sa) (hK : ∀ b, b < n → X b = 1 → (ca b).toInt = K b) (hd : ∀ b c, b < n → c < n → Hm b = h → Hm c = h → X b = 1 → X c = 1 → K b = K c → b = c) (hv : v1.toInt = h) {v2 : Int32} {g : Nat → Prop} (hq : (v2 = -1 ∧ ∀ b, g b) ∨ (∃ o : Nat, v2.toInt = o ∧ o < n ∧ X o = 1 ∧ ∀ b, g b ↔ K o < K b)) : ∃ r, f_X5_cameBehind ma ho sa ca v1 v2 = some r ∧ mnOf n (fun b => Hm b = h ∧ X b = 1 ∧ g b) (fun a b => K a < K b) r := by
  have hn := R.1
  refine lpN hn (fun F a v => l_X5_cameBehind_5 ma ho sa ca v1 v2 F a v) (fun k a => mnOf k (fun b => Hm b = h ∧ X b = 1 ∧ g b) (fun a b => K a < K b) a) (fun a => some a) ?_ ?_ (-1) mn_0
  · intro F a v h4 _
    rw [l_X5_cameBehind_5, if_pos (mR_end R h4)]
  · intro F a v k h4 hk hI
    have hi : inB v 120 = true := inB_t h4 (by omega)
    rw [l_X5_cameBehind_5, if_neg (mR_in R h4 hk), if_pos hi, if_pos hi, clampN h4]
    by_cases c1 : Hm k = h
    · rw [if_pos ((mR_ho R hv hk).mpr c1)]
      by_cases c2 : X k = 1
      · rw [if_pos ((mR_sa R (x := 1) t1 hk).mpr c2)]
        have pk : g k → ∃ a', b_X5_cameBehind_57 ca (fun qv3 qv4 => l_X5_cameBehind_5 ma ho sa ca v1 v2 F qv3 qv4) v1 v2 a v = l_X5_cameBehind_5 ma ho sa ca v1 v2 F a' (v + 1) ∧ mnOf (k + 1) (fun b => Hm b = h ∧ X b = 1 ∧ g b) (fun a b => K a < K b) a' := by
          intro hg
          unfold b_X5_cameBehind_57
          by_cases c4 : a = -1
          · rw [if_pos c4]
            subst c4
            exact ⟨v, rfl, mn_new hI ⟨c1, c2, hg⟩ h4⟩
          · rw [if_neg c4]
            obtain ⟨f, ef, hf, hpf⟩ := mn_at hI c4
            have hi2 : inB a 120 = true := inB_t ef (by omega)
            rw [if_pos hi, if_pos hi2, clampN h4, clampN ef]
            by_cases c5 : K f ≤ K k
            · rw [if_pos (leI (hK f (by omega) hpf.2.1) (hK k hk c2) (by omega))]
              refine ⟨a, rfl, mn_worse hI ef ?_⟩
              have : K f ≠ K k := fun z => by
                have := hd f k (by omega) hk hpf.1 c1 hpf.2.1 c2 z
                omega
              show K f < K k
              omega
            · rw [if_neg (nleI (hK f (by omega) hpf.2.1) (hK k hk c2) (by omega))]
              exact ⟨v, rfl, mn_better (fun a b c (h1 : K a < K b) (h2 : K b < K c) => Nat.lt_trans h1 h2) hI ef ⟨c1, c2, hg⟩ (show K k < K f by omega) h4⟩
        rcases hq with ⟨q1, q2⟩ | ⟨o, q1, q2, q4, q3⟩
        · rw [if_pos q1]
          exact pk (q2 k)
        · have hi2 : inB v2 120 = true := inB_t q1 (by omega)
          rw [if_neg (neI q1 m1 (by omega)), if_pos hi, if_pos hi2, clampN q1]
          by_cases c3 : K k ≤ K o
          · rw [if_pos (leI (hK k hk c2) (hK o q2 q4) (by omega))]
            exact ⟨a, rfl, mn_skip hI (fun z => by have := (q3 k).mp z.2.2; omega)⟩
          · rw [if_neg (nleI (hK k hk c2) (hK o q2 q4) (by omega))]
            exact pk ((q3 k).mpr (by omega))
      · rw [if_neg (fun z => c2 ((mR_sa R (x := 1) t1 hk).mp z))]
        exact ⟨a, rfl, mn_skip hI (fun z => c2 z.2.1)⟩
    · rw [if_neg (fun z => c1 ((mR_ho R hv hk).mp z))]
      exact ⟨a, rfl, mn_skip hI (fun z => c1 z.1)⟩
/-- those that came in a house, as they came -/
def pOf (n : Nat) (K Hm X : Nat → Nat) (h : Nat) (P : List Nat) : Prop := (∀ b, b ∈ P ↔ b < n ∧ Hm b = h ∧ X b = 1) ∧ P.Pairwise (fun a b => K a < K b)
theorem pOf_inj {K : Nat → Nat} {P : List Nat} (hP : pOf n K Hm X h P) (b c : Nat) (hb : b < n) (hc : c < n) (h1 : Hm b = h) (h2 : Hm c = h) (h3 : X b = 1) (h4 : X c = 1) (e : K b = K c) : b = c := by
  have m1 := (hP.1 b).mpr ⟨hb, h1, h3⟩
  have m2 := (hP.1 c).mpr ⟨hc, h2, h4⟩
  obtain ⟨i, hi⟩ := List.getElem?_of_mem m1
  obtain ⟨j, hj⟩ := List.getElem?_of_mem m2
  obtain ⟨i1, i2⟩ := List.getElem?_eq_some_iff.mp hi
  obtain ⟨j1, j2⟩ := List.getElem?_eq_some_iff.mp hj
  have pw := List.pairwise_iff_getElem.mp hP.2
  by_cases c1 : i < j
  · have := pw i j i1 j1 c1
    rw [i2, j2] at this; omega
  · by_cases c2 : j < i
    · have := pw j i j1 i1 c2
      rw [i2, j2] at this; omega
    · have : i = j := by omega
      subst this
      rw [← i2, ← j2]
theorem cameFirst_s {ca : Nat → Int32} {K : Nat → Nat} {P : List Nat} (R : mR n T S W Hm X ma ti sp we ho sa) (hK : ∀ b, b < n → X b = 1 → (ca b).toInt = K b) (hv : v1.toInt = h) (hP : pOf n K Hm X h P) : ∃ r, f_X5_cameBehind ma ho sa ca v1 (-1) = some r ∧ r.toInt = hdI P := by
  obtain ⟨r, e, hm⟩ := cameBehind_g (v2 := -1) (g := fun _ => True) R hK (pOf_inj hP) hv (Or.inl ⟨rfl, fun _ => trivial⟩)
  refine ⟨r, e, mn_hd (fun a b (z : K a < K b) => Nat.lt_asymm z) (fun b => ?_) hP.2 hm⟩
  rw [hP.1]
  exact ⟨fun z => ⟨z.1, z.2.1, z.2.2, trivial⟩, fun z => ⟨z.1, z.2.1, z.2.2.1⟩⟩
theorem cameBehind_s {ca : Nat → Int32} {K : Nat → Nat} {A B : List Nat} {o : Nat} {v2 : Int32} (R : mR n T S W Hm X ma ti sp we ho sa) (hK : ∀ b, b < n → X b = 1 → (ca b).toInt = K b) (hv : v1.toInt = h) (hP : pOf n K Hm X h (A ++ o :: B)) (h2 : v2.toInt = o) : ∃ r, f_X5_cameBehind ma ho sa ca v1 v2 = some r ∧ r.toInt = hdI B := by
  have ho := (hP.1 o).mp (by simp)
  obtain ⟨r, e, hm⟩ := cameBehind_g (v2 := v2) (g := fun b => K o < K b) R hK (pOf_inj hP) hv (Or.inr ⟨o, h2, ho.1, ho.2.2, fun _ => Iff.rfl⟩)
  obtain ⟨s1, s2, s3⟩ := List.pairwise_append.mp hP.2
  obtain ⟨s4, s5⟩ := List.pairwise_cons.mp s2
  refine ⟨r, e, mn_hd (fun a b (z : K a < K b) => Nat.lt_asymm z) (fun b => ?_) s5 hm⟩
  constructor
  · intro hb
    have := (hP.1 b).mp (by simp [hb])
    exact ⟨this.1, this.2.1, this.2.2, s4 b hb⟩
  · rintro ⟨z1, z2, z3, z4⟩
    have := (hP.1 b).mpr ⟨z1, z2, z3⟩
    rcases List.mem_append.mp this with q | q
    · have := s3 b q o List.mem_cons_self
      omega
    · rcases List.mem_cons.mp q with q | q
      · rw [q] at z4; omega
      · exact q
end ML
