/-! the rows' pure functions, said of lists -/
theorem t0 : (0 : Int32).toInt = 0 := rfl
theorem t1 : (1 : Int32).toInt = 1 := rfl
theorem ta {a b : Int32} (h1 : -2147483648 ≤ a.toInt + b.toInt) (h2 : a.toInt + b.toInt < 2147483648) : (a + b).toInt = a.toInt + b.toInt := by
  rw [Int32.toInt_add]; exact Int.bmod_eq_of_le (by omega) (by omega)
theorem tb {a b : Int32} (h1 : -2147483648 ≤ a.toInt - b.toInt) (h2 : a.toInt - b.toInt < 2147483648) : (a - b).toInt = a.toInt - b.toInt := by
  rw [Int32.toInt_sub]; exact Int.bmod_eq_of_le (by omega) (by omega)
theorem tn {a : Int32} (h1 : -2147483648 < a.toInt) : (-a).toInt = -a.toInt := by
  rw [Int32.toInt_neg]; have := a.toInt_lt; exact Int.bmod_eq_of_le (by omega) (by omega)
theorem tm {a b : Int32} (h1 : -2147483648 ≤ a.toInt * b.toInt) (h2 : a.toInt * b.toInt < 2147483648) : (a * b).toInt = a.toInt * b.toInt := by
  rw [Int32.toInt_mul]; exact Int.bmod_eq_of_le (by omega) (by omega)
theorem clampN {p : Int32} {k : Nat} (h : p.toInt = k) : p.toNatClampNeg = k := by
  show p.toInt.toNat = k
  omega
theorem inB_t {p : Int32} {N k : Nat} (h : p.toInt = k) (hk : k < N) : inB p N = true := by
  unfold inB
  refine decide_eq_true ?_
  rw [Int32.lt_iff_toInt_lt, clampN h, h, t0]
  omega
theorem cpB_t {sp dp c : Int32} {N a b k : Nat} (h1 : sp.toInt = a) (h2 : dp.toInt = b) (h3 : c.toInt = k) (h4 : a + k ≤ N) (h5 : b + k ≤ N) : cpB sp dp c N = true := by
  unfold cpB
  refine decide_eq_true ?_
  rw [Int32.lt_iff_toInt_lt, Int32.lt_iff_toInt_lt, Int32.lt_iff_toInt_lt, clampN h1, clampN h2, clampN h3, h1, h2, h3, t0]
  omega
theorem bI_t : bI true = 1 := rfl
theorem bI_f : bI false = 0 := rfl
theorem bIt0 : ¬ bI true = 0 := by decide
theorem bI_0 {b : Bool} : (bI b = 0) = (b = false) := by cases b <;> simp [bI]
/-- the row r, of room N, holds the list l -/
def rp (N : Nat) (r : RS) (l : List Int32) : Prop := r.2.toInt = l.length ∧ l.length ≤ N ∧ N ≤ 1000 ∧ ∀ i : Nat, i < l.length → l[i]? = some (r.1 i)
section RP
variable {N : Nat} {r : RS} {l : List Int32} {p : Int32} {k : Nat}
theorem rp_nN (h : rp N r l) : (nI N).toInt = N := nI_toInt (by have := h.2.2.1; omega)
theorem rp_holds_t (h : rp N r l) (hp : p.toInt = k) (hk : k < l.length) : f_X3_holds N r p = some true := by
  have eN := rp_nN h
  obtain ⟨h1, h2, h3, -⟩ := h
  have e0 := t0
  unfold f_X3_holds
  rw [if_neg (by rw [Int32.lt_iff_toInt_lt]; omega), if_neg (by rw [Int32.le_iff_toInt_le]; omega), if_neg (by rw [Int32.le_iff_toInt_le]; omega)]
theorem rp_holds_f (h : rp N r l) (hp : p.toInt < 0 ∨ (l.length : Int) ≤ p.toInt) : f_X3_holds N r p = some false := by
  obtain ⟨h1, h2, h3, -⟩ := h
  have e0 := t0
  unfold f_X3_holds
  by_cases c : p < 0
  · rw [if_pos c]
  · rw [if_neg c]
    rw [Int32.lt_iff_toInt_lt] at c
    rw [if_pos (by rw [Int32.le_iff_toInt_le]; omega)]
theorem rp_at (h : rp N r l) {v : Int32} (hv : l[k]? = some v) : k < l.length ∧ r.1 k = v := by
  have hk : k < l.length := (List.getElem?_eq_some_iff.mp hv).1
  exact ⟨hk, Option.some.inj ((h.2.2.2 k hk).symm.trans hv)⟩
theorem rp_get (h : rp N r l) (hp : p.toInt = k) {v : Int32} (hv : l[k]? = some v) : f_X3_get N r p = some v := by
  obtain ⟨hk, e⟩ := rp_at h hv
  unfold f_X3_get
  rw [rp_holds_t h hp hk]
  have := h.2.1
  simp only [Option.bind_some]
  rw [if_neg bIt0, if_pos (inB_t hp (by omega)), clampN hp, e]
theorem rp_get_out (h : rp N r l) (hp : p.toInt < 0 ∨ (l.length : Int) ≤ p.toInt) : f_X3_get N r p = some 0 := by
  unfold f_X3_get
  rw [rp_holds_f h hp]
  simp [bI_f]
theorem rp_set (h : rp N r l) (hp : p.toInt = k) (hk : k < l.length) (v : Int32) : ∃ r', f_X3_set N r p v = some r' ∧ rp N r' (l.set k v) := by
  unfold f_X3_set
  rw [rp_holds_t h hp hk]
  obtain ⟨h1, h2, h3, h4⟩ := h
  simp only [Option.bind_some]
  rw [if_neg bIt0, if_pos (inB_t hp (by omega))]
  refine ⟨_, rfl, by rw [List.length_set]; exact h1, by rw [List.length_set]; exact h2, h3, fun i hi => ?_⟩
  rw [List.length_set] at hi
  rw [clampN hp, List.getElem?_set]
  by_cases e : k = i
  · subst e
    rw [if_pos rfl, if_pos hk]; simp [upd]
  · rw [if_neg e, h4 i hi]
    simp [upd, Ne.symm e]
theorem rp_set_out (h : rp N r l) (hp : p.toInt < 0 ∨ (l.length : Int) ≤ p.toInt) (v : Int32) : f_X3_set N r p v = some r := by
  unfold f_X3_set
  rw [rp_holds_f h hp]
  simp [bI_f]
theorem rp_insert (h : rp N r l) (hp : p.toInt = k) (hk : k ≤ l.length) (hl : l.length < N) (x : Int32) : ∃ r', f_X3_insert N r p x = some r' ∧ rp N r' (l.insertIdx k x) := by
  have eN := rp_nN h
  obtain ⟨h1, h2, h3, h4⟩ := h
  have e0 := t0
  have e1 := t1
  have ep : (p + 1).toInt = (k + 1 : Nat) := by rw [ta (by omega) (by omega)]; omega
  have er : (r.2 - p).toInt = (l.length - k : Nat) := by rw [tb (by omega) (by omega)]; omega
  have es : (r.2 + 1).toInt = (l.length + 1 : Nat) := by rw [ta (by omega) (by omega)]; omega
  unfold f_X3_insert
  rw [if_neg (by rw [Int32.lt_iff_toInt_lt]; omega), if_neg (by rw [Int32.lt_iff_toInt_lt]; omega), if_pos (by rw [Int32.lt_iff_toInt_lt]; omega), if_pos (cpB_t hp ep er (by omega) (by omega)), if_pos (inB_t hp (by omega))]
  have hlen : (l.insertIdx k x).length = l.length + 1 := List.length_insertIdx_of_le_length hk x
  refine ⟨_, rfl, by rw [hlen]; exact es, by omega, h3, fun i hi => ?_⟩
  rw [hlen] at hi
  rw [clampN hp, clampN ep, clampN er]
  by_cases c1 : i < k
  · rw [List.getElem?_insertIdx_of_lt c1, h4 i (by omega)]
    simp only [upd, va_cpy]
    rw [if_neg (by omega), if_neg (by omega)]
  · by_cases c2 : i = k
    · subst c2
      rw [List.getElem?_insertIdx_self, if_pos hk]
      simp [upd]
    · rw [List.getElem?_insertIdx_of_gt (by omega), h4 (i - 1) (by omega)]
      simp only [upd, va_cpy]
      have ei : k + (i - (k + 1)) = i - 1 := by omega
      rw [if_neg c2, if_pos (by omega), ei]
theorem rp_insert_full (h : rp N r l) (hl : l.length = N) (x : Int32) : f_X3_insert N r p x = some r := by
  have eN := rp_nN h
  unfold f_X3_insert
  by_cases c1 : p < 0
  · rw [if_pos c1]
  · rw [if_neg c1]
    by_cases c2 : r.2 < p
    · rw [if_pos c2]
    · rw [if_neg c2, if_neg (by rw [Int32.lt_iff_toInt_lt]; have := h.1; omega)]
theorem rp_add (h : rp N r l) (hl : l.length < N) (x : Int32) : ∃ r', f_X3_add N r x = some r' ∧ rp N r' (l ++ [x]) := by
  obtain ⟨r', e, h'⟩ := rp_insert h (p := r.2) (k := l.length) h.1 (Nat.le_refl _) hl x
  refine ⟨r', ?_, ?_⟩
  · unfold f_X3_add
    rw [e]; rfl
  · rw [List.insertIdx_length_self] at h'
    exact h'
theorem rp_remove (h : rp N r l) (hp : p.toInt = k) {v : Int32} (hv : l[k]? = some v) : ∃ r', f_X3_remove N r p = some (v, r') ∧ rp N r' (l.eraseIdx k) := by
  obtain ⟨hk, e⟩ := rp_at h hv
  unfold f_X3_remove
  rw [rp_holds_t h hp hk]
  obtain ⟨h1, h2, h3, h4⟩ := h
  have e1 := t1
  have ep : (p + 1).toInt = (k + 1 : Nat) := by rw [ta (by omega) (by omega)]; omega
  have er : (r.2 - p).toInt = (l.length - k : Nat) := by rw [tb (by omega) (by omega)]; omega
  have er2 : (r.2 - p - 1).toInt = (l.length - k - 1 : Nat) := by rw [tb (by omega) (by omega)]; omega
  have es : (r.2 - 1).toInt = (l.length - 1 : Nat) := by rw [tb (by omega) (by omega)]; omega
  simp only [Option.bind_some]
  rw [if_neg bIt0, if_pos (inB_t hp (by omega)), if_pos (cpB_t ep hp er2 (by omega) (by omega))]
  have hlen : (l.eraseIdx k).length = l.length - 1 := List.length_eraseIdx_of_lt hk
  refine ⟨_, by rw [clampN hp, e], by rw [hlen]; exact es, by omega, h3, fun i hi => ?_⟩
  rw [hlen] at hi
  rw [clampN ep, clampN er2]
  by_cases c1 : i < k
  · rw [List.getElem?_eraseIdx_of_lt c1, h4 i (by omega)]
    simp only [va_cpy]
    rw [if_neg (by omega)]
  · rw [List.getElem?_eraseIdx_of_ge (by omega), h4 (i + 1) (by omega)]
    simp only [va_cpy]
    have ei : k + 1 + (i - k) = i + 1 := by omega
    rw [if_pos (by omega), ei]
theorem rp_remove_out (h : rp N r l) (hp : p.toInt < 0 ∨ (l.length : Int) ≤ p.toInt) : f_X3_remove N r p = some (0, r) := by
  unfold f_X3_remove
  rw [rp_holds_f h hp]
  simp [bI_f]
theorem rp_clear (h : rp N r l) : ∃ r', f_X3_clear r = some r' ∧ rp N r' [] := ⟨_, rfl, t0, Nat.zero_le _, h.2.2.1, fun i hi => absurd hi (Nat.not_lt_zero _)⟩
theorem rp_placeOf_l (h : rp N r l) {v : Int32} : ∀ (F k : Nat) (p : Int32), p.toInt = k → k ≤ l.length → l.length - k < F → (∀ j, j < k → l[j]? ≠ some v) → (∃ (j : Nat) (q : Int32), l_X3_placeOf_2 N r v F p = some q ∧ q.toInt = j ∧ l[j]? = some v ∧ ∀ i, i < j → l[i]? ≠ some v) ∨ (l_X3_placeOf_2 N r v F p = some (-1) ∧ v ∉ l) := by
  intro F
  induction F with
  | zero => intro k p hp hk hF; omega
  | succ F ih =>
    intro k p hp hk hF hn
    have h1 := h.1
    have h3 := h.2.2.1
    have h2 := h.2.1
    rw [l_X3_placeOf_2]
    by_cases c : k = l.length
    · rw [if_pos (by rw [Int32.le_iff_toInt_le]; omega)]
      refine Or.inr ⟨rfl, fun hm => ?_⟩
      obtain ⟨j, hj⟩ := List.getElem?_of_mem hm
      exact hn j (by have := (List.getElem?_eq_some_iff.mp hj).1; omega) hj
    · rw [if_neg (by rw [Int32.le_iff_toInt_le]; omega)]
      have hk' : k < l.length := by omega
      rw [rp_get h hp (h.2.2.2 k hk')]
      simp only [Option.bind_some]
      by_cases c2 : r.1 k = v
      · rw [if_pos c2]
        exact Or.inl ⟨k, p, rfl, hp, by rw [h.2.2.2 k hk', c2], hn⟩
      · rw [if_neg c2]
        refine ih (k + 1) (p + 1) (by rw [ta (by rw [t1]; omega) (by rw [t1]; omega), t1]; omega) hk' (by omega) (fun j hj => ?_)
        by_cases e : j = k
        · subst e
          rw [h.2.2.2 j hk']
          exact fun z => c2 (Option.some.inj z)
        · exact hn j (by omega)
theorem rp_placeOf (h : rp N r l) (v : Int32) : (∃ (j : Nat) (q : Int32), f_X3_placeOf N r v = some q ∧ q.toInt = j ∧ l[j]? = some v ∧ ∀ i, i < j → l[i]? ≠ some v) ∨ (f_X3_placeOf N r v = some (-1) ∧ v ∉ l) := by
  unfold f_X3_placeOf
  have h3 := h.2.2.1
  have h2 := h.2.1
  exact rp_placeOf_l h FU 0 0 t0 (Nat.zero_le _) (by show _ < 1000000; omega) (fun j hj => absurd hj (Nat.not_lt_zero _))
theorem rp_count_l (h : rp N r l) {v : Int32} : ∀ (F k : Nat) (a p : Int32), p.toInt = k → k ≤ l.length → l.length - k < F → a.toInt = (l.take k).count v → ∃ q, l_X3_count_4 N r v F a p = some q ∧ q.toInt = l.count v := by
  intro F
  induction F with
  | zero => intro k a p hp hk hF; omega
  | succ F ih =>
    intro k a p hp hk hF ha
    have h1 := h.1
    have h3 := h.2.2.1
    have h2 := h.2.1
    rw [l_X3_count_4]
    by_cases c : k = l.length
    · rw [if_pos (by rw [Int32.le_iff_toInt_le]; omega)]
      refine ⟨a, rfl, ?_⟩
      rw [ha, c, List.take_length]
    · rw [if_neg (by rw [Int32.le_iff_toInt_le]; omega)]
      have hk' : k < l.length := by omega
      have hg := h.2.2.2 k hk'
      rw [rp_get h hp hg]
      simp only [Option.bind_some]
      have hc : (l.take k).count v ≤ k := Nat.le_trans List.count_le_length (by rw [List.length_take]; omega)
      have ht : (l.take (k + 1)).count v = (l.take k).count v + if r.1 k = v then 1 else 0 := by
        rw [List.take_add_one, hg, List.count_append]
        by_cases c2 : r.1 k = v
        · simp [c2]
        · simp [c2]
      have ep : (p + 1).toInt = (k + 1 : Nat) := by rw [ta (by rw [t1]; omega) (by rw [t1]; omega), t1]; omega
      by_cases c2 : r.1 k = v
      · rw [if_pos c2]
        rw [if_pos c2] at ht
        exact ih (k + 1) (a + 1) (p + 1) ep hk' (by omega) (by rw [ta (by rw [t1]; omega) (by rw [t1]; omega), t1]; omega)
      · rw [if_neg c2]
        rw [if_neg c2] at ht
        exact ih (k + 1) (a + 0) (p + 1) ep hk' (by omega) (by rw [ta (by rw [t0]; omega) (by rw [t0]; omega), t0]; omega)
theorem rp_count (h : rp N r l) (v : Int32) : ∃ q, f_X3_count N r v = some q ∧ q.toInt = l.count v := by
  unfold f_X3_count
  have h3 := h.2.2.1
  have h2 := h.2.1
  exact rp_count_l h FU 0 0 0 t0 (Nat.zero_le _) (by show _ < 1000000; omega) (by simp [t0])
theorem rp_isLike_l {N2 : Nat} {r2 : RS} {l2 : List Int32} (h : rp N r l) (g : rp N2 r2 l2) : ∀ (F k : Nat) (p : Int32), p.toInt = k → k ≤ l.length → l.length - k < F → (∀ j, j < k → j < l2.length → l[j]? = l2[j]?) → ∃ b, l_X3_isLike_2 N r N2 r2 F p = some b ∧ (b = true ↔ l = l2) := by
  intro F
  induction F with
  | zero => intro k p hp hk hF; omega
  | succ F ih =>
    intro k p hp hk hF hn
    have h1 := h.1
    have h3 := h.2.2.1
    have h2 := h.2.1
    have g1 := g.1
    rw [l_X3_isLike_2]
    by_cases c : k = l.length
    · rw [if_pos (by rw [Int32.le_iff_toInt_le]; omega)]
      by_cases c2 : r.2 = r2.2
      · rw [if_pos c2]
        have hl : l.length = l2.length := by rw [c2] at h1; omega
        refine ⟨true, rfl, fun _ => ?_, fun _ => rfl⟩
        apply List.ext_getElem?
        intro j
        by_cases cj : j < k
        · exact hn j cj (by omega)
        · rw [List.getElem?_eq_none (by omega), List.getElem?_eq_none (by omega)]
      · rw [if_neg c2]
        refine ⟨false, rfl, fun z => (by cases z), fun z => ?_⟩
        subst z
        exact absurd (Int32.toInt_inj.mp (h1.trans g1.symm)) c2
    · rw [if_neg (by rw [Int32.le_iff_toInt_le]; omega)]
      have hk' : k < l.length := by omega
      have hg := h.2.2.2 k hk'
      have ep : (p + 1).toInt = (k + 1 : Nat) := by rw [ta (by rw [t1]; omega) (by rw [t1]; omega), t1]; omega
      rw [rp_get h hp hg]
      simp only [Option.bind_some]
      by_cases hk2 : k < l2.length
      · have gg := g.2.2.2 k hk2
        rw [rp_get g hp gg]
        simp only [Option.bind_some]
        by_cases c2 : r.1 k = r2.1 k
        · rw [if_pos c2]
          refine ih (k + 1) (p + 1) ep hk' (by omega) (fun j hj hj2 => ?_)
          by_cases e : j = k
          · subst e; rw [hg, gg, c2]
          · exact hn j (by omega) hj2
        · rw [if_neg c2]
          refine ⟨false, rfl, fun z => (by cases z), fun z => ?_⟩
          subst z
          exact absurd (Option.some.inj (hg.symm.trans gg)) c2
      · rw [rp_get_out g (Or.inr (by omega))]
        simp only [Option.bind_some]
        by_cases c2 : r.1 k = 0
        · rw [if_pos c2]
          exact ih (k + 1) (p + 1) ep hk' (by omega) (fun j hj hj2 => hn j (by omega) hj2)
        · rw [if_neg c2]
          refine ⟨false, rfl, fun z => (by cases z), fun z => ?_⟩
          subst z
          omega
theorem rp_isLike {N2 : Nat} {r2 : RS} {l2 : List Int32} (h : rp N r l) (g : rp N2 r2 l2) : ∃ b, f_X3_isLike N r N2 r2 = some b ∧ (b = true ↔ l = l2) := by
  unfold f_X3_isLike
  have h3 := h.2.2.1
  have h2 := h.2.1
  exact rp_isLike_l h g FU 0 0 t0 (Nat.zero_le _) (by show _ < 1000000; omega) (fun j hj => absurd hj (Nat.not_lt_zero _))
end RP
