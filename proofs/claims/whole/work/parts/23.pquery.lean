/-! what the crowd's questions answer, said of the crowd as a function of time -/
def tot : CL → Int
  | [] => 0
  | p :: L => p.2 + tot L
theorem tot_app (A : CL) (p : Int × Int) : tot (A ++ [p]) = tot A + p.2 := by
  induction A with
  | nil => simp [tot]
  | cons a A ih => rw [List.cons_append, tot, ih, tot]; omega
theorem pref_app (A B : CL) (y : Int) : pref (A ++ B) y = pref A y + pref B y := by
  induction A with
  | nil => simp [pref]
  | cons a A ih => rw [List.cons_append, pref, ih, pref]; omega
theorem pref_tot {A : CL} {y : Int} (h : ∀ p ∈ A, p.1 ≤ y) : pref A y = tot A := by
  induction A with
  | nil => rfl
  | cons a A ih => rw [pref, tot, if_pos (h a List.mem_cons_self), ih (fun p hp => h p (List.mem_cons_of_mem _ hp))]
section SG
variable {n : Nat} {T S W : Nat → Nat} {C : Nat → Bool} {A B : CL} {p : Int × Int}
theorem sg0 (h : canon n T S W C (A ++ B)) {y : Int} (hA : ∀ q ∈ A, q.1 ≤ y) (hB : ∀ q ∈ B, y < q.1) : FF n T S W C y = tot A := by
  rw [← h.2.2 y, pref_app, pref_tot hA, pref_pre hB]; omega
theorem sg_lt (h : canon n T S W C (A ++ p :: B)) : (∀ q ∈ A, q.1 < p.1) ∧ ∀ q ∈ B, p.1 < q.1 := by
  obtain ⟨-, h2, h3⟩ := srt_last h.1
  exact ⟨fun q hq => h3 q hq p List.mem_cons_self, h2.1⟩
theorem sg1 (h : canon n T S W C (A ++ p :: B)) : FF n T S W C (p.1 - 1) = tot A := by
  obtain ⟨h1, h2⟩ := sg_lt h
  refine sg0 h (fun q hq => by have := h1 q hq; omega) (fun q hq => ?_)
  rcases List.mem_cons.mp hq with rfl | hq
  · omega
  · have := h2 q hq; omega
theorem sg_app (h : canon n T S W C (A ++ p :: B)) : canon n T S W C ((A ++ [p]) ++ B) := by
  rw [List.append_assoc]; exact h
theorem sg3 (h : canon n T S W C (A ++ p :: B)) {y : Int} (hy : p.1 ≤ y) (hB : ∀ q ∈ B, y < q.1) : FF n T S W C y = tot A + p.2 := by
  obtain ⟨h1, h2⟩ := sg_lt h
  rw [← tot_app]
  refine sg0 (sg_app h) (fun q hq => ?_) hB
  rcases List.mem_append.mp hq with hq | hq
  · have := h1 q hq; omega
  · rw [List.mem_singleton.mp hq]; exact hy
theorem sg2 (h : canon n T S W C (A ++ p :: B)) : FF n T S W C p.1 = tot A + p.2 := sg3 h (Int.le_refl _) (sg_lt h).2
theorem sg_end (ok : okB n T S W) (h : canon n T S W C A) : tot A = 0 := by
  have := sg0 (A := A) (B := []) (y := 20000) (by rw [List.append_nil]; exact h) (fun q hq => by have := (canon_b ok h hq).1; omega) (fun q hq => by cases hq)
  rw [← this]
  exact FF_out (fun b hb => (ok.2 b hb).1) (fun b hb => (ok.2 b hb).2.1) (Or.inr (by omega))
theorem sg_bd (ok : okB n T S W) (y : Int) : 0 ≤ FF n T S W C y ∧ FF n T S W C y ≤ 1080 := by
  have h1 := FF_nn (n := n) (T := T) (S := S) (W := W) (C := C) y
  have h2 := FF_le (n := n) (T := T) (S := S) (W := W) (C := C) (fun b hb => (ok.2 b hb).2.2.2) y
  have := ok.1
  omega
theorem sg_totA (ok : okB n T S W) (h : canon n T S W C (A ++ B)) : 0 ≤ tot A ∧ tot A ≤ 1080 := by
  cases B with
  | nil =>
    rw [List.append_nil] at h
    rw [sg_end ok h]; omega
  | cons p B => rw [← sg1 h]; exact sg_bd ok _
end SG
section QU
variable {n : Nat} {T S W : Nat → Nat} {C : Nat → Bool} {t c : RS} {L : CL}
theorem sz_t (t : RS) : f_X3_size t = some t.2 := rfl
theorem at_l (ok : okB n T S W) (hr : rpC t c L) (h : canon n T S W C L) {v1 : Int32} {y : Int} (hv : v1.toInt = y) : ∀ (B : CL) (F : Nat) (A : CL) (v2 v3 : Int32), L = A ++ B → B.length < F → v2.toInt = tot A → v3.toInt = A.length → (∀ q ∈ A, q.1 ≤ y) → ∃ r, l_X0_at_4 t c v1 F v2 v3 = some r ∧ r.toInt = FF n T S W C y := by
  intro B
  induction B with
  | nil =>
    intro F A v2 v3 e hF h2 h3 hA
    obtain ⟨F, rfl⟩ : ∃ F', F = F' + 1 := ⟨F - 1, by simp at hF; omega⟩
    rw [l_X0_at_4, sz_t]
    simp only [Option.bind_some]
    have hs := rpC_sz hr
    rw [if_pos (by rw [Int32.le_iff_toInt_le, hs, h3, e]; simp)]
    subst e
    exact ⟨v2, rfl, by rw [h2, sg0 (B := []) h hA (fun q hq => by cases hq)]⟩
  | cons p B ih =>
    intro F A v2 v3 e hF h2 h3 hA
    obtain ⟨F, rfl⟩ : ∃ F', F = F' + 1 := ⟨F - 1, by simp at hF; omega⟩
    rw [l_X0_at_4, sz_t]
    simp only [Option.bind_some]
    have hs := rpC_sz hr
    have hl := rpC_len hr
    subst e
    rw [List.length_append, List.length_cons] at hs hl
    rw [if_neg (by rw [Int32.le_iff_toInt_le]; omega), rpC_t hr h3]
    simp only [Option.bind_some]
    have hp1 := rpC_1 hr
    have hp2 := rpC_2 hr
    by_cases c1 : v1 < iz p.1
    · rw [if_pos c1]
      rw [Int32.lt_iff_toInt_lt] at c1
      refine ⟨v2, rfl, ?_⟩
      rw [h2, sg0 h hA (fun q hq => ?_)]
      rcases List.mem_cons.mp hq with rfl | hq
      · omega
      · have := (sg_lt h).2 q hq; omega
    · rw [if_neg c1, rpC_c hr h3]
      simp only [Option.bind_some]
      rw [Int32.lt_iff_toInt_lt] at c1
      have b1 := sg_bd (C := C) ok p.1
      have b2 := sg_bd (C := C) ok (p.1 - 1)
      rw [sg2 h] at b1
      rw [sg1 h] at b2
      refine ih F (A ++ [p]) _ _ (by simp) (by simp at hF; omega) (by rw [ta (by omega) (by omega), tot_app, h2, hp2]) (by rw [inc_t h3 (by omega)]; simp) (fun q hq => ?_)
      rcases List.mem_append.mp hq with hq | hq
      · exact hA q hq
      · rw [List.mem_singleton.mp hq]; omega
theorem at_s (ok : okB n T S W) (hr : rpC t c L) (h : canon n T S W C L) {v1 : Int32} {y : Int} (hv : v1.toInt = y) : ∃ r, f_X0_at t c v1 = some r ∧ r.toInt = FF n T S W C y := by
  have hl := rpC_len hr
  exact at_l ok hr h hv L FU [] 0 0 rfl (by show _ < 1000000; omega) t0 t0 (fun q hq => by cases hq)
theorem changeAt_s (ok : okB n T S W) (hr : rpC t c L) (h : canon n T S W C L) {v1 : Int32} {y : Int} (hv : v1.toInt = y) : ∃ r, f_X0_changeAt t c v1 = some r ∧ r.toInt = FF n T S W C y - FF n T S W C (y - 1) := by
  unfold f_X0_changeAt
  rcases rp_placeOf hr.1 v1 with ⟨j, q, e, hq, hj, -⟩ | ⟨e, hn⟩
  · rw [e]; simp only [Option.bind_some]
    rw [if_pos (by rw [Int32.le_iff_toInt_le, t0]; omega)]
    rw [List.getElem?_map] at hj
    cases hp : L[j]? with
    | none => rw [hp] at hj; cases hj
    | some p =>
      rw [hp] at hj
      have hj : iz p.1 = v1 := Option.some.inj hj
      have hm := List.mem_of_getElem? hp
      have hb := hr.2.2 p hm
      have ep : p.1 = y := by rw [← hv, ← hj]; exact (iz_t (by omega) (by omega)).symm
      rw [rp_get hr.2.1 hq (v := iz p.2) (by rw [List.getElem?_map, hp]; rfl)]
      refine ⟨_, rfl, ?_⟩
      have := pref_at h.1 hm
      rw [h.2.2, h.2.2, ep] at this
      rw [iz_t (by omega) (by omega)]; omega
  · rw [e]; simp only [Option.bind_some]
    rw [if_neg (by rw [Int32.le_iff_toInt_le]; decide)]
    refine ⟨0, rfl, ?_⟩
    have := pref_no (L := L) (y := y) (fun p hp z => hn (by
      rw [show v1 = iz p.1 from by rw [z]; exact iz_of hv]
      exact List.mem_map_of_mem hp))
    rw [h.2.2, h.2.2] at this
    rw [t0]; omega
theorem highest_l (ok : okB n T S W) (hr : rpC t c L) (h : canon n T S W C L) : ∀ (B : CL) (F : Nat) (A : CL) (v1 v2 v3 : Int32), L = A ++ B → B.length < F → v1.toInt = tot A → v3.toInt = A.length → (0 ≤ v2.toInt ∧ (∀ y, (∀ q ∈ B, y < q.1) → FF n T S W C y ≤ v2.toInt) ∧ (v2.toInt = 0 ∨ ∃ y, FF n T S W C y = v2.toInt)) → ∃ r, l_X0_highest_6 t c F v1 v2 v3 = some r ∧ 0 ≤ r.toInt ∧ (∀ y, FF n T S W C y ≤ r.toInt) ∧ (r.toInt = 0 ∨ ∃ y, FF n T S W C y = r.toInt) := by
  intro B
  induction B with
  | nil =>
    intro F A v1 v2 v3 e hF h1 h3 hm
    obtain ⟨F, rfl⟩ : ∃ F', F = F' + 1 := ⟨F - 1, by simp at hF; omega⟩
    rw [l_X0_highest_6, sz_t]
    simp only [Option.bind_some]
    have hs := rpC_sz hr
    rw [if_pos (by rw [Int32.le_iff_toInt_le, hs, h3, e]; simp)]
    exact ⟨v2, rfl, hm.1, fun y => hm.2.1 y (fun q hq => by cases hq), hm.2.2⟩
  | cons p B ih =>
    intro F A v1 v2 v3 e hF h1 h3 hm
    obtain ⟨F, rfl⟩ : ∃ F', F = F' + 1 := ⟨F - 1, by simp at hF; omega⟩
    rw [l_X0_highest_6, sz_t]
    simp only [Option.bind_some]
    have hs := rpC_sz hr
    have hl := rpC_len hr
    subst e
    rw [List.length_append, List.length_cons] at hs hl
    rw [if_neg (by rw [Int32.le_iff_toInt_le]; omega), rpC_c hr h3]
    simp only [Option.bind_some]
    have hp2 := rpC_2 hr
    have b1 := sg_bd (C := C) ok p.1
    have b2 := sg_bd (C := C) ok (p.1 - 1)
    have g2 := sg2 h
    rw [g2] at b1
    rw [sg1 h] at b2
    have e1 : (v1 + iz p.2).toInt = tot (A ++ [p]) := by rw [ta (by omega) (by omega), tot_app, h1, hp2]
    have e2 := e1
    rw [tot_app] at e2
    refine ih F (A ++ [p]) _ _ _ (by simp) (by simp at hF; omega) e1 (by rw [inc_t h3 (by omega)]; simp) ?_
    by_cases c1 : v2 < v1 + iz p.2
    · rw [if_pos c1]
      rw [Int32.lt_iff_toInt_lt, e2] at c1
      refine ⟨by omega, fun y hy => ?_, Or.inr ⟨p.1, by omega⟩⟩
      by_cases c2 : p.1 ≤ y
      · rw [sg3 h c2 hy]; omega
      · have := hm.2.1 y (fun q hq => by
          rcases List.mem_cons.mp hq with rfl | hq
          · omega
          · exact hy q hq)
        omega
    · rw [if_neg c1]
      rw [Int32.lt_iff_toInt_lt, e2] at c1
      refine ⟨hm.1, fun y hy => ?_, hm.2.2⟩
      by_cases c2 : p.1 ≤ y
      · rw [sg3 h c2 hy]; omega
      · exact hm.2.1 y (fun q hq => by
          rcases List.mem_cons.mp hq with rfl | hq
          · omega
          · exact hy q hq)
theorem FF_lo (ok : okB n T S W) (h : canon n T S W C L) {y : Int} (hy : ∀ q ∈ L, y < q.1) : FF n T S W C y = 0 := by
  have := sg0 (A := []) (B := L) h (fun q hq => by cases hq) hy
  exact this
theorem highest_s (ok : okB n T S W) (hr : rpC t c L) (h : canon n T S W C L) : ∃ r, f_X0_highest t c = some r ∧ 0 ≤ r.toInt ∧ (∀ y, FF n T S W C y ≤ r.toInt) ∧ (r.toInt = 0 ∨ ∃ y, FF n T S W C y = r.toInt) := by
  have hl := rpC_len hr
  exact highest_l ok hr h L FU [] 0 0 0 rfl (by show _ < 1000000; omega) t0 t0 ⟨by rw [t0]; omega, fun y hy => by rw [FF_lo ok h hy, t0]; omega, Or.inl t0⟩
theorem highestFrom_l (ok : okB n T S W) (hr : rpC t c L) (h : canon n T S W C L) : ∀ (B : CL) (F : Nat) (A : CL) (v1 v2 v3 v4 : Int32), L = A ++ B → B.length < F → v1.toInt = tot A → v4.toInt = A.length → (0 ≤ v2.toInt ∧ (∀ y, (∀ q ∈ B, y < q.1) → FF n T S W C y ≤ v2.toInt) ∧ ((v2.toInt = 0 ∧ A = []) ∨ (0 < v2.toInt ∧ FF n T S W C v3.toInt = v2.toInt ∧ ∀ y, y < v3.toInt → FF n T S W C y < v2.toInt))) → ∃ (r : Int32) (M : Int), l_X0_highestFrom_9 t c F v1 v2 v3 v4 = some r ∧ (L ≠ [] → 0 < M ∧ (∀ y, FF n T S W C y ≤ M) ∧ FF n T S W C r.toInt = M ∧ ∀ y, y < r.toInt → FF n T S W C y < M) := by
  intro B
  induction B with
  | nil =>
    intro F A v1 v2 v3 v4 e hF h1 h3 hm
    obtain ⟨F, rfl⟩ : ∃ F', F = F' + 1 := ⟨F - 1, by simp at hF; omega⟩
    rw [l_X0_highestFrom_9, sz_t]
    simp only [Option.bind_some]
    have hs := rpC_sz hr
    rw [if_pos (by rw [Int32.le_iff_toInt_le, hs, h3, e]; simp)]
    refine ⟨v3, v2.toInt, rfl, fun hne => ?_⟩
    rcases hm.2.2 with ⟨-, hA⟩ | ⟨q1, q2, q3⟩
    · exact absurd (by rw [e, hA]; rfl) hne
    · exact ⟨q1, fun y => hm.2.1 y (fun q hq => by cases hq), q2, q3⟩
  | cons p B ih =>
    intro F A v1 v2 v3 v4 e hF h1 h3 hm
    obtain ⟨F, rfl⟩ : ∃ F', F = F' + 1 := ⟨F - 1, by simp at hF; omega⟩
    rw [l_X0_highestFrom_9, sz_t]
    simp only [Option.bind_some]
    have hs := rpC_sz hr
    have hl := rpC_len hr
    subst e
    rw [List.length_append, List.length_cons] at hs hl
    rw [if_neg (by rw [Int32.le_iff_toInt_le]; omega), rpC_c hr h3]
    simp only [Option.bind_some]
    have hp1 := rpC_1 hr
    have hp2 := rpC_2 hr
    have b1 := sg_bd (C := C) ok p.1
    have b2 := sg_bd (C := C) ok (p.1 - 1)
    have g2 := sg2 h
    rw [g2] at b1
    rw [sg1 h] at b2
    have e1 : (v1 + iz p.2).toInt = tot (A ++ [p]) := by rw [ta (by omega) (by omega), tot_app, h1, hp2]
    have e2 := e1
    rw [tot_app] at e2
    have low : ∀ y, y < p.1 → (∀ q ∈ B, y < q.1) → FF n T S W C y ≤ v2.toInt := fun y hy hB => hm.2.1 y (fun q hq => by
      rcases List.mem_cons.mp hq with rfl | hq
      · exact hy
      · exact hB q hq)
    have lt := sg_lt h
    by_cases c1 : v1 + iz p.2 ≤ v2
    · rw [if_pos c1]
      rw [Int32.le_iff_toInt_le, e2] at c1
      refine ih F (A ++ [p]) _ _ _ _ (by simp) (by simp at hF; omega) e1 (by rw [inc_t h3 (by omega)]; simp) ⟨hm.1, fun y hy => ?_, ?_⟩
      · by_cases c2 : p.1 ≤ y
        · rw [sg3 h c2 hy]; omega
        · exact low y (by omega) hy
      · rcases hm.2.2 with ⟨q0, hA⟩ | q
        · exfalso
          subst hA
          have := h.2.1 p (by simp)
          simp only [tot] at c1 b1
          omega
        · exact Or.inr q
    · rw [if_neg c1, rpC_t hr h3]
      simp only [Option.bind_some]
      rw [Int32.le_iff_toInt_le, e2] at c1
      refine ih F (A ++ [p]) _ _ _ _ (by simp) (by simp at hF; omega) e1 (by rw [inc_t h3 (by omega)]; simp) ⟨by omega, fun y hy => ?_, Or.inr ⟨by omega, by rw [hp1]; omega, fun y hy => ?_⟩⟩
      · by_cases c2 : p.1 ≤ y
        · rw [sg3 h c2 hy]; omega
        · have := low y (by omega) hy; omega
      · rw [hp1] at hy
        have := low y hy (fun q hq => by have := lt.2 q hq; omega)
        omega
theorem highestFrom_s (ok : okB n T S W) (hr : rpC t c L) (h : canon n T S W C L) : ∃ (r : Int32) (M : Int), f_X0_highestFrom t c = some r ∧ (L ≠ [] → 0 < M ∧ (∀ y, FF n T S W C y ≤ M) ∧ FF n T S W C r.toInt = M ∧ ∀ y, y < r.toInt → FF n T S W C y < M) := by
  have hl := rpC_len hr
  exact highestFrom_l ok hr h L FU [] 0 0 0 0 rfl (by show _ < 1000000; omega) t0 t0 ⟨by rw [t0]; omega, fun y hy => by rw [FF_lo ok h hy, t0]; omega, Or.inl ⟨t0, rfl⟩⟩
theorem isEmpty_s (hr : rpC t c L) : f_X0_isEmpty t = some (decide (L = [])) := by
  unfold f_X0_isEmpty
  rw [sz_t]; simp only [Option.bind_some]
  have hs := rpC_sz hr
  cases L with
  | nil => rw [if_pos (Int32.toInt_inj.mp (by rw [hs, t0]; rfl))]; rfl
  | cons p L => rw [if_neg (fun z => by rw [z, t0, List.length_cons] at hs; omega)]; rfl
/-- nobody is on iff nothing is listed -/
theorem empty_iff (ok : okB n T S W) (h : canon n T S W C L) : L = [] ↔ ∀ y, FF n T S W C y = 0 := by
  constructor
  · intro e y; subst e; exact FF_lo ok h (fun q hq => by cases hq)
  · intro hz
    cases L with
    | nil => rfl
    | cons p L =>
      have h1 := pref_at h.1 (p := p) List.mem_cons_self
      rw [h.2.2, h.2.2, hz, hz] at h1
      have := h.2.1 p List.mem_cons_self
      omega
end QU
