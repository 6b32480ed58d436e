/-! the crowd's pure functions, said of change lists -/
def iz (v : Int) : Int32 := Int32.ofInt v
theorem iz_t {v : Int} (h1 : -2147483648 ≤ v) (h2 : v < 2147483648) : (iz v).toInt = v := Int32.toInt_ofInt_of_le (by omega) (by omega)
theorem iz_of {p : Int32} {v : Int} (h : p.toInt = v) : p = iz v := by rw [← h]; exact (Int32.ofInt_toInt p).symm
theorem ins_app {α : Type} (A B : List α) (x : α) : (A ++ B).insertIdx A.length x = A ++ x :: B := by
  induction A with
  | nil => simp
  | cons a A ih => simp [List.insertIdx_succ_cons, ih]
theorem era_app {α : Type} (A B : List α) (x : α) : (A ++ x :: B).eraseIdx A.length = A ++ B := by
  induction A with
  | nil => simp
  | cons a A ih => simp [ih]
theorem set_app {α : Type} (A B : List α) (x y : α) : (A ++ x :: B).set A.length y = A ++ y :: B := by
  induction A with
  | nil => simp
  | cons a A ih => simp [ih]
theorem at_app {α : Type} (A B : List α) (x : α) : (A ++ x :: B)[A.length]? = some x := by simp
/-- the rows t and c hold the change list L -/
def rpC (t c : RS) (L : CL) : Prop := rp 240 t (L.map (fun p => iz p.1)) ∧ rp 240 c (L.map (fun p => iz p.2)) ∧ ∀ p ∈ L, (0 ≤ p.1 ∧ p.1 ≤ 20000) ∧ (-20000 ≤ p.2 ∧ p.2 ≤ 20000)
section RC
variable {t c : RS} {L A B : CL} {p : Int × Int} {q : Int32}
theorem rpC_len (h : rpC t c L) : L.length ≤ 240 := by have := h.1.2.1; rwa [List.length_map] at this
theorem rpC_sz (h : rpC t c L) : t.2.toInt = L.length := by have := h.1.1; rwa [List.length_map] at this
theorem rpC_szc (h : rpC t c L) : c.2.toInt = L.length := by have := h.2.1.1; rwa [List.length_map] at this
theorem rpC_t (h : rpC t c (A ++ p :: B)) (hq : q.toInt = A.length) : f_X3_get 240 t q = some (iz p.1) :=
  rp_get h.1 (k := A.length) hq (by rw [List.map_append, List.map_cons]; have := at_app (A.map fun p => iz p.1) (B.map fun p => iz p.1) (iz p.1); rwa [List.length_map] at this)
theorem rpC_c (h : rpC t c (A ++ p :: B)) (hq : q.toInt = A.length) : f_X3_get 240 c q = some (iz p.2) :=
  rp_get h.2.1 (k := A.length) hq (by rw [List.map_append, List.map_cons]; have := at_app (A.map fun p => iz p.2) (B.map fun p => iz p.2) (iz p.2); rwa [List.length_map] at this)
theorem rpC_1 (h : rpC t c (A ++ p :: B)) : (iz p.1).toInt = p.1 := by
  have := h.2.2 p (by simp)
  exact iz_t (by omega) (by omega)
theorem rpC_2 (h : rpC t c (A ++ p :: B)) : (iz p.2).toInt = p.2 := by
  have := h.2.2 p (by simp)
  exact iz_t (by omega) (by omega)
theorem rpC_t_end (h : rpC t c L) (hq : q.toInt = L.length) : f_X3_get 240 t q = some 0 :=
  rp_get_out h.1 (Or.inr (by rw [List.length_map]; omega))
theorem inc_t {k : Nat} (hq : q.toInt = k) (hk : k < 1000) : (q + 1).toInt = (k + 1 : Nat) := by
  rw [ta (by rw [t1]; omega) (by rw [t1]; omega), t1]; omega
theorem dec_t {k : Nat} (hq : q.toInt = (k + 1 : Nat)) (hk : k < 1000) : (q - 1).toInt = k ∧ (q + (-1)).toInt = k := by
  have e : ((-1 : Int32)).toInt = -1 := rfl
  exact ⟨by rw [tb (by rw [t1]; omega) (by rw [t1]; omega), t1]; omega, by rw [ta (by rw [e]; omega) (by rw [e]; omega), e]; omega⟩
theorem alt_app {A B : CL} {x d : Int} (h : ∀ p ∈ A, p.1 < x) : alt (A ++ B) x d = A ++ alt B x d := by
  induction A with
  | nil => rfl
  | cons a A ih =>
    rw [List.cons_append, alt, if_pos (h a List.mem_cons_self), ih (fun p hp => h p (List.mem_cons_of_mem _ hp))]
    rfl
/-- the place of a time -/
theorem alter_l {x : Int} {v1 v2 : Int32} (h : rpC t c L) (h1 : v1.toInt = x) : ∀ (F : Nat) (A B : CL) (v3 : Int32), L = A ++ B → v3.toInt = A.length → A.length < F → (∀ p ∈ B, x ≤ p.1) → ∃ (A' B' : CL) (v : Int32), L = A' ++ B' ∧ v.toInt = A'.length ∧ l_X0_alter_8 t c v1 v2 F v3 = b_X0_alter_32 t c v1 v2 v ∧ (∀ p ∈ B', x ≤ p.1) ∧ (A' = [] ∨ ∃ A9 p, A' = A9 ++ [p] ∧ p.1 < x) := by
  intro F
  induction F with
  | zero => intro A B v3 _ _ hF; omega
  | succ F ih =>
    intro A B v3 e hv hF hB
    rw [l_X0_alter_8]
    have hlen := rpC_len h
    rcases List.eq_nil_or_concat A with rfl | ⟨A9, p, rfl⟩
    · rw [if_pos (by rw [Int32.le_iff_toInt_le, t0]; simp at hv; omega)]
      exact ⟨[], B, v3, e, hv, rfl, hB, Or.inl rfl⟩
    · rw [List.concat_eq_append] at *
      rw [List.length_append, List.length_singleton] at hv hF
      have hl2 : L.length = A9.length + 1 + B.length := by rw [e]; simp; omega
      rw [if_neg (by rw [Int32.le_iff_toInt_le, t0]; omega)]
      obtain ⟨d1, d2⟩ := dec_t (k := A9.length) hv (by omega)
      have e2 : L = A9 ++ p :: B := by rw [e]; simp
      have h' : rpC t c (A9 ++ p :: B) := e2 ▸ h
      rw [rpC_t h' d1]
      simp only [Option.bind_some]
      have hp := rpC_1 h'
      by_cases cd : iz p.1 < v1
      · rw [if_pos cd]
        rw [Int32.lt_iff_toInt_lt] at cd
        exact ⟨A9 ++ [p], B, v3, e, by rw [List.length_append, List.length_singleton]; exact hv, rfl, hB, Or.inr ⟨A9, p, rfl, by omega⟩⟩
      · rw [if_neg cd]
        rw [Int32.lt_iff_toInt_lt] at cd
        refine ih A9 (p :: B) _ e2 d2 (by omega) (fun z hz => ?_)
        rcases List.mem_cons.mp hz with rfl | hz
        · omega
        · exact hB z hz
theorem srt_last {A B : CL} (h : srt (A ++ B)) : srt A ∧ srt B ∧ ∀ p ∈ A, ∀ q ∈ B, p.1 < q.1 := by
  induction A with
  | nil => exact ⟨trivial, h, fun p hp => (by cases hp)⟩
  | cons a A ih =>
    obtain ⟨i1, i2, i3⟩ := ih h.2
    refine ⟨⟨fun q hq => h.1 q (List.mem_append_left _ hq), i1⟩, i2, fun p hp q hq => ?_⟩
    rcases List.mem_cons.mp hp with rfl | hp
    · exact h.1 q (List.mem_append_right _ hq)
    · exact i3 p hp q hq
theorem rpC_of {t' c' : RS} {L' : CL} (h1 : rp 240 t' (L'.map (fun p => iz p.1))) (h2 : rp 240 c' (L'.map (fun p => iz p.2))) (h3 : ∀ p ∈ L', (0 ≤ p.1 ∧ p.1 ≤ 20000) ∧ (-20000 ≤ p.2 ∧ p.2 ≤ 20000)) : rpC t' c' L' := ⟨h1, h2, h3⟩
theorem alter_ins {x d : Int} {v1 v2 v3 : Int32} (h : rpC t c (A ++ B)) (h1 : v1.toInt = x) (h2 : v2.toInt = d) (hv : v3.toInt = A.length) (hroom : (A ++ B).length < 240) : ∃ t' c', b_X0_alter_55 t c v1 v2 v3 = some (t', c') ∧ rp 240 t' ((A ++ (x, d) :: B).map (fun p => iz p.1)) ∧ rp 240 c' ((A ++ (x, d) :: B).map (fun p => iz p.2)) := by
  obtain ⟨t', e1, r1⟩ := rp_insert h.1 (k := A.length) hv (by simp) (by rw [List.length_map]; exact hroom) v1
  obtain ⟨c', e2, r2⟩ := rp_insert h.2.1 (k := A.length) hv (by simp) (by rw [List.length_map]; exact hroom) v2
  refine ⟨t', c', ?_, ?_, ?_⟩
  · unfold b_X0_alter_55
    rw [e1]; simp only [Option.bind_some]
    rw [e2]; rfl
  · have := ins_app (A.map fun p => iz p.1) (B.map fun p => iz p.1) v1
    rw [List.length_map] at this
    rw [List.map_append, this] at r1
    rw [List.map_append, List.map_cons, ← iz_of h1]
    exact r1
  · have := ins_app (A.map fun p => iz p.2) (B.map fun p => iz p.2) v2
    rw [List.length_map] at this
    rw [List.map_append, this] at r2
    rw [List.map_append, List.map_cons, ← iz_of h2]
    exact r2
theorem alter_spec {x d : Int} {v1 v2 : Int32} (h : rpC t c L) (hs : srt L) (h1 : v1.toInt = x) (h2 : v2.toInt = d) (hx : 0 ≤ x ∧ x ≤ 20000) (hd : -10 ≤ d ∧ d ≤ 10) (hroom : (∃ p ∈ L, p.1 = x) ∨ L.length < 240) (hb : ∀ p ∈ L, -10000 ≤ p.2 ∧ p.2 ≤ 10000) : ∃ t' c', f_X0_alter t c v1 v2 = some (t', c') ∧ rpC t' c' (alt L x d) := by
  have hlen := rpC_len h
  have hbd : ∀ p ∈ alt L x d, (0 ≤ p.1 ∧ p.1 ≤ 20000) ∧ (-20000 ≤ p.2 ∧ p.2 ≤ 20000) := by
    intro p hp
    have := alt_bd (L := L) (x := x) (d := d) (B := 10000) hb (by omega) (D := 10) hd p hp
    refine ⟨?_, by omega⟩
    rcases alt_mem hp with e | ⟨p', hp', e⟩
    · rw [e]; exact hx
    · rw [← e]; exact (h.2.2 p' hp').1
  unfold f_X0_alter
  have e0 : f_X3_size t = some t.2 := rfl
  rw [e0]; simp only [Option.bind_some]
  obtain ⟨A, B, v, e, hv, hl, hB, hA⟩ := alter_l (v2 := v2) h h1 FU L [] t.2 (by simp) (rpC_sz h) (by show _ < 1000000; omega) (fun p hp => (by cases hp))
  rw [hl]
  subst e
  obtain ⟨sA, sB, sAB⟩ := srt_last hs
  have hA' : ∀ p ∈ A, p.1 < x := by
    rcases hA with rfl | ⟨A9, p9, rfl, h9⟩
    · intro p hp; cases hp
    · intro p hp
      rcases List.mem_append.mp hp with hp | hp
      · have := (srt_last sA).2.2 p hp p9 (by simp); omega
      · rw [List.mem_singleton.mp hp]; exact h9
  rw [alt_app hA'] at hbd ⊢
  unfold b_X0_alter_32
  rw [e0]; simp only [Option.bind_some]
  have hsz := rpC_sz h
  cases B with
  | nil =>
    rw [if_pos (by rw [Int32.le_iff_toInt_le]; simp at hsz; omega)]
    have hr : (A ++ ([] : CL)).length < 240 := by
      rcases hroom with ⟨p, hp, e⟩ | hr
      · rw [List.append_nil] at hp; have := hA' p hp; omega
      · exact hr
    obtain ⟨t', c', e1, r1, r2⟩ := alter_ins h h1 h2 hv hr
    exact ⟨t', c', e1, rpC_of r1 r2 hbd⟩
  | cons p B =>
    have hp1 := rpC_1 h
    have hp2 := rpC_2 h
    have hxp := hB p List.mem_cons_self
    rw [if_neg (by rw [Int32.le_iff_toInt_le]; rw [List.length_append, List.length_cons] at hsz; omega), rpC_t h hv]
    simp only [Option.bind_some]
    rw [alt, if_neg (show ¬ p.1 < x by omega)] at hbd ⊢
    by_cases c1 : iz p.1 = v1
    · have e1 : p.1 = x := by rw [← hp1, c1, h1]
      rw [if_pos c1]
      rw [if_pos e1] at hbd ⊢
      rw [rpC_c h hv]; simp only [Option.bind_some]
      have hb2 := hb p (by simp)
      have hsum : (iz p.2 + v2).toInt = p.2 + d := by rw [ta (by omega) (by omega), hp2, h2]
      by_cases c2 : iz p.2 + v2 = 0
      · have e2 : p.2 + d = 0 := by rw [← hsum, c2, t0]
        rw [if_pos c2]
        rw [if_pos e2] at hbd ⊢
        obtain ⟨t', f1, r1⟩ := rp_remove h.1 (k := A.length) hv (v := iz p.1) (by have := at_app (A.map fun p => iz p.1) (B.map fun p => iz p.1) (iz p.1); rw [List.length_map] at this; rw [List.map_append, List.map_cons]; exact this)
        obtain ⟨c', f2, r2⟩ := rp_remove h.2.1 (k := A.length) hv (v := iz p.2) (by have := at_app (A.map fun p => iz p.2) (B.map fun p => iz p.2) (iz p.2); rw [List.length_map] at this; rw [List.map_append, List.map_cons]; exact this)
        refine ⟨t', c', by rw [f1]; simp only [Option.bind_some]; rw [f2]; rfl, rpC_of ?_ ?_ hbd⟩
        · have := era_app (A.map fun p => iz p.1) (B.map fun p => iz p.1) (iz p.1)
          rw [List.length_map] at this
          rw [List.map_append, List.map_cons, this] at r1
          rw [List.map_append]; exact r1
        · have := era_app (A.map fun p => iz p.2) (B.map fun p => iz p.2) (iz p.2)
          rw [List.length_map] at this
          rw [List.map_append, List.map_cons, this] at r2
          rw [List.map_append]; exact r2
      · have e2 : ¬ p.2 + d = 0 := fun z => c2 (Int32.toInt_inj.mp (by rw [hsum, z, t0]))
        rw [if_neg c2]
        rw [if_neg e2] at hbd ⊢

        obtain ⟨c', f2, r2⟩ := rp_set h.2.1 (k := A.length) hv (by simp) (iz p.2 + v2)
        refine ⟨t, c', by rw [f2]; rfl, rpC_of ?_ ?_ hbd⟩
        · have := h.1
          rw [List.map_append, List.map_cons] at this ⊢
          exact this
        · have := set_app (A.map fun p => iz p.2) (B.map fun p => iz p.2) (iz p.2) (iz p.2 + v2)
          rw [List.length_map] at this
          rw [List.map_append, List.map_cons, this] at r2
          rw [List.map_append, List.map_cons, ← iz_of hsum]
          exact r2
    · have e1 : ¬ p.1 = x := fun z => c1 (Int32.toInt_inj.mp (by rw [hp1, z, h1]))
      rw [if_neg c1]
      rw [if_neg e1] at hbd ⊢
      have hr : (A ++ p :: B).length < 240 := by
        rcases hroom with ⟨z, hz, e⟩ | hr
        · exfalso
          rcases List.mem_append.mp hz with hz | hz
          · have := hA' z hz; omega
          · rcases List.mem_cons.mp hz with e9 | hz
            · exact e1 (by rw [← e9]; exact e)
            · have := sB.1 z hz; omega
        · exact hr
      obtain ⟨t', c', f1, r1, r2⟩ := alter_ins h h1 h2 hv hr
      exact ⟨t', c', f1, rpC_of r1 r2 hbd⟩
end RC
/-- the load: weight times span -/
def LD (n : Nat) (S W : Nat → Nat) (C : Nat → Bool) : Int := sm n (fun b => if C b = true then (W b : Int) * S b else 0)
def crw (n : Nat) (T S W : Nat → Nat) (C : Nat → Bool) (L : CL) : Prop := canon n T S W C L ∧ mom L = -(LD n S W C)
/-- the bookings are as they must be -/
def okB (n : Nat) (T S W : Nat → Nat) : Prop := n ≤ 120 ∧ ∀ b, b < n → T b ≤ 9999 ∧ S b ≤ 500 ∧ 1 ≤ W b ∧ W b ≤ 9
section EN
variable {n : Nat} {T S W : Nat → Nat} {C : Nat → Bool} {t c : RS} {L : CL}
theorem canon_b (ok : okB n T S W) (h : canon n T S W C L) {p : Int × Int} (hp : p ∈ L) : (0 ≤ p.1 ∧ p.1 ≤ 10499) ∧ (-1080 ≤ p.2 ∧ p.2 ≤ 1080) := by
  obtain ⟨b, hb, hc, hS, e⟩ := canon_ev (fun b hb => by have := ok.2 b hb; omega) h hp
  have hbb := ok.2 b hb
  have h1 := pref_at h.1 hp
  rw [h.2.2, h.2.2] at h1
  have h2 := FF_nn (n := n) (T := T) (S := S) (W := W) (C := C) p.1
  have h3 := FF_nn (n := n) (T := T) (S := S) (W := W) (C := C) (p.1 - 1)
  have h4 := FF_le (n := n) (T := T) (S := S) (W := W) (C := C) (fun b hb => (ok.2 b hb).2.2.2) p.1
  have h5 := FF_le (n := n) (T := T) (S := S) (W := W) (C := C) (fun b hb => (ok.2 b hb).2.2.2) (p.1 - 1)
  have h6 := ok.1
  omega
theorem enter_gen (ok : okB n T S W) (hr : rpC t c L) (h : canon n T S W C L) {k : Nat} (hk : k < n) {d : Int} (hd : d ≠ 0) (hd2 : -9 ≤ d ∧ d ≤ 9) {p1 p2 p3 : Int32} (h1 : p1.toInt = T k) (h2 : p2.toInt = (T k : Int) + S k) (h3 : p3.toInt = d) {C' : Nat → Bool} (hF : ∀ y, FF n T S W C' y = FF n T S W C y + if (T k : Int) ≤ y ∧ y < T k + S k then d else 0) : ∃ t' c' L', f_X0_enter t c p1 p2 p3 = some (t', c') ∧ rpC t' c' L' ∧ canon n T S W C' L' ∧ mom L' = mom L - d * S k := by
  have okk := ok.2 k hk
  have ok1 := ok.1
  unfold f_X0_enter
  by_cases c0 : S k = 0
  · rw [if_pos (by rw [Int32.le_iff_toInt_le]; omega)]
    refine ⟨t, c, L, rfl, hr, ⟨h.1, h.2.1, fun y => ?_⟩, by rw [c0]; simp⟩
    rw [h.2.2 y, hF y, if_neg (by omega)]; omega
  · rw [if_neg (by rw [Int32.le_iff_toInt_le]; omega)]
    have hev : ∀ p ∈ L, p.1 ∈ evs T S n := by
      intro p hp
      obtain ⟨b, hb, -, -, e⟩ := canon_ev (fun b hb => by have := ok.2 b hb; omega) h hp
      obtain ⟨q1, q2⟩ := evs_mem (T := T) (S := S) hb
      rcases e with e | e
      · rw [e]; exact q1
      · rw [e]; exact q2
    obtain ⟨ek1, ek2⟩ := evs_mem (T := T) (S := S) hk
    have room : ∀ {M : CL} {x : Int} (d : Int), srt M → (∀ p ∈ M, p.1 ∈ evs T S n) → x ∈ evs T S n → (∃ p ∈ M, p.1 = x) ∨ M.length < 240 := by
      intro M x d hs hm hx
      by_cases e : ∃ p ∈ M, p.1 = x
      · exact Or.inl e
      · refine Or.inr ?_
        have hl := alt_len (L := M) (x := x) (d := d) hs (fun p hp z => e ⟨p, hp, z⟩)
        have := srt_len (L := alt M x d) (S := evs T S n) (srt_alt x d hs) (fun p hp => by
          rcases alt_mem hp with e1 | ⟨p', hp', e1⟩
          · rw [e1]; exact hx
          · rw [← e1]; exact hm p' hp')
        rw [evs_len] at this
        omega
    obtain ⟨t1', c1', e1, r1⟩ := alter_spec (v1 := p1) (v2 := p3) hr h.1 h1 h3 (by omega) (by omega) (room d h.1 hev ek1) (fun p hp => by have := canon_b ok h hp; omega)
    have s1 := srt_alt (T k : Int) d h.1
    have n1 := nz_alt (T k : Int) hd h.2.1
    have b1 := alt_bd (L := L) (x := (T k : Int)) (d := d) (B := 1080) (fun p hp => (canon_b ok h hp).2) (by omega) (D := 9) hd2
    have m1 : ∀ p ∈ alt L (T k) d, p.1 ∈ evs T S n := fun p hp => by
      rcases alt_mem hp with e1 | ⟨p', hp', e1⟩
      · rw [e1]; exact ek1
      · rw [← e1]; exact hev p' hp'
    have h3n : (-p3).toInt = -d := by rw [tn (by omega), h3]
    obtain ⟨t2', c2', e2, r2⟩ := alter_spec (v1 := p2) (v2 := -p3) r1 s1 h2 h3n (by omega) (by omega) (room (-d) s1 m1 ek2) (fun p hp => by have := b1 p hp; omega)
    rw [e1]; simp only [Option.bind_some]
    rw [e2]; simp only [Option.bind_some]
    refine ⟨t2', c2', _, rfl, r2, ⟨srt_alt _ _ s1, nz_alt _ (by omega) n1, fun y => ?_⟩, ?_⟩
    · rw [pref_alt, pref_alt, h.2.2, hF y]
      by_cases q1 : (T k : Int) ≤ y
      · by_cases q2 : (T k : Int) + S k ≤ y
        · rw [if_pos q1, if_pos q2, if_neg (by omega)]; omega
        · rw [if_pos q1, if_neg q2, if_pos (by omega)]; omega
      · rw [if_neg q1, if_neg (by omega), if_neg (by omega)]; omega
    · rw [mom_alt, mom_alt, Int.add_mul, Int.mul_neg, Int.mul_neg]
      have := Int.mul_comm (S k : Int) d
      omega
theorem LD_set {C' : Nat → Bool} {k : Nat} (hk : k < n) (h : ∀ b, b < n → b ≠ k → C' b = C b) (hc : C k = false) (hc' : C' k = true) : LD n S W C' = LD n S W C + (W k : Int) * S k := by
  unfold LD
  rw [sm_upd (f := fun b => if C' b = true then (W b : Int) * S b else 0) (g := fun b => if C b = true then (W b : Int) * S b else 0) hk (fun b hb hne => by simp only [h b hb hne])]
  simp [hc, hc']
/-- a booking comes -/
theorem enter_in (ok : okB n T S W) (hr : rpC t c L) (h : crw n T S W C L) {k : Nat} (hk : k < n) {p1 p2 p3 : Int32} (h1 : p1.toInt = T k) (h2 : p2.toInt = (T k : Int) + S k) (h3 : p3.toInt = W k) {C' : Nat → Bool} (hC : ∀ b, b < n → b ≠ k → C' b = C b) (hc : C k = false) (hc' : C' k = true) : ∃ t' c' L', f_X0_enter t c p1 p2 p3 = some (t', c') ∧ rpC t' c' L' ∧ crw n T S W C' L' := by
  have okk := ok.2 k hk
  obtain ⟨t', c', L', e, r, k1, k2⟩ := enter_gen (d := W k) ok hr h.1 hk (by omega) (by omega) h1 h2 h3 (C' := C') (fun y => by rw [FF_set hk hC hc hc' y]; rfl)
  refine ⟨t', c', L', e, r, k1, ?_⟩
  rw [k2, h.2, LD_set hk hC hc hc']; omega
/-- a booking goes back -/
theorem enter_out (ok : okB n T S W) (hr : rpC t c L) (h : crw n T S W C L) {k : Nat} (hk : k < n) {p1 p2 p3 : Int32} (h1 : p1.toInt = T k) (h2 : p2.toInt = (T k : Int) + S k) (h3 : p3.toInt = -(W k : Int)) {C' : Nat → Bool} (hC : ∀ b, b < n → b ≠ k → C' b = C b) (hc : C k = true) (hc' : C' k = false) : ∃ t' c' L', f_X0_enter t c p1 p2 p3 = some (t', c') ∧ rpC t' c' L' ∧ crw n T S W C' L' := by
  have okk := ok.2 k hk
  obtain ⟨t', c', L', e, r, k1, k2⟩ := enter_gen (d := -(W k : Int)) ok hr h.1 hk (by omega) (by omega) h1 h2 h3 (C' := C') (fun y => by
    have := FF_set (T := T) (S := S) (W := W) hk (fun b hb hne => (hC b hb hne).symm) hc' hc y
    unfold gb at this
    by_cases q : (T k : Int) ≤ y ∧ y < T k + S k
    · rw [if_pos q] at this ⊢; omega
    · rw [if_neg q] at this ⊢; omega)
  refine ⟨t', c', L', e, r, k1, ?_⟩
  have := LD_set (S := S) (W := W) hk (fun b hb hne => (hC b hb hne).symm) hc' hc
  rw [k2, h.2, Int.neg_mul]; omega
end EN
