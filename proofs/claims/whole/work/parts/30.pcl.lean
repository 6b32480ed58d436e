/-! the class's rows of numbers -/
/-- the ledger's row: what a function says of the bookings below n -/
def lr (n : Nat) (f : Nat → Nat) (r : RS) : Prop := rp 120 r ((List.range n).map (fun b => iz ((f b : Nat) : Int))) ∧ ∀ b, b < n → f b ≤ 20000
/-- a row of bookings -/
def qr (N : Nat) (r : RS) (Q : List Nat) : Prop := rp N r (Q.map (fun b => iz ((b : Nat) : Int))) ∧ ∀ b ∈ Q, b < 120
theorem izn {x : Nat} (h : x ≤ 20000) : (iz ((x : Nat) : Int)).toInt = x := iz_t (by omega) (by omega)
theorem spl {α : Type} {l : List α} {j : Nat} {a : α} (h : l[j]? = some a) : ∃ A B, l = A ++ a :: B ∧ A.length = j := by
  obtain ⟨hj, e⟩ := List.getElem?_eq_some_iff.mp h
  subst e
  exact ⟨l.take j, l.drop (j + 1), by rw [← List.drop_eq_getElem_cons hj, List.take_append_drop], by rw [List.length_take]; omega⟩
section LR
variable {n N : Nat} {f g T : Nat → Nat} {r : RS} {p v : Int32} {b x : Nat} {A B Q : List Nat}
theorem lr_len (h : lr n f r) : r.2.toInt = n := by
  have := h.1.1
  rwa [List.length_map, List.length_range] at this
theorem lr_120 (h : lr n f r) : n ≤ 120 := by
  have := h.1.2.1
  rwa [List.length_map, List.length_range] at this
theorem lr_get (h : lr n f r) (hp : p.toInt = b) (hb : b < n) : f_X3_get 120 r p = some (iz ((f b : Nat) : Int)) :=
  rp_get h.1 hp (by rw [List.getElem?_map, List.getElem?_range hb]; rfl)
theorem lr_t (h : lr n f r) (hb : b < n) : (iz ((f b : Nat) : Int)).toInt = f b := izn (h.2 b hb)
theorem lr_set (h : lr n f r) (hp : p.toInt = b) (hb : b < n) (hv : v.toInt = x) (hx : x ≤ 20000) (e : ∀ c, c < n → g c = if c = b then x else f c) : ∃ r', f_X3_set 120 r p v = some r' ∧ lr n g r' := by
  obtain ⟨r', e1, h1⟩ := rp_set h.1 hp (by rw [List.length_map, List.length_range]; exact hb) v
  refine ⟨r', e1, ?_, fun c hc => ?_⟩
  · have e9 : ((List.range n).map (fun b => iz ((f b : Nat) : Int))).set b v = (List.range n).map (fun b => iz ((g b : Nat) : Int)) := by
      apply List.ext_getElem?
      intro i
      rw [List.getElem?_set, List.getElem?_map, List.getElem?_map, List.length_map, List.length_range]
      by_cases hi : i < n
      · rw [List.getElem?_range hi]
        by_cases eb : b = i
        · subst eb
          rw [if_pos rfl, if_pos hb]
          show some v = some (iz ((g b : Nat) : Int))
          rw [e b hb, if_pos rfl, ← iz_of hv]
        · rw [if_neg eb]
          show some (iz ((f i : Nat) : Int)) = some (iz ((g i : Nat) : Int))
          rw [e i hi, if_neg (fun z => eb z.symm)]
      · rw [if_neg (by omega), List.getElem?_eq_none (by rw [List.length_range]; omega)]
        rfl
    rw [e9] at h1
    exact h1
  · rw [e c hc]
    by_cases z : c = b
    · rw [if_pos z]; exact hx
    · rw [if_neg z]; exact h.2 c hc
theorem lr_congr (h : lr n f r) (e : ∀ c, c < n → g c = f c) : lr n g r := by
  refine ⟨?_, fun c hc => by rw [e c hc]; exact h.2 c hc⟩
  have e9 : (List.range n).map (fun b => iz ((g b : Nat) : Int)) = (List.range n).map (fun b => iz ((f b : Nat) : Int)) := List.map_congr_left (fun c hc => by rw [e c (List.mem_range.mp hc)])
  rw [e9]
  exact h.1
theorem lr_add (h : lr n f r) (hn : n < 120) (hv : v.toInt = x) (hx : x ≤ 20000) (e : ∀ c, c < n → g c = f c) (e2 : g n = x) : ∃ r', f_X3_add 120 r v = some r' ∧ lr (n + 1) g r' := by
  obtain ⟨r', e1, h1⟩ := rp_add h.1 (by rw [List.length_map, List.length_range]; exact hn) v
  refine ⟨r', e1, ?_, fun c hc => ?_⟩
  · have e9 : (List.range n).map (fun b => iz ((f b : Nat) : Int)) ++ [v] = (List.range (n + 1)).map (fun b => iz ((g b : Nat) : Int)) := by
      have e8 : (List.range n).map (fun b => iz ((g b : Nat) : Int)) = (List.range n).map (fun b => iz ((f b : Nat) : Int)) := List.map_congr_left (fun c hc => by rw [e c (List.mem_range.mp hc)])
      rw [List.range_succ, List.map_append, e8]
      show _ ++ [v] = _ ++ [iz ((g n : Nat) : Int)]
      rw [e2, ← iz_of hv]
    rw [e9] at h1
    exact h1
  · rcases lt_so hc with z | z
    · rw [e c z]; exact h.2 c z
    · rw [z, e2]; exact hx
theorem qr_len (h : qr N r Q) : r.2.toInt = Q.length := by
  have := h.1.1
  rwa [List.length_map] at this
theorem qr_N (h : qr N r Q) : Q.length ≤ N ∧ N ≤ 1000 := by
  have := h.1.2.1
  rw [List.length_map] at this
  exact ⟨this, h.1.2.2.1⟩
theorem qr_get (h : qr N r (A ++ b :: B)) (hp : p.toInt = ((A.length : Nat) : Int)) : f_X3_get N r p = some (iz ((b : Nat) : Int)) :=
  rp_get h.1 hp (by simp)
theorem qr_b (h : qr N r Q) (hb : b ∈ Q) : (iz ((b : Nat) : Int)).toInt = b := izn (by have := h.2 b hb; omega)
theorem qr_insert (h : qr N r (A ++ B)) (hp : p.toInt = ((A.length : Nat) : Int)) (hl : (A ++ B).length < N) (hv : v.toInt = b) (hb : b < 120) : ∃ r', f_X3_insert N r p v = some r' ∧ qr N r' (A ++ b :: B) := by
  obtain ⟨r', e, h1⟩ := rp_insert h.1 hp (by simp) (by rw [List.length_map]; exact hl) v
  refine ⟨r', e, ?_, fun c hc => ?_⟩
  · have e9 := ins_app (A.map (fun b => iz ((b : Nat) : Int))) (B.map (fun b => iz ((b : Nat) : Int))) v
    rw [List.length_map] at e9
    rw [List.map_append, e9] at h1
    rw [List.map_append, List.map_cons, ← iz_of hv]
    exact h1
  · rcases List.mem_append.mp hc with z | z
    · exact h.2 c (List.mem_append_left _ z)
    · rcases List.mem_cons.mp z with z | z
      · rw [z]; exact hb
      · exact h.2 c (List.mem_append_right _ z)
theorem qr_remove (h : qr N r (A ++ b :: B)) (hp : p.toInt = ((A.length : Nat) : Int)) : ∃ r', f_X3_remove N r p = some (iz ((b : Nat) : Int), r') ∧ qr N r' (A ++ B) := by
  obtain ⟨r', e, h1⟩ := rp_remove h.1 hp (v := iz ((b : Nat) : Int)) (by simp)
  refine ⟨r', e, ?_, fun c hc => ?_⟩
  · have e9 := era_app (A.map (fun b => iz ((b : Nat) : Int))) (B.map (fun b => iz ((b : Nat) : Int))) (iz ((b : Nat) : Int))
    rw [List.length_map] at e9
    rw [List.map_append, List.map_cons, e9] at h1
    rw [List.map_append]
    exact h1
  · rcases List.mem_append.mp hc with z | z
    · exact h.2 c (List.mem_append_left _ z)
    · exact h.2 c (List.mem_append_right _ (List.mem_cons_of_mem _ z))
theorem qr_add (h : qr N r A) (hl : A.length < N) (hv : v.toInt = b) (hb : b < 120) : ∃ r', f_X3_add N r v = some r' ∧ qr N r' (A ++ [b]) := by
  obtain ⟨r', e, h1⟩ := rp_add h.1 (by rw [List.length_map]; exact hl) v
  refine ⟨r', e, ?_, fun c hc => ?_⟩
  · rw [List.map_append]
    show rp N r' (_ ++ [iz ((b : Nat) : Int)])
    rw [← iz_of hv]
    exact h1
  · rcases List.mem_append.mp hc with z | z
    · exact h.2 c z
    · rw [List.mem_singleton.mp z]; exact hb
theorem qr_placeOf (h : qr N r Q) (v : Int32) : (∃ (A : List Nat) (b : Nat) (B : List Nat) (q : Int32), Q = A ++ b :: B ∧ v.toInt = b ∧ f_X3_placeOf N r v = some q ∧ q.toInt = ((A.length : Nat) : Int)) ∨ (f_X3_placeOf N r v = some (-1) ∧ ∀ b ∈ Q, v.toInt ≠ b) := by
  rcases rp_placeOf h.1 v with ⟨j, q, e1, e2, e3, -⟩ | ⟨e1, e2⟩
  · rw [List.getElem?_map] at e3
    cases hj : Q[j]? with
    | none => rw [hj] at e3; cases e3
    | some b =>
      rw [hj] at e3
      have e4 : iz ((b : Nat) : Int) = v := Option.some.inj e3
      obtain ⟨A, B, e5, e6⟩ := spl hj
      refine Or.inl ⟨A, b, B, q, e5, ?_, e1, by rw [e2, e6]⟩
      rw [← e4]
      exact qr_b h (by rw [e5]; simp)
  · refine Or.inr ⟨e1, fun b hb z => e2 ?_⟩
    rw [iz_of z]
    exact List.mem_map_of_mem hb
theorem qr_count (h : qr N r Q) (hv : v.toInt = b) : ∃ q, f_X3_count N r v = some q ∧ q.toInt = Q.count b := by
  obtain ⟨q, e1, e2⟩ := rp_count h.1 v
  refine ⟨q, e1, ?_⟩
  rw [e2]
  clear e1 e2 q
  have hQ : ∀ c ∈ Q, c < 120 := h.2
  clear h
  induction Q with
  | nil => rfl
  | cons c Q ih =>
    have ih := ih (fun d hd => hQ d (List.mem_cons_of_mem _ hd))
    have hc := hQ c List.mem_cons_self
    rw [List.map_cons, List.count_cons, List.count_cons]
    have e9 : (iz ((c : Nat) : Int) == v) = (c == b) := by
      by_cases z : c = b
      · subst z
        rw [← iz_of hv]
        simp
      · have z2 : iz ((c : Nat) : Int) ≠ v := fun w => z (by
          have h1 := izn (x := c) (by omega)
          rw [w] at h1
          omega)
        rw [beq_eq_false_iff_ne.mpr z2, beq_eq_false_iff_ne.mpr z]
    rw [e9]
    omega
theorem isAheadC {lt : RS} (h : lr n T lt) {p1 p2 : Int32} {a : Nat} (h1 : p1.toInt = a) (ha : a < n) (h2 : p2.toInt = b) (hb : b < n) : f_X2_isAhead lt p1 p2 = some (decide (ah T a b)) := by
  have ea := lr_t h ha
  have eb := lr_t h hb
  unfold f_X2_isAhead
  rw [lr_get h h1 ha]
  simp only [Option.bind_some]
  rw [lr_get h h2 hb]
  simp only [Option.bind_some]
  by_cases c1 : T a < T b
  · rw [if_pos (ltI ea eb (by omega))]
    congr 1
    exact (decide_eq_true (Or.inl c1)).symm
  · rw [if_neg (nltI ea eb (by omega))]
    by_cases c2 : T a = T b
    · rw [if_pos (eqI2 ea eb (by omega))]
      by_cases c3 : b ≤ a
      · rw [if_pos (leI h2 h1 (by omega))]
        congr 1
        exact (decide_eq_false (by unfold ah; omega)).symm
      · rw [if_neg (nleI h2 h1 (by omega))]
        congr 1
        exact (decide_eq_true (by unfold ah; omega)).symm
    · rw [if_neg (neI ea eb (by omega))]
      congr 1
      exact (decide_eq_false (by unfold ah; omega)).symm
end LR
section EN
variable {n k h : Nat} {T Hm X : Nat → Nat} {lt lh lx q : RS} {nu v2 : Int32} {Q : List Nat}
theorem pw_app {A B : List Nat} (h : (A ++ B).Pairwise (ah T)) : A.Pairwise (ah T) ∧ B.Pairwise (ah T) ∧ ∀ a ∈ A, ∀ b ∈ B, ah T a b := List.pairwise_append.mp h
theorem pw_ins {A B : List Nat} (h : (A ++ B).Pairwise (ah T)) (h1 : ∀ a ∈ A, ah T a k) (h2 : ∀ b ∈ B, ah T k b) : (A ++ k :: B).Pairwise (ah T) := by
  obtain ⟨p1, p2, p3⟩ := pw_app h
  refine List.pairwise_append.mpr ⟨p1, List.pairwise_cons.mpr ⟨h2, p2⟩, fun a ha b hb => ?_⟩
  rcases List.mem_cons.mp hb with z | z
  · rw [z]; exact h1 a ha
  · exact p3 a ha b z
theorem enqueue_39 {A B : List Nat} {v3 : Int32} (hh : lr n Hm lh) (hx : lr n X lx) (hq : qr 48 q (A ++ B)) (hn : nu.toInt = h) (hh4 : h < 4) (hl : (A ++ B).length < 48) (h2 : v2.toInt = k) (hk : k < n) (h3 : v3.toInt = ((A.length : Nat) : Int)) : ∃ lh' lx' q', b_X4_enqueue_39 lh lx nu q v2 v3 = some (lh', lx', q') ∧ lr n (fun b => if b = k then h else Hm b) lh' ∧ lr n (fun b => if b = k then 0 else X b) lx' ∧ qr 48 q' (A ++ k :: B) := by
  have h120 := lr_120 hh
  obtain ⟨q', e1, g1⟩ := qr_insert hq h3 hl h2 (by omega)
  obtain ⟨lh', e2, g2⟩ := lr_set (g := fun b => if b = k then h else Hm b) hh h2 hk hn (by omega) (fun c hc => rfl)
  obtain ⟨lx', e3, g3⟩ := lr_set (g := fun b => if b = k then 0 else X b) (v := 0) (x := 0) hx h2 hk t0 (by omega) (fun c hc => rfl)
  refine ⟨lh', lx', q', ?_, g2, g3, g1⟩
  unfold b_X4_enqueue_39
  rw [e1]
  simp only [Option.bind_some]
  rw [e2]
  simp only [Option.bind_some]
  rw [e3]
  rfl
theorem enqueue_l (ht : lr n T lt) (hh : lr n Hm lh) (hx : lr n X lx) (hq : qr 48 q Q) (hn : nu.toInt = h) (hh4 : h < 4) (hl : Q.length < 48) (h2 : v2.toInt = k) (hk : k < n) (hQ : ∀ b ∈ Q, b < n ∧ b ≠ k) (hs : Q.Pairwise (ah T)) : ∀ (F : Nat) (A B : List Nat) (v3 : Int32), Q = A ++ B → v3.toInt = ((A.length : Nat) : Int) → A.length < F → (∀ b ∈ B, ah T k b) → ∃ A' B' lh' lx' q', Q = A' ++ B' ∧ l_X4_enqueue_8 lt lh lx nu q v2 F v3 = some (lh', lx', q') ∧ lr n (fun b => if b = k then h else Hm b) lh' ∧ lr n (fun b => if b = k then 0 else X b) lx' ∧ qr 48 q' (A' ++ k :: B') ∧ (A' ++ k :: B').Pairwise (ah T) := by
  intro F
  induction F with
  | zero => intro A B v3 _ _ hF; omega
  | succ F ih =>
    intro A B v3 e h3 hF hB
    rw [l_X4_enqueue_8]
    rcases List.eq_nil_or_concat A with rfl | ⟨A9, a, rfl⟩
    · rw [if_pos (leI h3 t0 (by simp))]
      have hq' := hq
      have hl' := hl
      have hs' := hs
      rw [e] at hq' hl' hs'
      obtain ⟨lh', lx', q', e1, g1, g2, g3⟩ := enqueue_39 hh hx hq' hn hh4 hl' h2 hk h3
      exact ⟨[], B, lh', lx', q', e, e1, g1, g2, g3, pw_ins hs' (fun a ha => (nomatch ha)) hB⟩
    · rw [List.concat_eq_append] at *
      have hlen : ((A9 ++ [a]).length : Int) = A9.length + 1 := by simp
      have hlq := (qr_N hq).1
      have hL : A9.length < 48 := by
        rw [e] at hl
        simp at hl
        omega
      rw [if_neg (nleI h3 t0 (by omega))]
      have hd := dec_t (q := v3) (k := A9.length) (by rw [h3, hlen]; rfl) (by omega)
      have e2 : Q = A9 ++ a :: B := by rw [e]; simp
      have hqa := hq
      rw [e2] at hqa
      have haQ : a ∈ Q := by rw [e2]; simp
      have han := hQ a haQ
      rw [qr_get hqa hd.1]
      simp only [Option.bind_some]
      rw [isAheadC ht h2 hk (qr_b hq haQ) han.1]
      simp only [Option.bind_some]
      by_cases c : ah T k a
      · rw [decide_eq_true c, if_neg bIt0]
        refine ih A9 (a :: B) _ e2 hd.2 (by simp at hF; omega) (fun b hb => ?_)
        rcases List.mem_cons.mp hb with z | z
        · rw [z]; exact c
        · exact hB b z
      · rw [decide_eq_false c, if_pos bI_f]
        subst e
        obtain ⟨lh', lx', q', e1, g1, g2, g3⟩ := enqueue_39 hh hx hq hn hh4 hl h2 hk h3
        have hak : ah T a k := ah_tot (fun z => han.2 z.symm) c
        refine ⟨A9 ++ [a], B, lh', lx', q', rfl, e1, g1, g2, g3, pw_ins hs (fun b hb => ?_) hB⟩
        rcases List.mem_append.mp hb with z | z
        · exact ah_tr b a k ((pw_app (pw_app hs).1).2.2 b z a List.mem_cons_self) hak
        · rw [List.mem_singleton.mp z]; exact hak
/-- a booking is put where it stands -/
theorem enqueue_s (ht : lr n T lt) (hh : lr n Hm lh) (hx : lr n X lx) (hq : qr 48 q Q) (hn : nu.toInt = h) (hh4 : h < 4) (hl : Q.length < 48) (h2 : v2.toInt = k) (hk : k < n) (hQ : ∀ b ∈ Q, b < n ∧ b ≠ k) (hs : Q.Pairwise (ah T)) : ∃ A B lh' lx' q', Q = A ++ B ∧ f_X4_enqueue lt lh lx nu q v2 = some (lh', lx', q') ∧ lr n (fun b => if b = k then h else Hm b) lh' ∧ lr n (fun b => if b = k then 0 else X b) lx' ∧ qr 48 q' (A ++ k :: B) ∧ (A ++ k :: B).Pairwise (ah T) := by
  unfold f_X4_enqueue
  rw [sz_t]
  exact enqueue_l ht hh hx hq hn hh4 hl h2 hk hQ hs FU Q [] q.2 (List.append_nil _).symm (qr_len hq) (by show _ < 1000000; omega) (fun b hb => (nomatch hb))
theorem wait_l {x : Int} (ht : lr n T lt) (hq : qr 48 q Q) (hQ : ∀ b ∈ Q, b < n) (hs : Q.Pairwise (ah T)) (h2 : v2.toInt = x) : ∀ (B : List Nat) (F : Nat) (A : List Nat) (v3 : Int32), Q = A ++ B → v3.toInt = ((A.length : Nat) : Int) → B.length < F → (∀ b ∈ A, (T b : Int) < x) → ∃ A' B' r, Q = A' ++ B' ∧ l_X4_waitingAheadOf_2 lt q v2 F v3 = some r ∧ r.toInt = ((A'.length : Nat) : Int) ∧ (∀ b ∈ A', (T b : Int) < x) ∧ ∀ b ∈ B', x ≤ (T b : Int) := by
  intro B
  induction B with
  | nil =>
    intro F A v3 e h3 hF hA
    cases F with
    | zero => exact absurd hF (Nat.not_lt_zero _)
    | succ F =>
      rw [l_X4_waitingAheadOf_2, sz_t]
      simp only [Option.bind_some]
      rw [if_pos (leI (qr_len hq) h3 (by rw [e]; simp))]
      exact ⟨A, [], v3, e, rfl, h3, hA, fun b hb => (nomatch hb)⟩
  | cons b B ih =>
    intro F A v3 e h3 hF hA
    cases F with
    | zero => exact absurd hF (Nat.not_lt_zero _)
    | succ F =>
      rw [l_X4_waitingAheadOf_2, sz_t]
      simp only [Option.bind_some]
      have hl := (qr_N hq).1
      have hlen : Q.length = A.length + B.length + 1 := by rw [e]; simp; omega
      have hbQ : b ∈ Q := by rw [e]; simp
      have hqa := hq
      rw [e] at hqa
      rw [if_neg (nleI (qr_len hq) h3 (by omega)), qr_get hqa h3]
      simp only [Option.bind_some]
      rw [lr_get ht (qr_b hq hbQ) (hQ b hbQ)]
      simp only [Option.bind_some]
      have eT := lr_t ht (hQ b hbQ)
      by_cases c : x ≤ (T b : Int)
      · rw [if_pos (leI h2 eT c)]
        refine ⟨A, b :: B, v3, e, rfl, h3, hA, fun d hd => ?_⟩
        rcases List.mem_cons.mp hd with z | z
        · rw [z]; exact c
        · rw [e] at hs
          have := (List.pairwise_cons.mp (pw_app hs).2.1).1 d z
          unfold ah at this
          omega
      · rw [if_neg (nleI h2 eT (by omega))]
        refine ih F (A ++ [b]) _ (by rw [e]; simp) ?_ (by simp at hF; omega) (fun d hd => ?_)
        · rw [inc_t h3 (by omega)]; simp
        · rcases List.mem_append.mp hd with z | z
          · exact hA d z
          · rw [List.mem_singleton.mp z]; omega
/-- how many wait ahead of a time -/
theorem wait_s {x : Int} (ht : lr n T lt) (hq : qr 48 q Q) (hQ : ∀ b ∈ Q, b < n) (hs : Q.Pairwise (ah T)) (h2 : v2.toInt = x) : ∃ A B r, Q = A ++ B ∧ f_X4_waitingAheadOf lt q v2 = some r ∧ r.toInt = ((A.length : Nat) : Int) ∧ (∀ b ∈ A, (T b : Int) < x) ∧ ∀ b ∈ B, x ≤ (T b : Int) :=
  wait_l ht hq hQ hs h2 Q FU [] 0 rfl t0 (by have := (qr_N hq).1; show _ < 1000000; omega) (fun b hb => (nomatch hb))
theorem back_l {x : Int} {u : RS} {P : List Nat} (ht : lr n T lt) (hq : qr 120 u P) (hP : ∀ b ∈ P, b < n) (hs : P.Pairwise (fun a b => T a ≤ T b)) (h2 : v2.toInt = x) : ∀ (F : Nat) (A B : List Nat) (v3 : Int32), P = A ++ B → v3.toInt = ((A.length : Nat) : Int) → A.length < F → (∀ b ∈ B, x < (T b : Int)) → ∃ A' B' r, P = A' ++ B' ∧ l_X4_cameBehind_8 lt u v2 F v3 = some r ∧ r.toInt = ((B'.length : Nat) : Int) ∧ (∀ b ∈ A', (T b : Int) ≤ x) ∧ ∀ b ∈ B', x < (T b : Int) := by
  intro F
  induction F with
  | zero => intro A B v3 _ _ hF; omega
  | succ F ih =>
    intro A B v3 e h3 hF hB
    have hl := (qr_N hq).1
    have e7 : (u.2 - v3).toInt = ((B.length : Nat) : Int) := by
      have e8 := qr_len hq
      have e9 : P.length = A.length + B.length := by rw [e]; simp
      rw [tb (by omega) (by omega)]
      omega
    rw [l_X4_cameBehind_8]
    rcases List.eq_nil_or_concat A with rfl | ⟨A9, a, rfl⟩
    · rw [if_pos (leI h3 t0 (by simp)), sz_t]
      exact ⟨[], B, _, e, rfl, e7, fun b hb => (nomatch hb), hB⟩
    · rw [List.concat_eq_append] at *
      have hlen : ((A9 ++ [a]).length : Int) = A9.length + 1 := by simp
      have hL : A9.length < 120 := by
        rw [e] at hl
        simp at hl
        omega
      rw [if_neg (nleI h3 t0 (by omega))]
      have hd := dec_t (q := v3) (k := A9.length) (by rw [h3, hlen]; rfl) (by omega)
      have e2 : P = A9 ++ a :: B := by rw [e]; simp
      have hqa := hq
      rw [e2] at hqa
      have haP : a ∈ P := by rw [e2]; simp
      rw [qr_get hqa hd.1]
      simp only [Option.bind_some]
      rw [lr_get ht (qr_b hq haP) (hP a haP)]
      simp only [Option.bind_some]
      have eT := lr_t ht (hP a haP)
      by_cases c : (T a : Int) ≤ x
      · rw [if_pos (leI eT h2 c), sz_t]
        refine ⟨A9 ++ [a], B, _, e, rfl, e7, fun d hd9 => ?_, hB⟩
        rcases List.mem_append.mp hd9 with z | z
        · rw [e2] at hs
          have := (List.pairwise_append.mp hs).2.2 d z a List.mem_cons_self
          omega
        · rw [List.mem_singleton.mp z]; exact c
      · rw [if_neg (nleI eT h2 (by omega))]
        refine ih A9 (a :: B) _ e2 hd.2 (by simp at hF; omega) (fun d hd9 => ?_)
        rcases List.mem_cons.mp hd9 with z | z
        · rw [z]; omega
        · exact hB d z
/-- how many came with a time above one -/
theorem back_s {x : Int} {u : RS} {P : List Nat} (ht : lr n T lt) (hq : qr 120 u P) (hP : ∀ b ∈ P, b < n) (hs : P.Pairwise (fun a b => T a ≤ T b)) (h2 : v2.toInt = x) : ∃ A B r, P = A ++ B ∧ f_X4_cameBehind lt u v2 = some r ∧ r.toInt = ((B.length : Nat) : Int) ∧ (∀ b ∈ A, (T b : Int) ≤ x) ∧ ∀ b ∈ B, x < (T b : Int) := by
  unfold f_X4_cameBehind
  rw [sz_t]
  exact back_l ht hq hP hs h2 FU P [] u.2 (List.append_nil _).symm (qr_len hq) (by have := (qr_N hq).1; show _ < 1000000; omega) (fun b hb => (nomatch hb))
end EN
