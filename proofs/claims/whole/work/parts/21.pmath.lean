/-! sums over the bookings; change lists -/
def sm : Nat → (Nat → Int) → Int
  | 0, _ => 0
  | n + 1, f => sm n f + f n
theorem sm_congr {n : Nat} {f g : Nat → Int} (h : ∀ b, b < n → f b = g b) : sm n f = sm n g := by
  induction n with
  | zero => rfl
  | succ n ih => rw [sm, sm, ih (fun b hb => h b (by omega)), h n (by omega)]
theorem sm_add (n : Nat) (f g : Nat → Int) : sm n (fun b => f b + g b) = sm n f + sm n g := by
  induction n with
  | zero => rfl
  | succ n ih => simp only [sm]; rw [ih]; omega
theorem sm_sub (n : Nat) (f g : Nat → Int) : sm n (fun b => f b - g b) = sm n f - sm n g := by
  induction n with
  | zero => rfl
  | succ n ih => simp only [sm]; rw [ih]; omega
theorem sm_0 {n : Nat} {f : Nat → Int} (h : ∀ b, b < n → f b = 0) : sm n f = 0 := by
  induction n with
  | zero => rfl
  | succ n ih => rw [sm, ih (fun b hb => h b (by omega)), h n (by omega)]; rfl
theorem sm_le {n : Nat} {f g : Nat → Int} (h : ∀ b, b < n → f b ≤ g b) : sm n f ≤ sm n g := by
  induction n with
  | zero => exact Int.le_refl _
  | succ n ih =>
    have h1 := ih (fun b hb => h b (by omega))
    have h2 := h n (by omega)
    simp only [sm]; omega
theorem sm_nn {n : Nat} {f : Nat → Int} (h : ∀ b, b < n → 0 ≤ f b) : 0 ≤ sm n f := by
  have := sm_le (f := fun _ => 0) h
  rw [sm_0 (fun _ _ => rfl)] at this
  exact this
theorem sm_const (n : Nat) (c : Int) : sm n (fun _ => c) = n * c := by
  induction n with
  | zero => simp [sm]
  | succ n ih =>
    simp only [sm]; rw [ih]
    have : ((n + 1 : Nat) : Int) * c = n * c + c := by rw [Int.natCast_add, Int.add_mul]; simp
    omega
theorem sm_bd {n : Nat} {f : Nat → Int} {c : Int} (h : ∀ b, b < n → f b ≤ c) : sm n f ≤ n * c := by
  have := sm_le (g := fun _ => c) h
  rw [sm_const] at this
  exact this
theorem sm_ge1 {n k : Nat} {f : Nat → Int} (hk : k < n) (h : ∀ b, b < n → 0 ≤ f b) : f k ≤ sm n f := by
  induction n with
  | zero => omega
  | succ n ih =>
    simp only [sm]
    have h2 := h n (by omega)
    by_cases e : k = n
    · subst e
      have := sm_nn (n := k) (f := f) (fun b hb => h b (by omega))
      omega
    · have := ih (by omega) (fun b hb => h b (by omega))
      omega
theorem sm_upd {n k : Nat} {f g : Nat → Int} (hk : k < n) (h : ∀ b, b < n → b ≠ k → f b = g b) : sm n f = sm n g + (f k - g k) := by
  induction n with
  | zero => omega
  | succ n ih =>
    simp only [sm]
    by_cases e : k = n
    · subst e
      rw [sm_congr (f := f) (g := g) (fun b hb => h b (by omega) (by omega))]
      omega
    · rw [ih (by omega) (fun b hb hb2 => h b (by omega) hb2), h n (by omega) (by omega)]
      omega
theorem sm_ne {n : Nat} {f : Nat → Int} (h : sm n f ≠ 0) : ∃ b, b < n ∧ f b ≠ 0 := by
  induction n with
  | zero => exact absurd rfl h
  | succ n ih =>
    by_cases e : f n = 0
    · simp only [sm] at h
      rw [e] at h
      obtain ⟨b, hb, hf⟩ := ih (by omega)
      exact ⟨b, by omega, hf⟩
    · exact ⟨n, by omega, e⟩
abbrev CL : Type := List (Int × Int)
def pref : CL → Int → Int
  | [], _ => 0
  | p :: L, x => (if p.1 ≤ x then p.2 else 0) + pref L x
def srt : CL → Prop
  | [] => True
  | p :: L => (∀ q ∈ L, p.1 < q.1) ∧ srt L
def nz (L : CL) : Prop := ∀ p ∈ L, p.2 ≠ 0
def mom : CL → Int
  | [] => 0
  | p :: L => p.1 * p.2 + mom L
def alt : CL → Int → Int → CL
  | [], x, d => [(x, d)]
  | p :: L, x, d => if p.1 < x then p :: alt L x d else if p.1 = x then (if p.2 + d = 0 then L else (p.1, p.2 + d) :: L) else (x, d) :: p :: L
theorem pref_alt (L : CL) (x d y : Int) : pref (alt L x d) y = pref L y + if x ≤ y then d else 0 := by
  induction L with
  | nil => simp [alt, pref]
  | cons p L ih =>
    rw [alt]
    by_cases c1 : p.1 < x
    · rw [if_pos c1, pref, ih, pref]; omega
    · rw [if_neg c1]
      by_cases c2 : p.1 = x
      · rw [if_pos c2]
        by_cases c3 : p.2 + d = 0
        · rw [if_pos c3, pref, c2]
          by_cases c4 : x ≤ y
          · rw [if_pos c4, if_pos c4]; omega
          · rw [if_neg c4, if_neg c4]; omega
        · rw [if_neg c3, pref, pref]
          simp only
          rw [c2]
          by_cases c4 : x ≤ y
          · rw [if_pos c4, if_pos c4, if_pos c4]; omega
          · rw [if_neg c4, if_neg c4, if_neg c4]; omega
      · rw [if_neg c2, pref]; simp only; omega
theorem mom_alt (L : CL) (x d : Int) : mom (alt L x d) = mom L + x * d := by
  induction L with
  | nil => simp [alt, mom]
  | cons p L ih =>
    rw [alt]
    by_cases c1 : p.1 < x
    · rw [if_pos c1, mom, ih, mom]; omega
    · rw [if_neg c1]
      by_cases c2 : p.1 = x
      · rw [if_pos c2]
        have e : x * p.2 + x * d = x * (p.2 + d) := (Int.mul_add x p.2 d).symm
        by_cases c3 : p.2 + d = 0
        · rw [if_pos c3, mom, c2]
          rw [c3, Int.mul_zero] at e
          omega
        · rw [if_neg c3, mom, mom]
          simp only
          rw [c2]
          omega
      · rw [if_neg c2, mom]; simp only; omega
theorem alt_mem {L : CL} {x d : Int} {q : Int × Int} (h : q ∈ alt L x d) : q.1 = x ∨ ∃ p ∈ L, p.1 = q.1 := by
  induction L with
  | nil => simp only [alt, List.mem_singleton] at h; exact Or.inl (by rw [h])
  | cons p L ih =>
    rw [alt] at h
    by_cases c1 : p.1 < x
    · rw [if_pos c1] at h
      rcases List.mem_cons.mp h with e | h
      · exact Or.inr ⟨p, List.mem_cons_self, by rw [e]⟩
      · rcases ih h with e | ⟨p', h1, h2⟩
        · exact Or.inl e
        · exact Or.inr ⟨p', List.mem_cons_of_mem _ h1, h2⟩
    · rw [if_neg c1] at h
      by_cases c2 : p.1 = x
      · rw [if_pos c2] at h
        by_cases c3 : p.2 + d = 0
        · rw [if_pos c3] at h
          exact Or.inr ⟨q, List.mem_cons_of_mem _ h, rfl⟩
        · rw [if_neg c3] at h
          rcases List.mem_cons.mp h with e | h
          · exact Or.inl (by rw [e]; exact c2)
          · exact Or.inr ⟨q, List.mem_cons_of_mem _ h, rfl⟩
      · rw [if_neg c2] at h
        rcases List.mem_cons.mp h with e | h
        · exact Or.inl (by rw [e])
        · exact Or.inr ⟨q, h, rfl⟩
theorem srt_alt {L : CL} (x d : Int) (h : srt L) : srt (alt L x d) := by
  induction L with
  | nil => exact ⟨fun q hq => (by cases hq), trivial⟩
  | cons p L ih =>
    rw [alt]
    by_cases c1 : p.1 < x
    · rw [if_pos c1]
      refine ⟨fun q hq => ?_, ih h.2⟩
      rcases alt_mem hq with e | ⟨p', h1, h2⟩
      · rw [e]; exact c1
      · rw [← h2]; exact h.1 p' h1
    · rw [if_neg c1]
      by_cases c2 : p.1 = x
      · rw [if_pos c2]
        by_cases c3 : p.2 + d = 0
        · rw [if_pos c3]; exact h.2
        · rw [if_neg c3]; exact ⟨h.1, h.2⟩
      · rw [if_neg c2]
        refine ⟨fun q hq => ?_, h⟩
        rcases List.mem_cons.mp hq with e | hq
        · rw [e]; show x < p.1; omega
        · have := h.1 q hq
          show x < q.1; omega
theorem nz_alt {L : CL} (x : Int) {d : Int} (hd : d ≠ 0) (h : nz L) : nz (alt L x d) := by
  induction L with
  | nil => intro q hq; simp only [alt, List.mem_singleton] at hq; rw [hq]; exact hd
  | cons p L ih =>
    have h1 : nz L := fun q hq => h q (List.mem_cons_of_mem _ hq)
    rw [alt]
    by_cases c1 : p.1 < x
    · rw [if_pos c1]
      intro q hq
      rcases List.mem_cons.mp hq with e | hq
      · rw [e]; exact h p List.mem_cons_self
      · exact ih h1 q hq
    · rw [if_neg c1]
      by_cases c2 : p.1 = x
      · rw [if_pos c2]
        by_cases c3 : p.2 + d = 0
        · rw [if_pos c3]; exact h1
        · rw [if_neg c3]
          intro q hq
          rcases List.mem_cons.mp hq with e | hq
          · rw [e]; exact c3
          · exact h1 q hq
      · rw [if_neg c2]
        intro q hq
        rcases List.mem_cons.mp hq with e | hq
        · rw [e]; exact hd
        · exact h q hq
theorem alt_len {L : CL} {x d : Int} (hs : srt L) (h : ∀ p ∈ L, p.1 ≠ x) : (alt L x d).length = L.length + 1 := by
  induction L with
  | nil => rfl
  | cons p L ih =>
    rw [alt]
    by_cases c1 : p.1 < x
    · rw [if_pos c1, List.length_cons, List.length_cons, ih hs.2 (fun q hq => h q (List.mem_cons_of_mem _ hq))]
    · rw [if_neg c1, if_neg (h p List.mem_cons_self)]; rfl
/-- what is changed is bounded -/
theorem alt_bd {L : CL} {x d B : Int} (hB : ∀ p ∈ L, -B ≤ p.2 ∧ p.2 ≤ B) (hB0 : 0 ≤ B) {D : Int} (hd : -D ≤ d ∧ d ≤ D) : ∀ p ∈ alt L x d, -(B + D) ≤ p.2 ∧ p.2 ≤ B + D := by
  induction L with
  | nil => intro q hq; simp only [alt, List.mem_singleton] at hq; rw [hq]; simp only; omega
  | cons p L ih =>
    have hL : ∀ p ∈ L, -B ≤ p.2 ∧ p.2 ≤ B := fun q hq => hB q (List.mem_cons_of_mem _ hq)
    have hp := hB p List.mem_cons_self
    rw [alt]
    intro q hq
    by_cases c1 : p.1 < x
    · rw [if_pos c1] at hq
      rcases List.mem_cons.mp hq with e | hq
      · rw [e]; omega
      · exact ih hL q hq
    · rw [if_neg c1] at hq
      by_cases c2 : p.1 = x
      · rw [if_pos c2] at hq
        by_cases c3 : p.2 + d = 0
        · rw [if_pos c3] at hq; have := hL q hq; omega
        · rw [if_neg c3] at hq
          rcases List.mem_cons.mp hq with e | hq
          · rw [e]; simp only; omega
          · have := hL q hq; omega
      · rw [if_neg c2] at hq
        rcases List.mem_cons.mp hq with e | hq
        · rw [e]; simp only; omega
        · have := hB q hq; omega
theorem pref_pre {L : CL} {y : Int} (h : ∀ p ∈ L, y < p.1) : pref L y = 0 := by
  induction L with
  | nil => rfl
  | cons p L ih =>
    have := h p List.mem_cons_self
    rw [pref, ih (fun q hq => h q (List.mem_cons_of_mem _ hq)), if_neg (by omega)]; rfl
theorem pref_at {L : CL} (hs : srt L) {p : Int × Int} (hp : p ∈ L) : pref L p.1 = pref L (p.1 - 1) + p.2 := by
  induction L with
  | nil => cases hp
  | cons q L ih =>
    rw [pref, pref]
    rcases List.mem_cons.mp hp with e | hp
    · subst e
      rw [if_pos (by omega), if_neg (by omega), pref_pre hs.1, pref_pre (fun z hz => by have := hs.1 z hz; omega)]
      omega
    · have h1 := hs.1 p hp
      rw [ih hs.2 hp, if_pos (by omega), if_pos (by omega)]
      omega
theorem pref_no {L : CL} {y : Int} (h : ∀ p ∈ L, p.1 ≠ y) : pref L y = pref L (y - 1) := by
  induction L with
  | nil => rfl
  | cons q L ih =>
    rw [pref, pref, ih (fun z hz => h z (List.mem_cons_of_mem _ hz))]
    have := h q List.mem_cons_self
    by_cases c : q.1 ≤ y
    · rw [if_pos c, if_pos (by omega)]
    · rw [if_neg c, if_neg (by omega)]
/-- one function, one list -/
theorem cl_one : ∀ {L L' : CL}, srt L → nz L → srt L' → nz L' → (∀ y, pref L y = pref L' y) → L = L' := by
  intro L
  induction L with
  | nil =>
    intro L' _ _ hs' hn' h
    cases L' with
    | nil => rfl
    | cons q L' =>
      have h1 := h q.1
      rw [pref, pref, if_pos (by omega), pref_pre hs'.1] at h1
      have := hn' q List.mem_cons_self
      omega
  | cons p L ih =>
    intro L' hs hn hs' hn' h
    cases L' with
    | nil =>
      have h1 := h p.1
      rw [pref, pref, if_pos (by omega), pref_pre hs.1] at h1
      have := hn p List.mem_cons_self
      omega
    | cons q L' =>
      have np := hn p List.mem_cons_self
      have nq := hn' q List.mem_cons_self
      have e1 : p.1 = q.1 := by
        have h1 := h p.1
        have h2 := h q.1
        simp only [pref] at h1 h2
        by_cases c : p.1 < q.1
        · rw [if_pos (by omega), if_neg (by omega), pref_pre hs.1, pref_pre (fun z hz => by have := hs'.1 z hz; omega)] at h1
          omega
        · by_cases c2 : q.1 < p.1
          · rw [if_neg (by omega), if_pos (by omega), pref_pre hs'.1, pref_pre (fun z hz => by have := hs.1 z hz; omega)] at h2
            omega
          · omega
      have e2 : p.2 = q.2 := by
        have h1 := h p.1
        simp only [pref] at h1
        rw [if_pos (by omega), if_pos (by omega), pref_pre hs.1, pref_pre (fun z hz => by have := hs'.1 z hz; omega)] at h1
        omega
      have e3 : p = q := Prod.ext e1 e2
      subst e3
      rw [ih hs.2 (fun z hz => hn z (List.mem_cons_of_mem _ hz)) hs'.2 (fun z hz => hn' z (List.mem_cons_of_mem _ hz)) (fun y => ?_)]
      have h1 := h y
      simp only [pref] at h1
      omega
theorem srt_len : ∀ {L : CL} {S : List Int}, srt L → (∀ p ∈ L, p.1 ∈ S) → L.length ≤ S.length := by
  intro L
  induction L with
  | nil => intro S _ _; exact Nat.zero_le _
  | cons p L ih =>
    intro S hs h
    have hp := h p List.mem_cons_self
    have h1 := ih (S := S.erase p.1) hs.2 (fun q hq => (List.mem_erase_of_ne (by have := hs.1 q hq; omega)).mpr (h q (List.mem_cons_of_mem _ hq)))
    rw [List.length_erase_of_mem hp] at h1
    have h2 : 0 < S.length := List.length_pos_of_mem hp
    rw [List.length_cons]; omega
/-- a booking's weight at a time -/
def gb (T S W : Nat → Nat) (b : Nat) (y : Int) : Int := if (T b : Int) ≤ y ∧ y < T b + S b then W b else 0
/-- the crowd of the bookings that C tells -/
def FF (n : Nat) (T S W : Nat → Nat) (C : Nat → Bool) (y : Int) : Int := sm n (fun b => if C b = true then gb T S W b y else 0)
def canon (n : Nat) (T S W : Nat → Nat) (C : Nat → Bool) (L : CL) : Prop := srt L ∧ nz L ∧ ∀ y, pref L y = FF n T S W C y
/-- the events -/
def evs (T S : Nat → Nat) : Nat → List Int
  | 0 => []
  | n + 1 => (T n : Int) :: ((T n : Int) + S n) :: evs T S n
theorem evs_len (T S : Nat → Nat) (n : Nat) : (evs T S n).length = 2 * n := by
  induction n with
  | zero => rfl
  | succ n ih => rw [evs, List.length_cons, List.length_cons, ih]; omega
theorem evs_mem {T S : Nat → Nat} {n b : Nat} (h : b < n) : (T b : Int) ∈ evs T S n ∧ (T b : Int) + S b ∈ evs T S n := by
  induction n with
  | zero => omega
  | succ n ih =>
    rw [evs]
    by_cases e : b = n
    · subst e; exact ⟨List.mem_cons_self, List.mem_cons_of_mem _ List.mem_cons_self⟩
    · obtain ⟨h1, h2⟩ := ih (by omega)
      exact ⟨List.mem_cons_of_mem _ (List.mem_cons_of_mem _ h1), List.mem_cons_of_mem _ (List.mem_cons_of_mem _ h2)⟩
section FFs
variable {n : Nat} {T S W : Nat → Nat} {C : Nat → Bool} {L : CL}
theorem FF_step (y : Int) : FF n T S W C y - FF n T S W C (y - 1) = sm n (fun b => if C b = true then gb T S W b y - gb T S W b (y - 1) else 0) := by
  unfold FF
  rw [← sm_sub]
  refine sm_congr (fun b _ => ?_)
  by_cases c : C b = true
  · rw [if_pos c, if_pos c, if_pos c]
  · rw [if_neg c, if_neg c, if_neg c]; rfl
theorem gb_step {b : Nat} {y : Int} (hW : 0 < W b) : gb T S W b y - gb T S W b (y - 1) ≠ 0 → 0 < S b ∧ (y = T b ∨ y = T b + S b) := by
  unfold gb
  intro h
  by_cases c1 : (T b : Int) ≤ y ∧ y < T b + S b
  · rw [if_pos c1] at h
    by_cases c2 : (T b : Int) ≤ y - 1 ∧ y - 1 < T b + S b
    · rw [if_pos c2] at h; omega
    · rw [if_neg c2] at h; omega
  · rw [if_neg c1] at h
    by_cases c2 : (T b : Int) ≤ y - 1 ∧ y - 1 < T b + S b
    · omega
    · rw [if_neg c2] at h; omega
theorem canon_ev (hW : ∀ b, b < n → 0 < W b) (h : canon n T S W C L) {p : Int × Int} (hp : p ∈ L) : ∃ b, b < n ∧ C b = true ∧ 0 < S b ∧ (p.1 = T b ∨ p.1 = T b + S b) := by
  obtain ⟨hs, hn, hf⟩ := h
  have h1 := pref_at hs hp
  rw [hf, hf] at h1
  have h2 := FF_step (n := n) (T := T) (S := S) (W := W) (C := C) p.1
  have h3 := hn p hp
  obtain ⟨b, hb, hg⟩ := sm_ne (n := n) (f := fun b => if C b = true then gb T S W b p.1 - gb T S W b (p.1 - 1) else 0) (by omega)
  by_cases c : C b = true
  · simp only [c, if_true] at hg
    obtain ⟨h4, h5⟩ := gb_step (hW b hb) hg
    exact ⟨b, hb, c, h4, h5⟩
  · simp [c] at hg
theorem canon_len (hW : ∀ b, b < n → 0 < W b) (h : canon n T S W C L) : L.length ≤ 2 * n := by
  rw [← evs_len T S n]
  refine srt_len h.1 (fun p hp => ?_)
  obtain ⟨b, hb, -, -, e⟩ := canon_ev hW h hp
  obtain ⟨h1, h2⟩ := evs_mem (T := T) (S := S) hb
  rcases e with e | e
  · rw [e]; exact h1
  · rw [e]; exact h2
theorem gb_nn (b : Nat) (y : Int) : 0 ≤ gb T S W b y := by
  unfold gb; split <;> omega
theorem FF_nn (y : Int) : 0 ≤ FF n T S W C y := sm_nn (fun b _ => by
  by_cases c : C b = true
  · rw [if_pos c]; exact gb_nn b y
  · rw [if_neg c]; exact Int.le_refl _)
theorem FF_le (hW : ∀ b, b < n → W b ≤ 9) (y : Int) : FF n T S W C y ≤ n * 9 := sm_bd (fun b hb => by
  have := hW b hb
  by_cases c : C b = true
  · rw [if_pos c]; unfold gb; split <;> omega
  · rw [if_neg c]; omega)
theorem FF_out (hT : ∀ b, b < n → T b ≤ 9999) (hS : ∀ b, b < n → S b ≤ 500) {y : Int} (hy : y < 0 ∨ 10499 ≤ y) : FF n T S W C y = 0 := sm_0 (fun b hb => by
  have h1 := hT b hb
  have h2 := hS b hb
  by_cases c : C b = true
  · rw [if_pos c]; unfold gb; rw [if_neg (by omega)]
  · rw [if_neg c])
/-- somebody is on where the crowd isn't 0 -/
theorem FF_pos {y : Int} (h : FF n T S W C y ≠ 0) : ∃ b, b < n ∧ C b = true ∧ (T b : Int) ≤ y ∧ y < T b + S b := by
  obtain ⟨b, hb, hg⟩ := sm_ne h
  by_cases c : C b = true
  · simp only [c, if_true] at hg
    refine ⟨b, hb, c, ?_⟩
    unfold gb at hg
    split at hg
    · assumption
    · exact absurd rfl hg
  · simp [c] at hg
theorem FF_on (hW : ∀ b, b < n → 0 < W b) {y : Int} {b : Nat} (hb : b < n) (c : C b = true) (h1 : (T b : Int) ≤ y) (h2 : y < T b + S b) : 0 < FF n T S W C y := by
  have h3 := sm_ge1 (n := n) (k := b) (f := fun b => if C b = true then gb T S W b y else 0) hb (fun b _ => by
    by_cases c : C b = true
    · rw [if_pos c]; exact gb_nn b y
    · rw [if_neg c]; exact Int.le_refl _)
  simp only [c, if_true] at h3
  have h4 := hW b hb
  have hg : gb T S W b y = W b := by unfold gb; rw [if_pos ⟨h1, h2⟩]
  rw [hg] at h3
  unfold FF
  omega
/-- one more that is on, one less -/
theorem FF_set {C' : Nat → Bool} {k : Nat} (hk : k < n) (h : ∀ b, b < n → b ≠ k → C' b = C b) (hc : C k = false) (hc' : C' k = true) (y : Int) : FF n T S W C' y = FF n T S W C y + gb T S W k y := by
  unfold FF
  rw [sm_upd (f := fun b => if C' b = true then gb T S W b y else 0) (g := fun b => if C b = true then gb T S W b y else 0) hk (fun b hb hne => by simp only [h b hb hne])]
  simp [hc, hc']
end FFs
