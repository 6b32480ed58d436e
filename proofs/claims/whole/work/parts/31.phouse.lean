/-! a house, said of lists -/
def HB (n : Nat) (T S W Hm X K : Nat → Nat) (h : Nat) (Q P : List Nat) (L : CL) : Prop := qOf n T Hm X h Q ∧ Q.length ≤ 48 ∧ pOf n K Hm X h P ∧ P.Pairwise (fun a b => T a ≤ T b) ∧ crw n T S W (cm Hm X h) L
def CK (T : Nat → Nat) (ck : Nat) (Q P : List Nat) : Prop := ck ≤ 9999 ∧ (∀ b ∈ Q, ck ≤ T b) ∧ ∀ b ∈ P, T b ≤ ck
def hc (q u t c : RS) (Q P : List Nat) (L : CL) : Prop := qr 48 q Q ∧ qr 120 u P ∧ rpC t c L
section HH
variable {n n' k h kst : Nat} {T S W Hm X K T' S' W' Hm' X' K' : Nat → Nat} {A B Q P : List Nat} {L L' : CL} {C C' : Nat → Bool}
theorem FF_frame (hn : n ≤ n') (e : ∀ b, b < n' → (C' b = true ↔ b < n ∧ C b = true)) (e2 : ∀ b, b < n → C b = true → T' b = T b ∧ S' b = S b ∧ W' b = W b) (y : Int) : FF n' T' S' W' C' y = FF n T S W C y := by
  have e1 : FF n' T' S' W' C' y = FF n T' S' W' C' y := sm_seg0 hn (fun j h1 h2 => if_neg (fun z => by have := ((e j h2).mp z).1; omega))
  rw [e1]
  refine sm_congr (fun b hb => ?_)
  by_cases c : C b = true
  · rw [if_pos c, if_pos ((e b (by omega)).mpr ⟨hb, c⟩)]
    obtain ⟨h1, h2, h3⟩ := e2 b hb c
    unfold gb
    rw [h1, h2, h3]
  · rw [if_neg c, if_neg (fun z => c ((e b (by omega)).mp z).2)]
theorem LD_frame (hn : n ≤ n') (e : ∀ b, b < n' → (C' b = true ↔ b < n ∧ C b = true)) (e2 : ∀ b, b < n → C b = true → T' b = T b ∧ S' b = S b ∧ W' b = W b) : LD n' S' W' C' = LD n S W C := by
  have e1 : LD n' S' W' C' = LD n S' W' C' := sm_seg0 hn (fun j h1 h2 => if_neg (fun z => by have := ((e j h2).mp z).1; omega))
  rw [e1]
  refine sm_congr (fun b hb => ?_)
  by_cases c : C b = true
  · rw [if_pos c, if_pos ((e b (by omega)).mpr ⟨hb, c⟩)]
    obtain ⟨h1, h2, h3⟩ := e2 b hb c
    rw [h2, h3]
  · rw [if_neg c, if_neg (fun z => c ((e b (by omega)).mp z).2)]
theorem crw_frame (H : crw n T S W C L) (hn : n ≤ n') (e : ∀ b, b < n' → (C' b = true ↔ b < n ∧ C b = true)) (e2 : ∀ b, b < n → C b = true → T' b = T b ∧ S' b = S b ∧ W' b = W b) : crw n' T' S' W' C' L :=
  ⟨⟨H.1.1, H.1.2.1, fun y => (H.1.2.2 y).trans (FF_frame hn e e2 y).symm⟩, H.2.trans (congrArg (fun v => -v) (LD_frame hn e e2).symm)⟩
theorem cm_t {b : Nat} : cm Hm X h b = true ↔ Hm b = h ∧ X b = 1 := decide_eq_true_iff
theorem cmX_eq {b : Nat} (e : X' b = X b) : cm Hm X' h b = cm Hm X h b := by
  unfold cm
  rw [e]
theorem cmX_yes {b : Nat} (e1 : Hm b = h) (e2 : X' b = 1) : cm Hm X' h b = true := decide_eq_true ⟨e1, e2⟩
theorem cmX_no {b : Nat} (e2 : X' b ≠ 1) : cm Hm X' h b = false := decide_eq_false (fun z => e2 z.2)
theorem HB_frame (H : HB n T S W Hm X K h Q P L) (hn : n ≤ n') (e : ∀ b, b < n' → (Hm' b = h ↔ b < n ∧ Hm b = h)) (e2 : ∀ b, b < n → Hm b = h → T' b = T b ∧ S' b = S b ∧ W' b = W b ∧ X' b = X b ∧ K' b = K b) : HB n' T' S' W' Hm' X' K' h Q P L := by
  obtain ⟨⟨q1, q2⟩, q3, ⟨p1, p2⟩, p3, cr⟩ := H
  have f : ∀ b x, b < n' ∧ Hm' b = h ∧ X' b = x ↔ b < n ∧ Hm b = h ∧ X b = x := by
    intro b x
    constructor
    · intro ⟨a1, a2, a3⟩
      obtain ⟨z1, z2⟩ := (e b a1).mp a2
      exact ⟨z1, z2, by rw [← (e2 b z1 z2).2.2.2.1]; exact a3⟩
    · intro ⟨a1, a2, a3⟩
      exact ⟨by omega, (e b (by omega)).mpr ⟨a1, a2⟩, by rw [(e2 b a1 a2).2.2.2.1]; exact a3⟩
  refine ⟨⟨fun b => (q1 b).trans (f b 0).symm, q2.imp_of_mem (fun {a b} ha hb r => ?_)⟩, q3, ⟨fun b => (p1 b).trans (f b 1).symm, p2.imp_of_mem (fun {a b} ha hb r => ?_)⟩, p3.imp_of_mem (fun {a b} ha hb r => ?_), crw_frame cr hn (fun b hb => ?_) (fun b hb c => ?_)⟩
  · obtain ⟨a1, a2, -⟩ := (q1 a).mp ha
    obtain ⟨b1, b2, -⟩ := (q1 b).mp hb
    have ea := (e2 a a1 a2).1
    have eb := (e2 b b1 b2).1
    unfold ah at r ⊢
    omega
  · obtain ⟨a1, a2, -⟩ := (p1 a).mp ha
    obtain ⟨b1, b2, -⟩ := (p1 b).mp hb
    have ea := (e2 a a1 a2).2.2.2.2
    have eb := (e2 b b1 b2).2.2.2.2
    omega
  · obtain ⟨a1, a2, -⟩ := (p1 a).mp ha
    obtain ⟨b1, b2, -⟩ := (p1 b).mp hb
    have ea := (e2 a a1 a2).1
    have eb := (e2 b b1 b2).1
    omega
  · rw [cm_t, cm_t]
    have := f b 1
    constructor
    · intro z; exact this.mp ⟨hb, z.1, z.2⟩
    · intro z; exact (this.mpr z).2
  · have := cm_t.mp c
    obtain ⟨h1, h2, h3, -, -⟩ := e2 b hb this.1
    exact ⟨h1, h2, h3⟩
theorem CK_frame {ck : Nat} (H : HB n T S W Hm X K h Q P L) (hC : CK T ck Q P) (e2 : ∀ b, b < n → Hm b = h → T' b = T b) : CK T' ck Q P := by
  refine ⟨hC.1, fun b hb => ?_, fun b hb => ?_⟩
  · have := (H.1.1 b).mp hb
    rw [e2 b this.1 this.2.1]; exact hC.2.1 b hb
  · have := (H.2.2.1.1 b).mp hb
    rw [e2 b this.1 this.2.1]; exact hC.2.2 b hb
theorem mem_out (hs : (A ++ k :: B).Pairwise (ah T)) (b : Nat) : b ∈ A ++ B ↔ b ∈ A ++ k :: B ∧ b ≠ k := by
  obtain ⟨p1, p2, p3⟩ := pw_app hs
  constructor
  · intro hb
    rcases List.mem_append.mp hb with z | z
    · refine ⟨List.mem_append_left _ z, fun w => ?_⟩
      have := p3 b z k List.mem_cons_self
      rw [w] at this
      exact ah_irr this
    · refine ⟨List.mem_append_right _ (List.mem_cons_of_mem _ z), fun w => ?_⟩
      have := (List.pairwise_cons.mp p2).1 b z
      rw [w] at this
      exact ah_irr this
  · intro ⟨hb, hn⟩
    rcases List.mem_append.mp hb with z | z
    · exact List.mem_append_left _ z
    · rcases List.mem_cons.mp z with w | w
      · exact absurd w hn
      · exact List.mem_append_right _ w
theorem pw_out (hs : (A ++ k :: B).Pairwise (ah T)) : (A ++ B).Pairwise (ah T) := by
  obtain ⟨p1, p2, p3⟩ := pw_app hs
  exact List.pairwise_append.mpr ⟨p1, (List.pairwise_cons.mp p2).2, fun a ha b hb => p3 a ha b (List.mem_cons_of_mem _ hb)⟩
theorem crw_same (cr : crw n T S W (cm Hm X h) L) (e1 : ∀ b, b < n → (Hm' b = h ∧ X' b = 1 ↔ Hm b = h ∧ X b = 1)) : crw n T S W (cm Hm' X' h) L :=
  crw_frame cr (Nat.le_refl _) (fun b hb => by rw [cm_t, cm_t]; exact ⟨fun z => ⟨hb, (e1 b hb).mp z⟩, fun z => (e1 b hb).mpr z.2⟩) (fun b _ _ => ⟨rfl, rfl, rfl⟩)
/-- one doesn't wait here any more -/
theorem HB_out (H : HB n T S W Hm X K h (A ++ k :: B) P L) (e0 : ∀ b, b < n → (Hm' b = h ∧ X' b = 0 ↔ (Hm b = h ∧ X b = 0) ∧ b ≠ k)) (e1 : ∀ b, b < n → (Hm' b = h ∧ X' b = 1 ↔ Hm b = h ∧ X b = 1)) : HB n T S W Hm' X' K h (A ++ B) P L := by
  obtain ⟨⟨q1, q2⟩, q3, ⟨p1, p2⟩, p3, cr⟩ := H
  refine ⟨⟨fun b => ?_, pw_out q2⟩, by simp at q3 ⊢; omega, ⟨fun b => ?_, p2⟩, p3, crw_same cr e1⟩
  · rw [mem_out q2, q1 b]
    constructor
    · intro ⟨⟨z1, z2⟩, z3⟩; exact ⟨z1, (e0 b z1).mpr ⟨z2, z3⟩⟩
    · intro ⟨z1, z2⟩; exact ⟨⟨z1, ((e0 b z1).mp z2).1⟩, ((e0 b z1).mp z2).2⟩
  · rw [p1 b]
    constructor
    · intro ⟨z1, z2⟩; exact ⟨z1, (e1 b z1).mpr z2⟩
    · intro ⟨z1, z2⟩; exact ⟨z1, (e1 b z1).mp z2⟩
theorem mem_in (b : Nat) : b ∈ A ++ k :: B ↔ b ∈ A ++ B ∨ b = k := by
  rw [List.mem_append, List.mem_append, List.mem_cons]
  constructor
  · rintro (z | z | z)
    · exact Or.inl (Or.inl z)
    · exact Or.inr z
    · exact Or.inl (Or.inr z)
  · rintro ((z | z) | z)
    · exact Or.inl z
    · exact Or.inr (Or.inr z)
    · exact Or.inr (Or.inl z)
/-- one waits here from now on -/
theorem HB_in (H : HB n T S W Hm X K h (A ++ B) P L) (hl : (A ++ B).length < 48) (hs : (A ++ k :: B).Pairwise (ah T)) (hk : k < n) (e0 : ∀ b, b < n → (Hm' b = h ∧ X' b = 0 ↔ (Hm b = h ∧ X b = 0) ∨ b = k)) (e1 : ∀ b, b < n → (Hm' b = h ∧ X' b = 1 ↔ Hm b = h ∧ X b = 1)) : HB n T S W Hm' X' K h (A ++ k :: B) P L := by
  obtain ⟨⟨q1, q2⟩, q3, ⟨p1, p2⟩, p3, cr⟩ := H
  refine ⟨⟨fun b => ?_, hs⟩, by simp at hl ⊢; omega, ⟨fun b => ?_, p2⟩, p3, crw_same cr e1⟩
  · rw [mem_in, q1 b]
    constructor
    · rintro (⟨z1, z2⟩ | z)
      · exact ⟨z1, (e0 b z1).mpr (Or.inl z2)⟩
      · exact ⟨by omega, (e0 b (by omega)).mpr (Or.inr z)⟩
    · intro ⟨z1, z2⟩
      rcases (e0 b z1).mp z2 with z | z
      · exact Or.inl ⟨z1, z⟩
      · exact Or.inr z
  · rw [p1 b]
    constructor
    · intro ⟨z1, z2⟩; exact ⟨z1, (e1 b z1).mpr z2⟩
    · intro ⟨z1, z2⟩; exact ⟨z1, (e1 b z1).mp z2⟩
/-- the first that waits comes -/
theorem HB_come (H : HB n T S W Hm X K h (k :: B) P L) (hK : ∀ b, b < n → X b = 1 → K b < kst) (ho : ∀ b ∈ P, T b ≤ T k) (eX : ∀ b, b < n → X' b = if b = k then 1 else X b) (eK : ∀ b, b < n → K' b = if b = k then kst else K b) (hC : crw n T S W (cm Hm X' h) L') : HB n T S W Hm X' K' h B (P ++ [k]) L' := by
  obtain ⟨⟨q1, q2⟩, q3, ⟨p1, p2⟩, p3, cr⟩ := H
  obtain ⟨k1, k2, k3⟩ := (q1 k).mp List.mem_cons_self
  obtain ⟨o1, o2⟩ := List.pairwise_cons.mp q2
  have hkP : ∀ b ∈ P, b ≠ k := fun b hb z => by
    have := (p1 b).mp hb
    rw [z] at this
    omega
  have kk : ∀ b ∈ P, K' b = K b := fun b hb => by rw [eK b ((p1 b).mp hb).1, if_neg (hkP b hb)]
  refine ⟨⟨fun b => ?_, o2⟩, by simp at q3 ⊢; omega, ⟨fun b => ?_, ?_⟩, ?_, hC⟩
  · have := q1 b
    rw [List.mem_cons] at this
    constructor
    · intro z
      obtain ⟨z1, z2, z3⟩ := this.mp (Or.inr z)
      have hbk : b ≠ k := fun w => by
        have := o1 b z
        rw [w] at this
        exact ah_irr this
      exact ⟨z1, z2, by rw [eX b z1, if_neg hbk]; exact z3⟩
    · intro ⟨z1, z2, z3⟩
      rw [eX b z1] at z3
      by_cases w : b = k
      · rw [if_pos w] at z3; omega
      · rw [if_neg w] at z3
        exact (this.mpr ⟨z1, z2, z3⟩).resolve_left w
  · have := p1 b
    rw [List.mem_append, List.mem_singleton]
    constructor
    · rintro (z | z)
      · obtain ⟨z1, z2, z3⟩ := this.mp z
        exact ⟨z1, z2, by rw [eX b z1, if_neg (hkP b z)]; exact z3⟩
      · subst z
        exact ⟨k1, k2, by rw [eX b k1, if_pos rfl]⟩
    · intro ⟨z1, z2, z3⟩
      rw [eX b z1] at z3
      by_cases w : b = k
      · exact Or.inr w
      · rw [if_neg w] at z3
        exact Or.inl (this.mpr ⟨z1, z2, z3⟩)
  · refine List.pairwise_append.mpr ⟨p2.imp_of_mem (fun {a b} ha hb r => by rw [kk a ha, kk b hb]; exact r), List.pairwise_singleton _ _, fun a ha b hb => ?_⟩
    rw [List.mem_singleton.mp hb, kk a ha, eK k k1, if_pos rfl]
    obtain ⟨z1, z2, z3⟩ := (p1 a).mp ha
    exact hK a z1 z3
  · refine List.pairwise_append.mpr ⟨p3, List.pairwise_singleton _ _, fun a ha b hb => ?_⟩
    rw [List.mem_singleton.mp hb]
    exact ho a ha
/-- the last that came waits again -/
theorem HB_back (H : HB n T S W Hm X K h (A ++ B) (P ++ [k]) L) (hl : (A ++ B).length < 48) (hs : (A ++ k :: B).Pairwise (ah T)) (eX : ∀ b, b < n → X' b = if b = k then 0 else X b) (hC : crw n T S W (cm Hm X' h) L') : HB n T S W Hm X' K h (A ++ k :: B) P L' := by
  obtain ⟨⟨q1, q2⟩, q3, ⟨p1, p2⟩, p3, cr⟩ := H
  obtain ⟨k1, k2, k3⟩ := (p1 k).mp (by simp)
  obtain ⟨o1, o2, o3⟩ := List.pairwise_append.mp p2
  have hkP : ∀ b ∈ P, b ≠ k := fun b hb z => by
    have := o3 b hb k List.mem_cons_self
    rw [z] at this
    omega
  refine ⟨⟨fun b => ?_, hs⟩, by simp at hl ⊢; omega, ⟨fun b => ?_, o1⟩, (List.pairwise_append.mp p3).1, hC⟩
  · have := q1 b
    rw [mem_in]
    constructor
    · rintro (z | z)
      · obtain ⟨z1, z2, z3⟩ := this.mp z
        refine ⟨z1, z2, ?_⟩
        rw [eX b z1]
        by_cases w : b = k
        · rw [if_pos w]
        · rw [if_neg w]; exact z3
      · subst z
        exact ⟨k1, k2, by rw [eX b k1, if_pos rfl]⟩
    · intro ⟨z1, z2, z3⟩
      rw [eX b z1] at z3
      by_cases w : b = k
      · exact Or.inr w
      · rw [if_neg w] at z3
        exact Or.inl (this.mpr ⟨z1, z2, z3⟩)
  · have := p1 b
    rw [List.mem_append, List.mem_singleton] at this
    constructor
    · intro z
      obtain ⟨z1, z2, z3⟩ := this.mp (Or.inl z)
      exact ⟨z1, z2, by rw [eX b z1, if_neg (hkP b z)]; exact z3⟩
    · intro ⟨z1, z2, z3⟩
      rw [eX b z1] at z3
      by_cases w : b = k
      · rw [if_pos w] at z3; omega
      · rw [if_neg w] at z3
        exact (this.mpr ⟨z1, z2, z3⟩).resolve_right w
theorem p_len (hP : pOf n K Hm X h P) (hk : k < n) (hX : k ∉ P) : P.length < n := by
  have nd : (P ++ [k]).Nodup := List.pairwise_append.mpr ⟨hP.2.imp (fun {a b} r z => by rw [z] at r; omega), List.pairwise_singleton _ _, fun a ha b hb z => by
    rw [List.mem_singleton.mp hb] at z
    rw [z] at ha
    exact hX ha⟩
  have e1 := cb_list (n := n) (p := fun b => decide (b ∈ P ∨ b = k)) nd (fun b => by
    rw [List.mem_append, List.mem_singleton, decide_eq_true_iff]
    constructor
    · rintro (z | z)
      · exact ⟨((hP.1 b).mp z).1, Or.inl z⟩
      · exact ⟨by omega, Or.inr z⟩
    · exact fun z => z.2)
  have e2 := cb_le n (fun b => decide (b ∈ P ∨ b = k))
  rw [e1] at e2
  simp at e2
  omega
section CO
variable {lt ls lw lh lx q u t c : RS} {nu : Int32}
theorem end_t (ok : okB n T S W) (ht : lr n T lt) (hs : lr n S ls) {p : Int32} (hp : p.toInt = k) (hk : k < n) : ∃ e, f_X2_end lt ls p = some e ∧ e.toInt = (T k : Int) + S k := by
  have eT := lr_t ht hk
  have eS := lr_t hs hk
  have := ok.2 k hk
  refine ⟨iz ((T k : Nat) : Int) + iz ((S k : Nat) : Int), ?_, ?_⟩
  · unfold f_X2_end
    rw [lr_get ht hp hk]
    simp only [Option.bind_some]
    rw [lr_get hs hp hk]
    rfl
  · rw [ta (by omega) (by omega), eT, eS]
/-- the first of a house comes -/
theorem come_s (ok : okB n T S W) (ht : lr n T lt) (hs : lr n S ls) (hw : lr n W lw) (hx : lr n X lx) (H : HB n T S W Hm X K h (k :: B) P L) (c9 : hc q u t c (k :: B) P L) (hK : ∀ b, b < n → X b = 1 → K b < kst) (ho : ∀ b ∈ P, T b ≤ T k) : ∃ g lx' z' q' u' t' c' L', f_X4_letFirstCome lt ls lw lx q u t c = some (g, lx', z', q', u', t', c') ∧ g.toInt = k ∧ z'.toInt = T k ∧ lr n (fun b => if b = k then 1 else X b) lx' ∧ hc q' u' t' c' B (P ++ [k]) L' ∧ HB n T S W Hm (fun b => if b = k then 1 else X b) (fun b => if b = k then kst else K b) h B (P ++ [k]) L' := by
  obtain ⟨hq, hu, hr⟩ := c9
  obtain ⟨k1, k2, k3⟩ := (H.1.1 k).mp List.mem_cons_self
  have okk := ok.2 k k1
  have h120 := ok.1
  have hkP : k ∉ P := fun z => by have := ((H.2.2.1.1 k).mp z).2.2; omega
  obtain ⟨q', e1, g1⟩ := qr_remove (A := []) hq t0
  have eg := qr_b hq List.mem_cons_self
  obtain ⟨u', e2, g2⟩ := qr_add hu (by have := p_len H.2.2.1 k1 hkP; omega) eg (by omega)
  have eT := lr_t ht k1
  have eW := lr_t hw k1
  obtain ⟨e, e4, e4t⟩ := end_t ok ht hs eg k1
  obtain ⟨t', c', L', e6, g6, g7⟩ := enter_in (C' := cm Hm (fun b => if b = k then 1 else X b) h) ok hr H.2.2.2.2 k1 eT e4t eW (fun b hb hbk => cmX_eq (if_neg hbk)) (cmX_no (by omega)) (cmX_yes k2 (if_pos rfl))
  obtain ⟨lx', e7, g8⟩ := lr_set (g := fun b => if b = k then 1 else X b) (x := 1) hx eg k1 t1 (by omega) (fun c hc => rfl)
  refine ⟨_, lx', _, q', u', t', c', L', ?_, eg, eT, g8, ⟨g1, g2, g6⟩, HB_come H hK ho (fun b hb => rfl) (fun b hb => rfl) g7⟩
  unfold f_X4_letFirstCome
  rw [e1]
  simp only [Option.bind_some]
  rw [e2]
  simp only [Option.bind_some]
  rw [lr_get ht eg k1]
  simp only [Option.bind_some]
  rw [e4]
  simp only [Option.bind_some]
  rw [lr_get hw eg k1]
  simp only [Option.bind_some]
  rw [e6]
  simp only [Option.bind_some]
  rw [e7]
  rfl
/-- the last that came waits again -/
theorem bring_s (ok : okB n T S W) (ht : lr n T lt) (hs : lr n S ls) (hw : lr n W lw) (hh : lr n Hm lh) (hx : lr n X lx) (H : HB n T S W Hm X K h Q (P ++ [k]) L) (c9 : hc q u t c Q (P ++ [k]) L) (hn : nu.toInt = h) (hh4 : h < 4) (hl : Q.length < 48) : ∃ lh' lx' q' u' t' c' L' Q', f_X4_bringLastBack lt ls lw lh lx nu q u t c = some (lh', lx', q', u', t', c') ∧ lr n Hm lh' ∧ lr n (fun b => if b = k then 0 else X b) lx' ∧ hc q' u' t' c' Q' P L' ∧ HB n T S W Hm (fun b => if b = k then 0 else X b) K h Q' P L' ∧ Q'.length = Q.length + 1 := by
  obtain ⟨hq, hu, hr⟩ := c9
  obtain ⟨k1, k2, k3⟩ := (H.2.2.1.1 k).mp (by simp)
  have okk := ok.2 k k1
  have hlu := qr_len hu
  have hlN := (qr_N hu).1
  have e0 : (u.2 - 1).toInt = ((P.length : Nat) : Int) := by
    rw [tb (by rw [t1]; simp at hlu; omega) (by rw [t1]; simp at hlu hlN; omega), t1]
    simp at hlu
    omega
  obtain ⟨u', e1, g1⟩ := qr_remove (B := []) hu e0
  rw [List.append_nil] at g1
  have eg := qr_b hu (b := k) (by simp)
  have eT := lr_t ht k1
  have eW := lr_t hw k1
  have eN : (-(iz ((W k : Nat) : Int))).toInt = -(W k : Int) := by rw [tn (by omega), eW]
  obtain ⟨e, e4, e4t⟩ := end_t ok ht hs eg k1
  obtain ⟨t', c', L', e6, g6, g7⟩ := enter_out (C' := cm Hm (fun b => if b = k then 0 else X b) h) ok hr H.2.2.2.2 k1 eT e4t eN (fun b hb hbk => cmX_eq (if_neg hbk)) (cmX_yes k2 k3) (cmX_no (by show (if k = k then 0 else X k) ≠ 1; rw [if_pos rfl]; omega))
  obtain ⟨A, B, lh', lx', q', eQ, e7, g8, g9, g10, g11⟩ := enqueue_s ht hh hx hq hn hh4 hl eg k1 (fun b hb => ⟨((H.1.1 b).mp hb).1, fun z => by have := ((H.1.1 b).mp hb).2.2; rw [z] at this; omega⟩) H.1.2
  subst eQ
  refine ⟨lh', lx', q', u', t', c', L', A ++ k :: B, ?_, lr_congr g8 (fun b hb => ?_), g9, ⟨g10, g1, g6⟩, HB_back H hl g11 (fun b hb => rfl) g7, by simp; omega⟩
  · unfold f_X4_bringLastBack
    rw [sz_t]
    simp only [Option.bind_some]
    rw [e1]
    simp only [Option.bind_some]
    rw [lr_get ht eg k1]
    simp only [Option.bind_some]
    rw [e4]
    simp only [Option.bind_some]
    rw [lr_get hw eg k1]
    simp only [Option.bind_some]
    rw [e6]
    simp only [Option.bind_some]
    rw [e7]
    rfl
  · by_cases z : b = k
    · rw [if_pos z, z]; exact k2
    · rw [if_neg z]
end CO
end HH
