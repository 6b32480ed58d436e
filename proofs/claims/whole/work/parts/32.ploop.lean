/-! the loops that change, class beside reference -/
def rS (n : Nat) (X K : Nat → Nat) (kst : Nat) (st : Int32) (ca : Nat → Int32) : Prop := (∀ b, b < n → X b = 1 → (ca b).toInt = K b ∧ K b < kst) ∧ st.toInt = kst
theorem upd_e (f : Nat → Int32) (k : Nat) (v : Int32) : upd f k v k = v := by simp [upd]
theorem upd_n (f : Nat → Int32) {k i : Nat} (v : Int32) (h : i ≠ k) : upd f k v i = f i := by simp [upd, h]
section LO
variable {n h : Nat} {T S W Hm : Nat → Nat} {lt ls lw : RS} {ma : Int32} {ti sp we ho : Nat → Int32} {v1 nu : Int32}
theorem comes_s {X : Nat → Nat} {sa : Nat → Int32} {k : Nat} {p st : Int32} {ca cl : Nat → Int32} (R : mR n T S W Hm X ma ti sp we ho sa) (hp : p.toInt = k) (hk : k < n) (e : Hm k = h) (hh4 : h < 4) : f_X5_comes st ti ho sa ca cl p = some (st + 1, upd sa k 1, upd ca k st, upd cl h (ti k)) := by
  have hn := R.1
  have hi : inB p 120 = true := inB_t hp (by omega)
  have eh : (ho k).toInt = h := by rw [(R.2.2 k hk).2.2.2.1, e]
  unfold f_X5_comes
  rw [if_pos hi, if_pos hi, if_pos hi, if_pos hi, clampN hp, if_pos (inB_t eh hh4), clampN eh]
theorem ho_in {a b : Nat} (h : ah T a b) : T a ≤ T b := by unfold ah at h; omega
/-- those that are due come: the class's loop and the reference's -/
theorem run_j (ok : okB n T S W) (ht : lr n T lt) (hs : lr n S ls) (hw : lr n W lw) (hv : v1.toInt = h) (hh4 : h < 4) {v2 : Int32} {x : Int} (h2 : v2.toInt = x) (thc : Int32) {v4 : Int32} {B : List Nat} (hB : ∀ b ∈ B, x < (T b : Int)) : ∀ (M : List Nat) (F F' i : Nat) (X K : Nat → Nat) (kst : Nat) (P : List Nat) (L : CL) (lx q u t c : RS) (z st : Int32) (sa ca cl : Nat → Int32) (v5 v3 w4 : Int32), HB n T S W Hm X K h (M ++ B) P L → hc q u t c (M ++ B) P L → lr n X lx → (∀ b ∈ P, ∀ k ∈ M, T b ≤ T k) → mR n T S W Hm X ma ti sp we ho sa → rS n X K kst st ca → kst + M.length ≤ 1000000 → (∀ b ∈ M, (T b : Int) ≤ x) → v5.toInt = i → v4.toInt = ((i + M.length : Nat) : Int) → v3.toInt = i → w4.toInt = hdI (M ++ B) → M.length < F → M.length < F' → i + M.length ≤ 900 →
    ∃ lx' q' u' t' c' L' P' r st' sa' ca' cl' X' K' kst', l_X4_run_41 lt ls lw v2 v4 F v5 lx z q u t c = some (.inr (v4, lx', v2, q', u', t', c')) ∧ l_X5_run_78 ma ti ho v1 v2 thc F' v3 w4 st sa ca cl = some (r, thc, st', sa', ca', cl') ∧ r.toInt = v4.toInt ∧ lr n X' lx' ∧ hc q' u' t' c' B P' L' ∧ HB n T S W Hm X' K' h B P' L' ∧ (∀ b ∈ P', b ∈ P ∨ b ∈ M) ∧ mR n T S W Hm X' ma ti sp we ho sa' ∧ rS n X' K' kst' st' ca' ∧ kst' ≤ kst + M.length ∧ (∀ j, j ≠ h → cl' j = cl j) ∧ cl' h = v2 ∧ (∀ b, b < n → Hm b ≠ h → X' b = X b ∧ K' b = K b) ∧ (∀ b, b < n → X b ≤ 2 → X' b ≤ 2) := by
  have hi1 : inB v1 4 = true := inB_t hv hh4
  intro M
  induction M with
  | nil =>
    intro F F' i X K kst P L lx q u t c z st sa ca cl v5 v3 w4 H c9 hx ho9 R rs hks hM h5 h4 h3 hw4 hF hF' hi9
    cases F with
    | zero => exact absurd hF (Nat.not_lt_zero _)
    | succ F =>
      cases F' with
      | zero => exact absurd hF' (Nat.not_lt_zero _)
      | succ F' =>
        refine ⟨lx, q, u, t, c, L, P, v3, st, sa, ca, upd cl v1.toNatClampNeg v2, X, K, kst, ?_, ?_, by rw [h3, h4]; simp, hx, c9, H, fun b hb => Or.inl hb, R, rs, by simp, fun j hj => by rw [clampN hv]; exact upd_n cl v2 hj, by rw [clampN hv]; exact upd_e cl h v2, fun b _ _ => ⟨rfl, rfl⟩, fun b _ z => z⟩
        · rw [l_X4_run_41, if_pos (leI h4 h5 (by simp))]
        · rw [l_X5_run_78]
          cases B with
          | nil => rw [if_pos (eqI2 hw4 m1 rfl), if_pos hi1]
          | cons b B =>
            have hb : w4.toInt = (b : Nat) := hw4
            obtain ⟨b1, b2, b3⟩ := (H.1.1 b).mp (by simp)
            have hn := R.1
            rw [if_neg (neI hb m1 (by omega)), if_pos (inB_t hb (by omega)), clampN hb, if_pos (ltI h2 (R.2.2 b b1).1 (hB b List.mem_cons_self)), if_pos hi1]
  | cons k M ih =>
    intro F F' i X K kst P L lx q u t c z st sa ca cl v5 v3 w4 H c9 hx ho9 R rs hks hM h5 h4 h3 hw4 hF hF' hi9
    cases F with
    | zero => exact absurd hF (Nat.not_lt_zero _)
    | succ F =>
      cases F' with
      | zero => exact absurd hF' (Nat.not_lt_zero _)
      | succ F' =>
        have hlen : (k :: M).length = M.length + 1 := rfl
        have hn := R.1
        have hk4 : w4.toInt = (k : Nat) := hw4
        obtain ⟨k1, k2, k3⟩ := (H.1.1 k).mp (by simp)
        obtain ⟨g, lx1, z1, q1, u1, t1', c1, L1, e1, eg, ez, hx1, c91, H1⟩ := come_s (kst := kst) ok ht hs hw hx H c9 (fun b hb hb2 => (rs.1 b hb hb2).2) (fun b hb => ho9 b hb k List.mem_cons_self)
        have R1 : mR n T S W Hm (fun b => if b = k then 1 else X b) ma ti sp we ho (upd sa k 1) := by
          have := mR_setX (X' := fun b => if b = k then 1 else X b) R hk4 (x := 1) t1 (fun b _ => rfl)
          rw [clampN hk4] at this
          exact this
        obtain ⟨w5, e5, hw5⟩ := first_s R1 hv H1.1
        have es : (st + 1).toInt = ((kst + 1 : Nat) : Int) := by rw [ta (by rw [t1, rs.2]; omega) (by rw [t1, rs.2]; omega), t1, rs.2]; omega
        have rs1 : rS n (fun b => if b = k then 1 else X b) (fun b => if b = k then kst else K b) (kst + 1) (st + 1) (upd ca k st) := by
          refine ⟨fun b hb hb1 => ?_, es⟩
          show (upd ca k st b).toInt = ((if b = k then kst else K b : Nat) : Int) ∧ (if b = k then kst else K b) < kst + 1
          have hb1 : (if b = k then 1 else X b) = 1 := hb1
          by_cases zk : b = k
          · subst zk
            rw [upd_e, if_pos rfl]
            exact ⟨rs.2, by omega⟩
          · rw [upd_n _ _ zk, if_neg zk]
            rw [if_neg zk] at hb1
            have := rs.1 b hb hb1
            exact ⟨this.1, by omega⟩
        have hord : ∀ b ∈ P ++ [k], ∀ d ∈ M, T b ≤ T d := by
          intro b hb d hd
          rcases List.mem_append.mp hb with w | w
          · exact ho9 b w d (List.mem_cons_of_mem _ hd)
          · rw [List.mem_singleton.mp w]
            exact ho_in ((List.pairwise_cons.mp H.1.2).1 d (List.mem_append_left _ hd))
        obtain ⟨lx', q', u', t', c', L', P', r, st', sa', ca', cl', X', K', kst', r1, r2, r3, r4, r5, r6, r7, r8, r9, r10, r11, r12, r13, r14⟩ := ih F F' (i + 1) _ _ (kst + 1) (P ++ [k]) L1 lx1 q1 u1 t1' c1 z1 (st + 1) (upd sa k 1) (upd ca k st) (upd cl h (ti k)) (v5 + 1) (v3 + 1) w5 H1 c91 hx1 hord R1 rs1 (by omega) (fun b hb => hM b (List.mem_cons_of_mem _ hb)) (inc_t h5 (by omega)) (by rw [h4, hlen]; omega) (inc_t h3 (by omega)) hw5 (by omega) (by omega) (by omega)
        refine ⟨lx', q', u', t', c', L', P', r, st', sa', ca', cl', X', K', kst', ?_, ?_, r3, r4, r5, r6, ?_, r8, r9, by omega, ?_, r12, ?_, ?_⟩
        · rw [l_X4_run_41, if_neg (nleI h4 h5 (by omega)), e1]
          exact r1
        · rw [l_X5_run_78, if_neg (neI hk4 m1 (by omega)), if_pos (inB_t hk4 (by omega)), clampN hk4, if_neg (nltI h2 (R.2.2 k k1).1 (hM k List.mem_cons_self)), comes_s R hk4 k1 k2 hh4]
          simp only [Option.bind_some]
          rw [e5]
          exact r2
        · intro b hb
          rcases r7 b hb with w | w
          · rcases List.mem_append.mp w with w | w
            · exact Or.inl w
            · exact Or.inr (by rw [List.mem_singleton.mp w]; exact List.mem_cons_self)
          · exact Or.inr (List.mem_cons_of_mem _ w)
        · intro j hj
          rw [r11 j hj, upd_n _ _ hj]
        · intro b hb hb2
          have hbk : b ≠ k := fun w => hb2 (by rw [w]; exact k2)
          have := r13 b hb hb2
          rw [if_neg hbk, if_neg hbk] at this
          exact this
        · intro b hb hb2
          refine r14 b hb ?_
          by_cases w : b = k
          · rw [if_pos w]; omega
          · rw [if_neg w]; exact hb2
/-- the class calls one off -/
theorem off_1 {A B : List Nat} {K X : Nat → Nat} {P : List Nat} {L : CL} {k : Nat} {v5 : Int32} {lx q : RS} (h5 : v5.toInt = ((A.length : Nat) : Int)) (H : HB n T S W Hm X K h (A ++ k :: B) P L) (hq : qr 48 q (A ++ k :: B)) (hx : lr n X lx) : ∃ lx' q', f_X4_callOffPlace lx q v5 = some (lx', q') ∧ lr n (fun b => if b = k then 2 else X b) lx' ∧ qr 48 q' (A ++ B) ∧ HB n T S W Hm (fun b => if b = k then 2 else X b) K h (A ++ B) P L := by
  have hm : k ∈ A ++ k :: B := by simp
  obtain ⟨k1, k2, k3⟩ := (H.1.1 k).mp hm
  obtain ⟨q1, e1, g1⟩ := qr_remove hq h5
  have eg := qr_b hq hm
  obtain ⟨lx1, e2, g2⟩ := lr_set (g := fun b => if b = k then 2 else X b) (x := 2) hx eg k1 t2 (by omega) (fun c hc => rfl)
  refine ⟨lx1, q1, ?_, g2, g1, HB_out (k := k) H (fun b hb => ?_) (fun b hb => ?_)⟩
  · unfold f_X4_callOffPlace
    rw [e1]
    simp only [Option.bind_some]
    rw [e2]
    rfl
  · by_cases w : b = k
    · rw [if_pos w]; exact ⟨fun z => absurd z.2 (by omega), fun z => absurd w z.2⟩
    · rw [if_neg w]; exact ⟨fun z => ⟨z, w⟩, fun z => z.1⟩
  · by_cases w : b = k
    · rw [if_pos w]; exact ⟨fun z => absurd z.2 (by omega), fun z => absurd z.2 (by rw [w]; omega)⟩
    · rw [if_neg w]
/-- the class calls off one after another -/
theorem off_l {A B : List Nat} {K : Nat → Nat} {P : List Nat} {L : CL} {v5 v6 : Int32} (h5 : v5.toInt = ((A.length : Nat) : Int)) : ∀ (M : List Nat) (F i : Nat) (X : Nat → Nat) (lx q : RS) (v7 : Int32), HB n T S W Hm X K h (A ++ (M ++ B)) P L → qr 48 q (A ++ (M ++ B)) → lr n X lx → v7.toInt = i → v6.toInt = ((i + M.length : Nat) : Int) → M.length < F → i + M.length ≤ 900 → ∃ lx' q' X', l_X4_callOffAll_36 v5 v6 F v7 lx q = some (.inr (v6, lx', q')) ∧ lr n X' lx' ∧ qr 48 q' (A ++ B) ∧ HB n T S W Hm X' K h (A ++ B) P L ∧ ∀ b, b < n → X' b = if b ∈ M then 2 else X b := by
  intro M
  induction M with
  | nil =>
    intro F i X lx q v7 H hq hx h7 h6 hF hi
    cases F with
    | zero => exact absurd hF (Nat.not_lt_zero _)
    | succ F =>
      refine ⟨lx, q, X, ?_, hx, hq, H, fun b hb => by rw [if_neg (fun z => (nomatch z))]⟩
      rw [l_X4_callOffAll_36, if_pos (leI h6 h7 (by simp))]
  | cons k M ih =>
    intro F i X lx q v7 H hq hx h7 h6 hF hi
    cases F with
    | zero => exact absurd hF (Nat.not_lt_zero _)
    | succ F =>
      have hlen : (k :: M).length = M.length + 1 := rfl
      obtain ⟨lx1, q1, e1, g2, g1, H1⟩ := off_1 (B := M ++ B) h5 H hq hx
      obtain ⟨lx', q', X', r1, r2, r3, r4, r5⟩ := ih F (i + 1) _ lx1 q1 (v7 + 1) H1 g1 g2 (inc_t h7 (by omega)) (by rw [h6, hlen]; omega) (by omega) (by omega)
      refine ⟨lx', q', X', ?_, r2, r3, r4, fun b hb => ?_⟩
      · rw [l_X4_callOffAll_36, if_neg (nleI h6 h7 (by omega)), e1]
        exact r1
      · rw [r5 b hb]
        by_cases w : b ∈ M
        · rw [if_pos w, if_pos (List.mem_cons_of_mem _ w)]
        · rw [if_neg w]
          by_cases w2 : b = k
          · rw [if_pos w2, if_pos (by rw [w2]; exact List.mem_cons_self)]
          · rw [if_neg w2, if_neg (fun z => (List.mem_cons.mp z).elim w2 w)]
/-- the class moves one after another -/
theorem move_l {A : List Nat} {K X : Nat → Nat} {P P2 : List Nat} {L L2 : CL} {o : Nat} {v2 v4 : Int32} (ht : lr n T lt) (hno : h ≠ o) (ho4 : o < 4) (hn : nu.toInt = o) (h2 : v2.toInt = ((A.length : Nat) : Int)) : ∀ (M : List Nat) (F i : Nat) (Hm : Nat → Nat) (lh lx q q2 : RS) (Q2 : List Nat) (v5 : Int32), HB n T S W Hm X K h (A ++ M) P L → HB n T S W Hm X K o Q2 P2 L2 → qr 48 q (A ++ M) → qr 48 q2 Q2 → lr n Hm lh → lr n X lx → Q2.length + M.length ≤ 48 → v5.toInt = i → v4.toInt = ((i + M.length : Nat) : Int) → M.length < F → i + M.length ≤ 900 → ∃ lh' lx' q' q2' Q2' Hm', l_X4_move_80 lt nu v2 v4 F v5 lh lx q2 q = some (.inr (v4, lh', lx', q2', q')) ∧ lr n Hm' lh' ∧ lr n X lx' ∧ qr 48 q' A ∧ qr 48 q2' Q2' ∧ HB n T S W Hm' X K h A P L ∧ HB n T S W Hm' X K o Q2' P2 L2 ∧ ∀ b, b < n → Hm' b = if b ∈ M then o else Hm b := by
  intro M
  induction M with
  | nil =>
    intro F i Hm lh lx q q2 Q2 v5 H H2 hq hq2 hh hx hl h5 h4 hF hi
    cases F with
    | zero => exact absurd hF (Nat.not_lt_zero _)
    | succ F =>
      rw [List.append_nil] at H hq
      refine ⟨lh, lx, q, q2, Q2, Hm, ?_, hh, hx, hq, hq2, H, H2, fun b hb => by rw [if_neg (fun z => (nomatch z))]⟩
      rw [l_X4_move_80, if_pos (leI h4 h5 (by simp))]
  | cons k M ih =>
    intro F i Hm lh lx q q2 Q2 v5 H H2 hq hq2 hh hx hl h5 h4 hF hi
    cases F with
    | zero => exact absurd hF (Nat.not_lt_zero _)
    | succ F =>
      have hlen : (k :: M).length = M.length + 1 := rfl
      have hm : k ∈ A ++ k :: M := by simp
      obtain ⟨k1, k2, k3⟩ := (H.1.1 k).mp hm
      have h120 := lr_120 hx
      obtain ⟨q1, e1, g1⟩ := qr_remove hq h2
      have eg := qr_b hq hm
      obtain ⟨A2, B2, lh1, lx1, q21, eQ, e2, g2, g3, g4, g5⟩ := enqueue_s ht hh hx hq2 hn ho4 (by omega) eg k1 (fun b hb => ⟨((H2.1.1 b).mp hb).1, fun z => by
        have := ((H2.1.1 b).mp hb).2.1
        rw [z] at this
        omega⟩) H2.1.2
      subst eQ
      have g3' : lr n X lx1 := lr_congr g3 (fun b hb => by
        by_cases z : b = k
        · rw [if_pos z, z]; exact k3
        · rw [if_neg z])
      have H1 : HB n T S W (fun b => if b = k then o else Hm b) X K h (A ++ M) P L := by
        refine HB_out (k := k) H (fun b hb => ?_) (fun b hb => ?_)
        · by_cases w : b = k
          · rw [if_pos w]; exact ⟨fun z => absurd z.1.symm hno, fun z => absurd w z.2⟩
          · rw [if_neg w]; exact ⟨fun z => ⟨z, w⟩, fun z => z.1⟩
        · by_cases w : b = k
          · rw [if_pos w]; exact ⟨fun z => absurd z.1.symm hno, fun z => absurd z.2 (by rw [w]; omega)⟩
          · rw [if_neg w]
      have H21 : HB n T S W (fun b => if b = k then o else Hm b) X K o (A2 ++ k :: B2) P2 L2 := by
        refine HB_in H2 (by omega) g5 k1 (fun b hb => ?_) (fun b hb => ?_)
        · by_cases w : b = k
          · rw [if_pos w]; exact ⟨fun _ => Or.inr w, fun _ => ⟨rfl, by rw [w]; exact k3⟩⟩
          · rw [if_neg w]; exact ⟨fun z => Or.inl z, fun z => z.resolve_right w⟩
        · by_cases w : b = k
          · rw [if_pos w]; exact ⟨fun z => absurd z.2 (by rw [w]; omega), fun z => absurd z.2 (by rw [w]; omega)⟩
          · rw [if_neg w]
      obtain ⟨lh', lx', q', q2', Q2', Hm', r1, r2, r3, r4, r5, r6, r7, r8⟩ := ih F (i + 1) _ lh1 lx1 q1 q21 (A2 ++ k :: B2) (v5 + 1) H1 H21 g1 g4 g2 g3' (by simp at hl ⊢; omega) (inc_t h5 (by omega)) (by rw [h4, hlen]; omega) (by omega) (by omega)
      refine ⟨lh', lx', q', q2', Q2', Hm', ?_, r2, r3, r4, r5, r6, r7, fun b hb => ?_⟩
      · rw [l_X4_move_80, if_neg (nleI h4 h5 (by omega)), e1]
        simp only [Option.bind_some]
        rw [e2]
        exact r1
      · rw [r8 b hb]
        by_cases w : b ∈ M
        · rw [if_pos w, if_pos (List.mem_cons_of_mem _ w)]
        · rw [if_neg w]
          by_cases w2 : b = k
          · rw [if_pos w2, if_pos (by rw [w2]; exact List.mem_cons_self)]
          · rw [if_neg w2, if_neg (fun z => (List.mem_cons.mp z).elim w2 w)]
/-- the class brings one after another back -/
theorem back_b {A : List Nat} {K : Nat → Nat} {v2 v4 : Int32} (ok : okB n T S W) (ht : lr n T lt) (hs : lr n S ls) (hw : lr n W lw) (hn : nu.toInt = h) (hh4 : h < 4) : ∀ (F : Nat) (M : List Nat) (i : Nat) (X : Nat → Nat) (L : CL) (Q : List Nat) (lh lx q u t c : RS) (v5 : Int32), HB n T S W Hm X K h Q (A ++ M) L → hc q u t c Q (A ++ M) L → lr n Hm lh → lr n X lx → Q.length + M.length ≤ 48 → v5.toInt = i → v4.toInt = ((i + M.length : Nat) : Int) → M.length < F → i + M.length ≤ 900 → ∃ lh' lx' q' u' t' c' L' Q' X', l_X4_back_64 lt ls lw nu v2 v4 F v5 lh lx q u t c = some (.inr (v4, lh', lx', v2, q', u', t', c')) ∧ lr n Hm lh' ∧ lr n X' lx' ∧ hc q' u' t' c' Q' A L' ∧ HB n T S W Hm X' K h Q' A L' ∧ ∀ b, b < n → X' b = if b ∈ M then 0 else X b := by
  intro F
  induction F with
  | zero => intro M i X L Q lh lx q u t c v5 _ _ _ _ _ _ _ hF; exact absurd hF (Nat.not_lt_zero _)
  | succ F ih =>
    intro M i X L Q lh lx q u t c v5 H c9 hh hx hl h5 h4 hF hi
    rcases List.eq_nil_or_concat M with rfl | ⟨M9, k, rfl⟩
    · rw [List.append_nil] at H c9
      refine ⟨lh, lx, q, u, t, c, L, Q, X, ?_, hh, hx, c9, H, fun b hb => by rw [if_neg (fun z => (nomatch z))]⟩
      rw [l_X4_back_64, if_pos (leI h4 h5 (by simp))]
    · rw [List.concat_eq_append] at *
      have hlen : (M9 ++ [k]).length = M9.length + 1 := by simp
      rw [← List.append_assoc] at H c9
      obtain ⟨lh1, lx1, q1, u1, t1', c1, L1, Q1, e1, g1, g2, g3, g4, g5⟩ := bring_s ok ht hs hw hh hx H c9 hn hh4 (by omega)
      obtain ⟨lh', lx', q', u', t', c', L', Q', X', r1, r2, r3, r4, r5, r6⟩ := ih M9 (i + 1) _ L1 Q1 lh1 lx1 q1 u1 t1' c1 (v5 + 1) g4 g3 g1 g2 (by omega) (inc_t h5 (by omega)) (by rw [h4, hlen]; omega) (by omega) (by omega)
      refine ⟨lh', lx', q', u', t', c', L', Q', X', ?_, r2, r3, r4, r5, fun b hb => ?_⟩
      · rw [l_X4_back_64, if_neg (nleI h4 h5 (by omega)), e1]
        exact r1
      · rw [r6 b hb]
        by_cases w : b ∈ M9
        · rw [if_pos w, if_pos (List.mem_append_left _ w)]
        · rw [if_neg w]
          by_cases w2 : b = k
          · rw [if_pos w2, if_pos (by rw [w2]; simp)]
          · rw [if_neg w2, if_neg (fun z => (List.mem_append.mp z).elim w (fun z => w2 (List.mem_singleton.mp z)))]
end LO
