/-! the class is sound -/
theorem cnt1 {Q : List Nat} (h : Q.Pairwise (fun a b => a ≠ b)) (b : Nat) : Q.count b = if b ∈ Q then 1 else 0 := by
  induction Q with
  | nil => rfl
  | cons c Q ih =>
    obtain ⟨h1, h2⟩ := List.pairwise_cons.mp h
    rw [List.count_cons, ih h2]
    by_cases e : c = b
    · subst e
      rw [if_neg (fun z => h1 c z rfl), if_pos List.mem_cons_self]
      simp
    · rw [show (c == b) = false from beq_eq_false_iff_ne.mpr e]
      by_cases e2 : b ∈ Q
      · rw [if_pos e2, if_pos (List.mem_cons_of_mem _ e2)]; rfl
      · rw [if_neg e2, if_neg (fun z => (List.mem_cons.mp z).elim (fun w => e w.symm) e2)]; rfl
section SO
variable {n h kst : Nat} {T S W Hm X K : Nat → Nat} {lt ls lw lh lx : RS} {Q P : List Nat} {L : CL}
theorem q_one (hQ : qOf n T Hm X h Q) {b : Nat} (hb : b < n) : Q.count b = if Hm b = h ∧ X b = 0 then 1 else 0 := by
  rw [cnt1 (hQ.2.imp (fun {a b} r z => by rw [z] at r; exact ah_irr r))]
  by_cases c : Hm b = h ∧ X b = 0
  · rw [if_pos c, if_pos ((hQ.1 b).mpr ⟨hb, c⟩)]
  · rw [if_neg c, if_neg (fun z => c ((hQ.1 b).mp z).2)]
theorem p_one (hP : pOf n K Hm X h P) {b : Nat} (hb : b < n) : P.count b = if Hm b = h ∧ X b = 1 then 1 else 0 := by
  rw [cnt1 (hP.2.imp (fun {a b} r z => by rw [z] at r; omega))]
  by_cases c : Hm b = h ∧ X b = 1
  · rw [if_pos c, if_pos ((hP.1 b).mpr ⟨hb, c⟩)]
  · rw [if_neg c, if_neg (fun z => c ((hP.1 b).mp z).2)]
theorem four (b : Nat) (hb : Hm b < 4) (x : Nat) : (if Hm b = 0 ∧ X b = x then 1 else 0) + (if Hm b = 1 ∧ X b = x then 1 else 0) + (if Hm b = 2 ∧ X b = x then 1 else 0) + (if Hm b = 3 ∧ X b = x then 1 else 0) = if X b = x then 1 else 0 := by
  by_cases c : X b = x
  · have : Hm b = 0 ∨ Hm b = 1 ∨ Hm b = 2 ∨ Hm b = 3 := by omega
    rcases this with z | z | z | z <;> simp [z, c]
  · simp [c]
theorem ta4 {a b c d : Int32} {x y z w : Nat} (h1 : a.toInt = x) (h2 : b.toInt = y) (h3 : c.toInt = z) (h4 : d.toInt = w) (hb : x ≤ 1000 ∧ y ≤ 1000 ∧ z ≤ 1000 ∧ w ≤ 1000) : ((((0 + a) + b) + c) + d).toInt = ((x + y + z + w : Nat) : Int) := by
  have e1 : (0 + a).toInt = x := by rw [ta (by rw [t0]; omega) (by rw [t0]; omega), t0]; omega
  have e2 : ((0 + a) + b).toInt = x + y := by rw [ta (by omega) (by omega)]; omega
  have e3 : (((0 + a) + b) + c).toInt = x + y + z := by rw [ta (by omega) (by omega)]; omega
  rw [ta (by omega) (by omega)]
  omega
theorem once_s {q0 u0 q1 u1 q2 u2 q3 u3 : RS} {Q0 P0 Q1 P1 Q2 P2 Q3 P3 : List Nat} {p : Int32} {b : Nat} (hb : b < n) (hp : p.toInt = b) (hH : Hm b < 4 ∧ X b ≤ 2) (hx : lr n X lx) (a0 : qr 48 q0 Q0) (b0 : qr 120 u0 P0) (a1 : qr 48 q1 Q1) (b1 : qr 120 u1 P1) (a2 : qr 48 q2 Q2) (b2 : qr 120 u2 P2) (a3 : qr 48 q3 Q3) (b3 : qr 120 u3 P3) (c0 : qOf n T Hm X 0 Q0) (d0 : pOf n K Hm X 0 P0) (c1 : qOf n T Hm X 1 Q1) (d1 : pOf n K Hm X 1 P1) (c2 : qOf n T Hm X 2 Q2) (d2 : pOf n K Hm X 2 P2) (c3 : qOf n T Hm X 3 Q3) (d3 : pOf n K Hm X 3 P3) : f_X4_isOneThingOnce lx q0 u0 q1 u1 q2 u2 q3 u3 p = some true := by
  obtain ⟨x0, e0, f0⟩ := qr_count a0 hp
  obtain ⟨y0, g0, h0⟩ := qr_count b0 hp
  obtain ⟨x1, e1, f1⟩ := qr_count a1 hp
  obtain ⟨y1, g1, h1⟩ := qr_count b1 hp
  obtain ⟨x2, e2, f2⟩ := qr_count a2 hp
  obtain ⟨y2, g2, h2⟩ := qr_count b2 hp
  obtain ⟨x3, e3, f3⟩ := qr_count a3 hp
  obtain ⟨y3, g3, h3⟩ := qr_count b3 hp
  rw [q_one c0 hb] at f0
  rw [q_one c1 hb] at f1
  rw [q_one c2 hb] at f2
  rw [q_one c3 hb] at f3
  rw [p_one d0 hb] at h0
  rw [p_one d1 hb] at h1
  rw [p_one d2 hb] at h2
  rw [p_one d3 hb] at h3
  have i1 : ∀ (c : Prop) [Decidable c], (if c then 1 else 0 : Nat) ≤ 1000 := fun c _ => by split <;> omega
  have sw := ta4 f0 f1 f2 f3 ⟨i1 _, i1 _, i1 _, i1 _⟩
  have sc9 := ta4 h0 h1 h2 h3 ⟨i1 _, i1 _, i1 _, i1 _⟩
  rw [four b hH.1] at sw sc9
  have ex := lr_t hx hb
  unfold f_X4_isOneThingOnce
  simp only [e0, g0, e1, g1, e2, g2, e3, g3, Option.bind_some, lr_get hx hp hb, in4_t (p := iz ((X b : Nat) : Int)) t0 t2 (by omega), if_neg bIt0]
  by_cases z0 : X b = 0
  · rw [if_pos z0] at sw
    rw [if_neg (by omega)] at sc9
    rw [if_pos (eqI2 ex t0 (by omega))]
    unfold b_X4_isOneThingOnce_101
    rw [if_pos (eqI2 sw t1 rfl : _ = bI true), if_neg (neI ex t1 (by omega)), if_pos (eqI2 sc9 t0 rfl)]
  · rw [if_neg z0] at sw
    rw [if_neg (neI ex t0 (by omega))]
    unfold b_X4_isOneThingOnce_101
    rw [if_pos (eqI2 sw t0 rfl : _ = bI false)]
    by_cases z1 : X b = 1
    · rw [if_pos z1] at sc9
      rw [if_pos (eqI2 ex t1 (by omega)), if_pos (eqI2 sc9 t1 rfl)]
    · rw [if_neg z1] at sc9
      rw [if_neg (neI ex t1 (by omega)), if_pos (eqI2 sc9 t0 rfl)]
theorem split_68 {nu z : Int32} {q u : RS} {ck : Nat} (ht : lr n T lt) (hh : lr n Hm lh) (hn : nu.toInt = h) (hz : z.toInt = ck) (hq : qr 48 q Q) (hu : qr 120 u P) (hP : ∀ b ∈ P, b < n ∧ Hm b = h ∧ T b ≤ ck) : ∀ (B : List Nat) (F : Nat) (A : List Nat) (v : Int32), P = A ++ B → v.toInt = ((A.length : Nat) : Int) → B.length < F → l_X4_isSplitByClock_68 lt lh nu z q u F v = some true := by
  intro B
  induction B with
  | nil =>
    intro F A v e hv hF
    cases F with
    | zero => exact absurd hF (Nat.not_lt_zero _)
    | succ F =>
      rw [l_X4_isSplitByClock_68, sz_t]
      simp only [Option.bind_some]
      rw [if_pos (leI (qr_len hu) hv (by rw [e]; simp)), sz_t]
      simp only [Option.bind_some]
      rw [if_neg (nltI t48 (qr_len hq) (by have := (qr_N hq).1; omega))]
  | cons b B ih =>
    intro F A v e hv hF
    cases F with
    | zero => exact absurd hF (Nat.not_lt_zero _)
    | succ F =>
      have hN := qr_N hu
      have hl : P.length = A.length + B.length + 1 := by rw [e]; simp; omega
      have hbP : b ∈ P := by rw [e]; simp
      obtain ⟨b1, b2, b3⟩ := hP b hbP
      have hu' := hu
      rw [e] at hu'
      have hb := qr_b hu hbP
      rw [l_X4_isSplitByClock_68, sz_t]
      simp only [Option.bind_some]
      rw [if_neg (nleI (qr_len hu) hv (by omega)), qr_get hu' hv]
      simp only [Option.bind_some]
      rw [lr_get ht hb b1]
      simp only [Option.bind_some]
      rw [if_neg (nltI hz (lr_t ht b1) (by omega)), lr_get hh hb b1]
      simp only [Option.bind_some]
      rw [if_pos (eqI2 (lr_t hh b1) hn (by omega))]
      exact ih F (A ++ [b]) _ (by rw [e]; simp) (by rw [inc_t hv (by omega)]; simp) (by simp at hF; omega)
theorem split_2 {nu z : Int32} {q u : RS} {ck : Nat} (ht : lr n T lt) (hh : lr n Hm lh) (hn : nu.toInt = h) (hz : z.toInt = ck) (hq : qr 48 q Q) (hu : qr 120 u P) (hP : ∀ b ∈ P, b < n ∧ Hm b = h ∧ T b ≤ ck) (hQ : ∀ b ∈ Q, b < n ∧ Hm b = h ∧ ck ≤ T b) : ∀ (B : List Nat) (F : Nat) (A : List Nat) (v : Int32), Q = A ++ B → v.toInt = ((A.length : Nat) : Int) → B.length < F → l_X4_isSplitByClock_2 lt lh nu z q u F v = some true := by
  intro B
  induction B with
  | nil =>
    intro F A v e hv hF
    cases F with
    | zero => exact absurd hF (Nat.not_lt_zero _)
    | succ F =>
      rw [l_X4_isSplitByClock_2, sz_t]
      simp only [Option.bind_some]
      rw [if_pos (leI (qr_len hq) hv (by rw [e]; simp))]
      exact split_68 ht hh hn hz hq hu hP P FU [] 0 rfl t0 (by have := qr_N hu; show _ < 1000000; omega)
  | cons b B ih =>
    intro F A v e hv hF
    cases F with
    | zero => exact absurd hF (Nat.not_lt_zero _)
    | succ F =>
      have hN := qr_N hq
      have hl : Q.length = A.length + B.length + 1 := by rw [e]; simp; omega
      have hbP : b ∈ Q := by rw [e]; simp
      obtain ⟨b1, b2, b3⟩ := hQ b hbP
      have hu' := hq
      rw [e] at hu'
      have hb := qr_b hq hbP
      rw [l_X4_isSplitByClock_2, sz_t]
      simp only [Option.bind_some]
      rw [if_neg (nleI (qr_len hq) hv (by omega)), qr_get hu' hv]
      simp only [Option.bind_some]
      rw [lr_get ht hb b1]
      simp only [Option.bind_some]
      rw [if_neg (nltI (lr_t ht b1) hz (by omega)), lr_get hh hb b1]
      simp only [Option.bind_some]
      rw [if_pos (eqI2 (lr_t hh b1) hn (by omega))]
      exact ih F (A ++ [b]) _ (by rw [e]; simp) (by rw [inc_t hv (by omega)]; simp) (by simp at hF; omega)
theorem split_s {z cv : Int32} {q u t c : RS} {ck : Nat} {nu : Int32} (ht : lr n T lt) (hh : lr n Hm lh) (hn : nu.toInt = h) (H : HS n T S W Hm X K h ck Q P L z q u t c cv) : f_X4_isSplitByClock lt lh nu z q u = some true :=
  split_2 ht hh hn H.2.2.1 H.2.2.2.1.1 H.2.2.2.1.2.1 (fun b hb => by have := (H.1.2.2.1.1 b).mp hb; exact ⟨this.1, this.2.1, H.2.1.2.2 b hb⟩) (fun b hb => by have := (H.1.1.1 b).mp hb; exact ⟨this.1, this.2.1, H.2.1.2.1 b hb⟩) Q FU [] 0 rfl t0 (by have := H.1.2.1; show _ < 1000000; omega)
def rb (rt rc : RS) : Prop := ∃ l1 l2, rp 240 rt l1 ∧ rp 240 rc l2
theorem of_l {u t c : RS} (ok : okB n T S W) (ht : lr n T lt) (hs : lr n S ls) (hw : lr n W lw) (hu : qr 120 u P) (hr : rpC t c L) (hC : crw n T S W (cm Hm X h) L) (hP : pOf n K Hm X h P) : ∀ (B : List Nat) (F : Nat) (A : List Nat) (v2 : Int64) (v4 : Int32) (rt rc : RS) (Lr : CL), P = A ++ B → v4.toInt = ((A.length : Nat) : Int) → B.length < F → rpC rt rc Lr → crw n T S W (fun b => decide (b ∈ A)) Lr → v2.toInt = LD n S W (fun b => decide (b ∈ A)) → ∃ rt' rc', l_X4_crowdIsOfThoseThatCame_12 lt ls lw u t c F v2 v4 rt rc = some (true, rt', rc') ∧ rb rt' rc' := by
  intro B
  induction B with
  | nil =>
    intro F A v2 v4 rt rc Lr e h4 hF hrr hCr h2
    cases F with
    | zero => exact absurd hF (Nat.not_lt_zero _)
    | succ F =>
      rw [List.append_nil] at e
      subst e
      have hiff : ∀ b, b < n → ((fun b => decide (b ∈ P)) b = true ↔ b < n ∧ cm Hm X h b = true) := by
        intro b hb
        rw [decide_eq_true_iff, hP.1 b, cm_t]
      have eF : ∀ y, FF n T S W (fun b => decide (b ∈ P)) y = FF n T S W (cm Hm X h) y := FF_frame (Nat.le_refl _) hiff (fun b _ _ => ⟨rfl, rfl, rfl⟩)
      have eL : Lr = L := cl_one hCr.1.1 hCr.1.2.1 hC.1.1 hC.1.2.1 (fun y => by rw [hCr.1.2.2, hC.1.2.2, eF])
      have eLD := LD_frame (S := S) (W := W) (T := T) (T' := T) (S' := S) (W' := W) (Nat.le_refl n) hiff (fun b _ _ => ⟨rfl, rfl, rfl⟩)
      subst eL
      obtain ⟨b1, f1, g1⟩ := rp_isLike hrr.1 hr.1
      obtain ⟨b2, f2, g2⟩ := rp_isLike hrr.2.1 hr.2.1
      have b1t := g1.mpr rfl
      have b2t := g2.mpr rfl
      subst b1t
      subst b2t
      obtain ⟨s, e5, e6⟩ := total_s ok hr hC.1
      have ev : v2 = s := Int64.toInt_inj.mp (by have := hC.2; omega)
      refine ⟨rt, rc, ?_, _, _, hrr.1, hrr.2.1⟩
      have hlike : f_X0_isLike rt rc t c = some true := by
        unfold f_X0_isLike
        rw [f1]
        simp only [Option.bind_some]
        rw [if_neg bIt0, f2]
        simp only [Option.bind_some]
        rw [if_neg bIt0]
      rw [l_X4_crowdIsOfThoseThatCame_12, sz_t]
      simp only [Option.bind_some]
      rw [if_pos (leI (qr_len hu) h4 (Int.le_refl _)), hlike]
      simp only [Option.bind_some]
      rw [if_neg bIt0, isLevel_s ok hr hC.1]
      simp only [Option.bind_some]
      rw [if_neg bIt0, e5]
      simp only [Option.bind_some]
      rw [ev, if_pos (by simp [lg_cmp])]
  | cons k B ih =>
    intro F A v2 v4 rt rc Lr e h4 hF hrr hCr h2
    cases F with
    | zero => exact absurd hF (Nat.not_lt_zero _)
    | succ F =>
      have hN := qr_N hu
      have hl : P.length = A.length + B.length + 1 := by rw [e]; simp; omega
      have hkP : k ∈ P := by rw [e]; simp
      obtain ⟨k1, k2, k3⟩ := (hP.1 k).mp hkP
      have okk := ok.2 k k1
      have hu' := hu
      rw [e] at hu'
      have hk := qr_b hu hkP
      have hkA : k ∉ A := fun z => by
        have := hP.2
        rw [e] at this
        have := (List.pairwise_append.mp this).2.2 k z k List.mem_cons_self
        omega
      have eT := lr_t ht k1
      have eW := lr_t hw k1
      have eS := lr_t hs k1
      obtain ⟨en, e4, e4t⟩ := end_t ok ht hs hk k1
      have hset : ∀ b, b < n → b ≠ k → (fun b => decide (b ∈ A ++ [k])) b = (fun b => decide (b ∈ A)) b := fun b _ hb => by simp [hb]
      obtain ⟨t', c', L', e6, g6, g7⟩ := enter_in (C' := fun b => decide (b ∈ A ++ [k])) ok hrr hCr k1 eT e4t eW hset (decide_eq_false hkA) (decide_eq_true (by simp))
      have eLD := LD_set (S := S) (W := W) (C := fun b => decide (b ∈ A)) (C' := fun b => decide (b ∈ A ++ [k])) k1 hset (decide_eq_false hkA) (decide_eq_true (by simp))
      have hmul : (W k : Int) * (S k : Int) ≤ 4500 ∧ 0 ≤ (W k : Int) * (S k : Int) := by
        have a1 : W k * S k ≤ 9 * 500 := Nat.mul_le_mul okk.2.2.2 okk.2.1
        have a2 : ((W k * S k : Nat) : Int) = (W k : Int) * (S k : Int) := by simp
        omega
      have eM : ((iz ((W k : Nat) : Int)) * (iz ((S k : Nat) : Int))).toInt = (W k : Int) * (S k : Int) := by
        rw [tm (by rw [eW, eS]; omega) (by rw [eW, eS]; omega), eW, eS]
      have hbd : 0 ≤ LD n S W (fun b => decide (b ∈ A)) ∧ LD n S W (fun b => decide (b ∈ A)) ≤ n * 4500 := by
        constructor
        · exact sm_nn (fun b hb => by
            split
            · have a2 : ((W b * S b : Nat) : Int) = (W b : Int) * (S b : Int) := by simp
              omega
            · omega)
        · exact sm_bd (fun b hb => by
            have o := ok.2 b hb
            split
            · have a1 : W b * S b ≤ 9 * 500 := Nat.mul_le_mul o.2.2.2 o.2.1
              have a2 : ((W b * S b : Nat) : Int) = (W b : Int) * (S b : Int) := by simp
              omega
            · omega)
      have hn := ok.1
      have ev : (v2 + ((iz ((W k : Nat) : Int)) * (iz ((S k : Nat) : Int))).toInt64).toInt = LD n S W (fun b => decide (b ∈ A ++ [k])) := by
        have e9 : (((iz ((W k : Nat) : Int)) * (iz ((S k : Nat) : Int))).toInt64).toInt = (W k : Int) * (S k : Int) := by rw [Int32.toInt_toInt64, eM]
        rw [ta6 (by rw [e9, h2]; omega) (by rw [e9, h2]; omega), e9, h2, eLD]
      rw [l_X4_crowdIsOfThoseThatCame_12, sz_t]
      simp only [Option.bind_some]
      rw [if_neg (nleI (qr_len hu) h4 (by omega)), qr_get hu' h4]
      simp only [Option.bind_some]
      rw [lr_get hw hk k1]
      simp only [Option.bind_some]
      rw [lr_get ht hk k1]
      simp only [Option.bind_some]
      rw [e4]
      simp only [Option.bind_some]
      rw [e6]
      simp only [Option.bind_some]
      rw [lr_get hs hk k1]
      simp only [Option.bind_some]
      exact ih F (A ++ [k]) _ _ t' c' L' (by rw [e]; simp) (by rw [inc_t h4 (by omega)]; simp) (by simp at hF; omega) g6 g7 ev
theorem of_s {z cv : Int32} {q u t c rt rc : RS} {ck : Nat} (ok : okB n T S W) (ht : lr n T lt) (hs : lr n S ls) (hw : lr n W lw) (H : HS n T S W Hm X K h ck Q P L z q u t c cv) (hb : rb rt rc) : ∃ rt' rc', f_X4_crowdIsOfThoseThatCame lt ls lw rt rc u t c = some (true, rt', rc') ∧ rb rt' rc' := by
  obtain ⟨l1, l2, r1, r2⟩ := hb
  obtain ⟨rt1, e1, g1⟩ := rp_clear r1
  obtain ⟨rc1, e2, g2⟩ := rp_clear r2
  have hz : ∀ (f : Nat → Int), sm n (fun b => if decide (b ∈ ([] : List Nat)) = true then f b else 0) = 0 := fun f => sm_0 (fun b _ => by simp)
  obtain ⟨rt', rc', e3, g3⟩ := of_l ok ht hs hw H.2.2.2.1.2.1 H.2.2.2.1.2.2 H.1.2.2.2.2 H.1.2.2.1 P FU [] 0 0 rt1 rc1 [] rfl t0 (by have := (qr_N H.2.2.2.1.2.1).1; show _ < 1000000; omega) ⟨g1, g2, fun p hp => (nomatch hp)⟩ ⟨⟨trivial, fun p hp => (nomatch hp), fun y => (hz _).symm⟩, by rw [show LD n S W (fun b => decide (b ∈ ([] : List Nat))) = 0 from hz _]; rfl⟩ (by rw [show LD n S W (fun b => decide (b ∈ ([] : List Nat))) = 0 from hz _]; exact t06)
  refine ⟨rt', rc', ?_, g3⟩
  unfold f_X4_crowdIsOfThoseThatCame f_X0_clear
  rw [e1]
  simp only [Option.bind_some]
  rw [e2]
  simp only [Option.bind_some]
  exact e3
theorem seq_l {q q2 : RS} {Q2 : List Nat} {v3 : Int32} (ht : lr n T lt) (hq : qr 48 q Q) (hq2 : qr 48 q2 Q2) (hn : ∀ b ∈ Q, b < n) (hn2 : ∀ b ∈ Q2, b < n) (hd : ∀ b ∈ Q, ∀ c ∈ Q2, b ≠ c) (hs : Q.Pairwise (ah T)) (hs2 : Q2.Pairwise (ah T)) (h3 : v3.toInt = ((Q.length + Q2.length : Nat) : Int)) : ∀ (F : Nat) (A B A2 B2 : List Nat) (v4 v5 v6 : Int32), Q = A ++ B → Q2 = A2 ++ B2 → v4.toInt = ((A.length : Nat) : Int) → v6.toInt = ((A.length + A2.length : Nat) : Int) → B.length + B2.length < F → (v5 = -1 ∨ ∃ l : Nat, v5.toInt = l ∧ l < n ∧ (∀ b ∈ B, ah T l b) ∧ ∀ b ∈ B2, ah T l b) → l_X4_standInSequence_19 lt q q2 v3 F v4 v5 v6 = some true := by
  have hN := (qr_N hq).1
  have hN2 := (qr_N hq2).1
  intro F
  induction F with
  | zero => intro A B A2 B2 v4 v5 v6 _ _ _ _ hF; exact absurd hF (Nat.not_lt_zero _)
  | succ F ih =>
    intro A B A2 B2 v4 v5 v6 e e2 h4 h6 hF hl
    have hlen : Q.length = A.length + B.length := by rw [e]; simp
    have hlen2 : Q2.length = A2.length + B2.length := by rw [e2]; simp
    have h64 : (v6 - v4).toInt = ((A2.length : Nat) : Int) := by rw [tb (by omega) (by omega)]; omega
    rw [l_X4_standInSequence_19]
    by_cases c : B.length + B2.length = 0
    · rw [if_pos (leI h3 h6 (by omega))]
    · rw [if_neg (nleI h3 h6 (by omega)), sz_t]
      simp only [Option.bind_some]
      have last : ∀ (k : Nat) (s0 : Int32) (v8 : Bool), s0.toInt = k → k < n → ((∃ l : Nat, v5.toInt = l ∧ l < n ∧ ah T l k) ∨ v5 = -1) → ∀ ko, b_X4_standInSequence_99 lt ko v3 v4 v5 v6 v8 s0 = b_X4_standInSequence_122 ko v3 v4 v6 v8 s0 := by
        intro k s0 v8 hk hkn hh ko
        unfold b_X4_standInSequence_99
        rcases hh with ⟨l, l1, l2, l3⟩ | z
        · rw [if_neg (nltI l1 t0 (by omega)), isAheadC ht l1 l2 hk hkn, decide_eq_true l3]
          simp only [Option.bind_some]
          rw [if_neg bIt0]
        · rw [if_pos (by rw [z]; decide)]
      have one : ∀ (b : Nat) (B' : List Nat), B = b :: B' → (∀ d ∈ B2, ah T b d) → b_X4_standInSequence_77 lt q q2 (fun qv4 qv5 qv6 => l_X4_standInSequence_19 lt q q2 v3 F qv4 qv5 qv6) v3 v4 v5 v6 (v6 - v4) true = some true := by
        intro b B' eB hb2
        have hbQ : b ∈ Q := by rw [e, eB]; simp
        have hq' := hq
        rw [e, eB] at hq'
        have hs' := hs
        rw [e, eB] at hs'
        unfold b_X4_standInSequence_77
        rw [if_neg bIt0, qr_get hq' h4]
        simp only [Option.bind_some]
        rw [last b _ true (qr_b hq hbQ) (hn b hbQ) (hl.symm.imp (fun ⟨l, l1, l2, l3, l4⟩ => ⟨l, l1, l2, l3 b (by rw [eB]; exact List.mem_cons_self)⟩) id)]
        unfold b_X4_standInSequence_122
        rw [if_neg bIt0]
        exact ih (A ++ [b]) B' A2 B2 _ _ _ (by rw [e, eB]; simp) e2 (by rw [inc_t h4 (by omega)]; simp) (by rw [inc_t h6 (by omega)]; simp; omega) (by rw [eB] at hF; simp at hF; omega) (Or.inr ⟨b, qr_b hq hbQ, hn b hbQ, (List.pairwise_cons.mp (pw_app hs').2.1).1, hb2⟩)
      have two : ∀ (b : Nat) (B' : List Nat), B2 = b :: B' → (∀ d ∈ B, ah T b d) → b_X4_standInSequence_77 lt q q2 (fun qv4 qv5 qv6 => l_X4_standInSequence_19 lt q q2 v3 F qv4 qv5 qv6) v3 v4 v5 v6 (v6 - v4) false = some true := by
        intro b B' eB hb2
        have hbQ : b ∈ Q2 := by rw [e2, eB]; simp
        have hq' := hq2
        rw [e2, eB] at hq'
        have hs' := hs2
        rw [e2, eB] at hs'
        unfold b_X4_standInSequence_77
        rw [if_pos bI_f, qr_get hq' h64]
        simp only [Option.bind_some]
        rw [last b _ false (qr_b hq2 hbQ) (hn2 b hbQ) (hl.symm.imp (fun ⟨l, l1, l2, l3, l4⟩ => ⟨l, l1, l2, l4 b (by rw [eB]; exact List.mem_cons_self)⟩) id)]
        unfold b_X4_standInSequence_122
        rw [if_pos bI_f]
        exact ih A B (A2 ++ [b]) B' _ _ _ e (by rw [e2, eB]; simp) (by rw [ta (by rw [t0]; omega) (by rw [t0]; omega), t0, h4]; simp) (by rw [inc_t h6 (by omega)]; simp; omega) (by rw [eB] at hF; simp at hF; omega) (Or.inr ⟨b, qr_b hq2 hbQ, hn2 b hbQ, hb2, (List.pairwise_cons.mp (pw_app hs').2.1).1⟩)
      cases hB2 : B2 with
      | nil =>
        rw [if_pos (leI (qr_len hq2) h64 (by rw [hlen2, hB2]; simp))]
        cases hB : B with
        | nil => rw [hB, hB2] at c; simp at c
        | cons b B' => exact one b B' hB (fun d hd => by rw [hB2] at hd; exact (nomatch hd))
      | cons b2 B2' =>
        have hl2 : B2.length = B2'.length + 1 := by rw [hB2]; rfl
        rw [if_neg (nleI (qr_len hq2) h64 (by omega)), sz_t]
        simp only [Option.bind_some]
        cases hB : B with
        | nil =>
          rw [if_pos (leI (qr_len hq) h4 (by rw [hlen, hB]; simp))]
          exact two b2 B2' hB2 (fun d hd => by rw [hB] at hd; exact (nomatch hd))
        | cons b B' =>
          have hl1 : B.length = B'.length + 1 := by rw [hB]; rfl
          have hbQ : b ∈ Q := by rw [e, hB]; simp
          have hbQ2 : b2 ∈ Q2 := by rw [e2, hB2]; simp
          have hq' := hq
          rw [e, hB] at hq'
          have hq2' := hq2
          rw [e2, hB2] at hq2'
          have hs' := hs
          rw [e, hB] at hs'
          have hs2' := hs2
          rw [e2, hB2] at hs2'
          rw [if_neg (nleI (qr_len hq) h4 (by omega)), qr_get hq' h4]
          simp only [Option.bind_some]
          rw [qr_get hq2' h64]
          simp only [Option.bind_some]
          rw [isAheadC ht (qr_b hq hbQ) (hn b hbQ) (qr_b hq2 hbQ2) (hn2 b2 hbQ2)]
          simp only [Option.bind_some]
          by_cases c9 : ah T b b2
          · rw [decide_eq_true c9, if_neg bIt0]
            refine one b B' hB (fun d hd9 => ?_)
            rw [hB2] at hd9
            rcases List.mem_cons.mp hd9 with z | z
            · rw [z]; exact c9
            · exact ah_tr b b2 d c9 ((List.pairwise_cons.mp (pw_app hs2').2.1).1 d z)
          · rw [decide_eq_false c9, if_pos bI_f]
            have c10 : ah T b2 b := ah_tot (hd b hbQ b2 hbQ2) c9
            refine two b2 B2' hB2 (fun d hd9 => ?_)
            rw [hB] at hd9
            rcases List.mem_cons.mp hd9 with z | z
            · rw [z]; exact c10
            · exact ah_tr b2 b d c10 ((List.pairwise_cons.mp (pw_app hs').2.1).1 d z)
theorem seq_g (lt q q2 : RS) (F : Nat) : ((f_X3_size q).bind fun g1 => ((f_X3_size q2).bind fun g2 => l_X4_standInSequence_19 lt q q2 (g1 + g2) F 0 (-1) 0)) = l_X4_standInSequence_19 lt q q2 (q.2 + q2.2) F 0 (-1) 0 := rfl
theorem seq_s {q q2 : RS} {Q2 : List Nat} {h2 : Nat} (ht : lr n T lt) (hq : qr 48 q Q) (hq2 : qr 48 q2 Q2) (hQ : qOf n T Hm X h Q) (hQ2 : qOf n T Hm X h2 Q2) (hne : h ≠ h2) : f_X4_standInSequence lt q q2 = some true := by
  have hN := (qr_N hq).1
  have hN2 := (qr_N hq2).1
  have e1 := qr_len hq
  have e2 := qr_len hq2
  unfold f_X4_standInSequence
  refine (seq_g lt q q2 FU).trans ?_
  exact seq_l ht hq hq2 (fun b hb => ((hQ.1 b).mp hb).1) (fun b hb => ((hQ2.1 b).mp hb).1) (fun b hb c hc z => by
    have h1 := ((hQ.1 b).mp hb).2.1
    have h2' := ((hQ2.1 c).mp hc).2.1
    rw [z] at h1
    omega) hQ.2 hQ2.2 (by rw [ta (by omega) (by omega)]; omega) FU [] Q [] Q2 0 (-1) 0 rfl rfl t0 t0 (by show _ < 1000000; omega) (Or.inl rfl)
end SO
theorem st_isSound {bd : Nat} {lt ls lw lh lx rt rc : RS} {zf : Nat → Int32} {qf uf tf cf : Nat → RS} {ma st : Int32} {ti sp we ho sa ca cl : Nat → Int32} (R : RQ bd lt ls lw lh lx zf qf uf tf cf ma st ti sp we ho sa ca cl) (hb : rb rt rc) : ∃ rt' rc', f_X4_isSound lt ls lw lh lx rt rc (zf 0) (qf 0) (uf 0) (tf 0) (cf 0) (zf 1) (qf 1) (uf 1) (tf 1) (cf 1) (zf 2) (qf 2) (uf 2) (tf 2) (cf 2) (zf 3) (qf 3) (uf 3) (tf 3) (cf 3) = some (true, rt', rc') ∧ rb rt' rc' := by
  obtain ⟨n, T, S, W, Hm, X, K, kst, G, hks, old⟩ := R
  obtain ⟨k0, Q0, P0, L0, H0⟩ := old 0 (by omega)
  obtain ⟨k1, Q1, P1, L1, H1⟩ := old 1 (by omega)
  obtain ⟨k2, Q2, P2, L2, H2⟩ := old 2 (by omega)
  obtain ⟨k3, Q3, P3, L3, H3⟩ := old 3 (by omega)
  obtain ⟨ok, hHm, ht, hs, hw, hh, hx, Rm, rs⟩ := G
  have h120 := Rm.1
  have hll := lr_len ht
  obtain ⟨a0, b0, o0, r0⟩ := of_s ok ht hs hw H0 hb
  obtain ⟨a1, b1, o1, r1⟩ := of_s ok ht hs hw H1 r0
  obtain ⟨a2, b2, o2, r2⟩ := of_s ok ht hs hw H2 r1
  obtain ⟨a3, b3, o3, r3⟩ := of_s ok ht hs hw H3 r2
  have s0 := split_s ht hh (nu := 0) t0 H0
  have s1 := split_s ht hh (nu := 1) t1 H1
  have s2 := split_s ht hh (nu := 2) t2 H2
  have s3 := split_s ht hh (nu := 3) rfl H3
  have w01 := seq_s ht H0.2.2.2.1.1 H1.2.2.2.1.1 H0.1.1 H1.1.1 (by omega)
  have w02 := seq_s ht H0.2.2.2.1.1 H2.2.2.2.1.1 H0.1.1 H2.1.1 (by omega)
  have w03 := seq_s ht H0.2.2.2.1.1 H3.2.2.2.1.1 H0.1.1 H3.1.1 (by omega)
  have w12 := seq_s ht H1.2.2.2.1.1 H2.2.2.2.1.1 H1.1.1 H2.1.1 (by omega)
  have w13 := seq_s ht H1.2.2.2.1.1 H3.2.2.2.1.1 H1.1.1 H3.1.1 (by omega)
  have w23 := seq_s ht H2.2.2.2.1.1 H3.2.2.2.1.1 H2.1.1 H3.1.1 (by omega)
  refine ⟨a3, b3, ?_, r3⟩
  have main : ∀ (F k : Nat) (v : Int32), v.toInt = k → k ≤ n → n - k < F → l_X4_isSound_2 lt ls lw lh lx rt rc (zf 0) (qf 0) (uf 0) (tf 0) (cf 0) (zf 1) (qf 1) (uf 1) (tf 1) (cf 1) (zf 2) (qf 2) (uf 2) (tf 2) (cf 2) (zf 3) (qf 3) (uf 3) (tf 3) (cf 3) F v = some (true, a3, b3) := by
    intro F
    induction F with
    | zero => intro k v _ _ hF; exact absurd hF (Nat.not_lt_zero _)
    | succ F ih =>
      intro k v hv hk hF
      rw [l_X4_isSound_2, szl_t]
      simp only [Option.bind_some]
      by_cases c : n ≤ k
      · rw [if_pos (leI hll hv (by omega))]
        simp only [s0, s1, s2, s3, o0, o1, o2, o3, w01, w02, w03, w12, w13, w23, Option.bind_some, if_neg bIt0, f_X4_standsWithAllOthers_0, f_X4_standsWithAllOthers_1, f_X4_standsWithAllOthers_2, f_X4_standsWithAllOthers_3]
      · rw [if_neg (nleI hll hv (by omega)), once_s (n := n) (T := T) (K := K) (Hm := Hm) (X := X) (by omega) hv (hHm k (by omega)) hx H0.2.2.2.1.1 H0.2.2.2.1.2.1 H1.2.2.2.1.1 H1.2.2.2.1.2.1 H2.2.2.2.1.1 H2.2.2.2.1.2.1 H3.2.2.2.1.1 H3.2.2.2.1.2.1 H0.1.1 H0.1.2.2.1 H1.1.1 H1.1.2.2.1 H2.1.1 H2.1.2.2.1 H3.1.1 H3.1.2.2.1]
        simp only [Option.bind_some]
        rw [if_neg bIt0]
        exact ih (k + 1) (v + 1) (inc_t hv (by omega)) (by omega) (by omega)
  exact main FU 0 0 t0 (Nat.zero_le _) (by show _ < 1000000; omega)
