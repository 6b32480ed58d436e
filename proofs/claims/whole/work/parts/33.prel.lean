/-! what class and reference hold together -/
def pt (f : Nat → Nat) (n x b : Nat) : Nat := if b = n then x else f b
theorem pt_e {f : Nat → Nat} {n x : Nat} : pt f n x n = x := if_pos rfl
theorem pt_n {f : Nat → Nat} {n x b : Nat} (h : b ≠ n) : pt f n x b = f b := if_neg h
def ups {α : Type} (f : Nat → α) (k : Nat) (v : α) : Nat → α := fun j => if j = k then v else f j
theorem ups_e {α : Type} (f : Nat → α) (k : Nat) (v : α) : ups f k v k = v := if_pos rfl
theorem ups_n {α : Type} (f : Nat → α) {k j : Nat} (v : α) (h : j ≠ k) : ups f k v j = f j := if_neg h
def GD (n : Nat) (T S W Hm X K : Nat → Nat) (kst : Nat) (lt ls lw lh lx : RS) (ma st : Int32) (ti sp we ho sa ca : Nat → Int32) : Prop := okB n T S W ∧ (∀ b, b < n → Hm b < 4 ∧ X b ≤ 2) ∧ lr n T lt ∧ lr n S ls ∧ lr n W lw ∧ lr n Hm lh ∧ lr n X lx ∧ mR n T S W Hm X ma ti sp we ho sa ∧ rS n X K kst st ca
def HS (n : Nat) (T S W Hm X K : Nat → Nat) (j ck : Nat) (Q P : List Nat) (L : CL) (z : Int32) (q u t c : RS) (cv : Int32) : Prop := HB n T S W Hm X K j Q P L ∧ CK T ck Q P ∧ z.toInt = ck ∧ hc q u t c Q P L ∧ cv.toInt = ck
def FR (n n' h : Nat) (T S W Hm X K T' S' W' Hm' X' K' : Nat → Nat) : Prop := n ≤ n' ∧ (∀ j, j ≠ h → ∀ b, b < n' → (Hm' b = j ↔ b < n ∧ Hm b = j)) ∧ ∀ b, b < n → Hm b ≠ h → T' b = T b ∧ S' b = S b ∧ W' b = W b ∧ X' b = X b ∧ K' b = K b
def RQ (bd : Nat) (lt ls lw lh lx : RS) (zf : Nat → Int32) (qf uf tf cf : Nat → RS) (ma st : Int32) (ti sp we ho sa ca cl : Nat → Int32) : Prop := ∃ n T S W Hm X K kst, GD n T S W Hm X K kst lt ls lw lh lx ma st ti sp we ho sa ca ∧ kst ≤ bd ∧ ∀ j, j < 4 → ∃ ck Q P L, HS n T S W Hm X K j ck Q P L (zf j) (qf j) (uf j) (tf j) (cf j) (cl j)
section RR
variable {n n' n2 h : Nat} {T S W Hm X K T' S' W' Hm' X' K' T2 S2 W2 Hm2 X2 K2 : Nat → Nat}
theorem FR_trans (f : FR n n' h T S W Hm X K T' S' W' Hm' X' K') (g : FR n' n2 h T' S' W' Hm' X' K' T2 S2 W2 Hm2 X2 K2) : FR n n2 h T S W Hm X K T2 S2 W2 Hm2 X2 K2 := by
  obtain ⟨f1, f2, f3⟩ := f
  obtain ⟨g1, g2, g3⟩ := g
  refine ⟨Nat.le_trans f1 g1, fun j hj b hb => ?_, fun b hb hb2 => ?_⟩
  · rw [g2 j hj b hb]
    constructor
    · intro ⟨z1, z2⟩; exact (f2 j hj b z1).mp z2
    · intro z; exact ⟨by omega, (f2 j hj b (by omega)).mpr z⟩
  · have e1 : Hm' b ≠ h := by rw [(f2 (Hm b) hb2 b (by omega)).mpr ⟨hb, rfl⟩]; exact hb2
    obtain ⟨a1, a2, a3, a4, a5⟩ := f3 b hb hb2
    obtain ⟨b1, b2, b3, b4, b5⟩ := g3 b (by omega) e1
    exact ⟨b1.trans a1, b2.trans a2, b3.trans a3, b4.trans a4, b5.trans a5⟩
/-- only what lies in the house changes -/
theorem FR_in (e1 : ∀ b, b < n → (Hm' b = Hm b ∨ (Hm b = h ∧ Hm' b = h))) (e2 : ∀ b, b < n → Hm b ≠ h → T' b = T b ∧ S' b = S b ∧ W' b = W b ∧ X' b = X b ∧ K' b = K b) : FR n n h T S W Hm X K T' S' W' Hm' X' K' := by
  refine ⟨Nat.le_refl _, fun j hj b hb => ?_, e2⟩
  rcases e1 b hb with z | ⟨z1, z2⟩
  · rw [z]; exact ⟨fun w => ⟨hb, w⟩, fun w => w.2⟩
  · rw [z1, z2]; exact ⟨fun w => absurd w.symm hj, fun w => absurd w.2.symm hj⟩
theorem HS_fr {j ck : Nat} {Q P : List Nat} {L : CL} {z cv : Int32} {q u t c : RS} (H : HS n T S W Hm X K j ck Q P L z q u t c cv) (f : FR n n' h T S W Hm X K T' S' W' Hm' X' K') (hj : j ≠ h) : HS n' T' S' W' Hm' X' K' j ck Q P L z q u t c cv := by
  obtain ⟨H1, H2, H3, H4, H5⟩ := H
  have e : ∀ b, b < n → Hm b = j → T' b = T b ∧ S' b = S b ∧ W' b = W b ∧ X' b = X b ∧ K' b = K b := fun b hb hb2 => f.2.2 b hb (by rw [hb2]; exact hj)
  exact ⟨HB_frame H1 f.1 (f.2.1 j hj) e, CK_frame H1 H2 (fun b hb hb2 => (e b hb hb2).1), H3, H4, H5⟩
theorem RL_one {kst bd : Nat} {lt ls lw lh lx : RS} {zf : Nat → Int32} {qf uf tf cf : Nat → RS} {ma st : Int32} {ti sp we ho sa ca cl cl' : Nat → Int32} (G : GD n' T' S' W' Hm' X' K' kst lt ls lw lh lx ma st ti sp we ho sa ca) (hk : kst ≤ bd) (f : FR n n' h T S W Hm X K T' S' W' Hm' X' K') (old : ∀ j, j < 4 → ∃ ck Q P L, HS n T S W Hm X K j ck Q P L (zf j) (qf j) (uf j) (tf j) (cf j) (cl j)) {ck : Nat} {Q P : List Nat} {L : CL} {z : Int32} {q u t c : RS} (new : HS n' T' S' W' Hm' X' K' h ck Q P L z q u t c (cl' h)) (hcl : ∀ j, j ≠ h → cl' j = cl j) : RQ bd lt ls lw lh lx (ups zf h z) (ups qf h q) (ups uf h u) (ups tf h t) (ups cf h c) ma st ti sp we ho sa ca cl' := by
  refine ⟨n', T', S', W', Hm', X', K', kst, G, hk, fun j hj => ?_⟩
  by_cases e : j = h
  · subst e
    rw [ups_e, ups_e, ups_e, ups_e, ups_e]
    exact ⟨ck, Q, P, L, new⟩
  · rw [ups_n _ _ e, ups_n _ _ e, ups_n _ _ e, ups_n _ _ e, ups_n _ _ e, hcl j e]
    obtain ⟨ck1, Q1, P1, L1, o⟩ := old j hj
    exact ⟨ck1, Q1, P1, L1, HS_fr o f e⟩
theorem RL_mono {bd bd' : Nat} {lt ls lw lh lx : RS} {zf : Nat → Int32} {qf uf tf cf : Nat → RS} {ma st : Int32} {ti sp we ho sa ca cl : Nat → Int32} (R : RQ bd lt ls lw lh lx zf qf uf tf cf ma st ti sp we ho sa ca cl) (hb : bd ≤ bd') : RQ bd' lt ls lw lh lx zf qf uf tf cf ma st ti sp we ho sa ca cl := by
  obtain ⟨n, T, S, W, Hm, X, K, kst, G, h1, h2⟩ := R
  exact ⟨n, T, S, W, Hm, X, K, kst, G, Nat.le_trans h1 hb, h2⟩
end RR
section MK
variable {n h kst x y w : Nat} {T S W Hm X K : Nat → Nat} {lt ls lw lh lx q : RS} {ma st p1 p2 p3 p4 nu : Int32} {ti sp we ho sa ca : Nat → Int32} {Q P : List Nat} {L : CL}
theorem make_s (ht : lr n T lt) (hs : lr n S ls) (hw : lr n W lw) (hh : lr n Hm lh) (hx : lr n X lx) (H : HB n T S W Hm X K h Q P L) (hq : qr 48 q Q) (hn : nu.toInt = h) (hh4 : h < 4) (hl : Q.length < 48) (h120 : n < 120) (h2 : p2.toInt = x) (h3 : p3.toInt = y) (h4 : p4.toInt = w) (b2 : x ≤ 9999) (b3 : y ≤ 500) (b4 : w ≤ 9) : ∃ g lt' ls' lw' lh' lx' q' Q', f_X4_make lt ls lw lh lx nu q p2 p3 p4 = some (g, lt', ls', lw', lh', lx', q') ∧ g.toInt = n ∧ lr (n + 1) (pt T n x) lt' ∧ lr (n + 1) (pt S n y) ls' ∧ lr (n + 1) (pt W n w) lw' ∧ lr (n + 1) (pt Hm n h) lh' ∧ lr (n + 1) (pt X n 0) lx' ∧ qr 48 q' Q' ∧ HB (n + 1) (pt T n x) (pt S n y) (pt W n w) (pt Hm n h) (pt X n 0) K h Q' P L ∧ Q'.length = Q.length + 1 := by
  have pn : ∀ (f : Nat → Nat) (v c : Nat), c < n → pt f n v c = f c := fun f v c hc => pt_n (by omega)
  obtain ⟨lt', e1, g1⟩ := lr_add (g := pt T n x) ht h120 h2 (by omega) (pn T x) pt_e
  obtain ⟨ls', e2, g2⟩ := lr_add (g := pt S n y) hs h120 h3 (by omega) (pn S y) pt_e
  obtain ⟨lw', e3, g3⟩ := lr_add (g := pt W n w) hw h120 h4 (by omega) (pn W w) pt_e
  obtain ⟨lh1, e4, g4⟩ := lr_add (g := pt Hm n 0) (x := 0) hh h120 t0 (by omega) (pn Hm 0) pt_e
  obtain ⟨lx1, e5, g5⟩ := lr_add (g := pt X n 0) (x := 0) hx h120 t0 (by omega) (pn X 0) pt_e
  have e6 : (lt'.2 - 1).toInt = n := by
    have := lr_len g1
    rw [tb (by rw [t1]; omega) (by rw [t1]; omega), t1]
    omega
  have H1 : HB (n + 1) (pt T n x) (pt S n y) (pt W n w) (pt Hm n (h + 1)) (pt X n 0) K h Q P L := by
    refine HB_frame H (by omega) (fun b hb => ?_) (fun b hb _ => ⟨pn T x b hb, pn S y b hb, pn W w b hb, pn X 0 b hb, rfl⟩)
    rcases lt_so hb with z | z
    · rw [pn Hm _ b z]; exact ⟨fun v => ⟨z, v⟩, fun v => v.2⟩
    · rw [z, pt_e]; exact ⟨fun v => absurd v (by omega), fun v => absurd v.1 (by omega)⟩
  obtain ⟨A, B, lh', lx', q', eQ, e7, g6, g7, g8, g9⟩ := enqueue_s g1 g4 g5 hq hn hh4 hl e6 (Nat.lt_succ_self n) (fun b hb => by
    have := ((H.1.1 b).mp hb).1
    exact ⟨by omega, by omega⟩) H1.1.2
  subst eQ
  refine ⟨_, lt', ls', lw', lh', lx', q', A ++ n :: B, ?_, e6, g1, g2, g3, lr_congr g6 (fun b hb => ?_), lr_congr g7 (fun b hb => ?_), g8, HB_in H1 hl g9 (Nat.lt_succ_self n) (fun b hb => ?_) (fun b hb => ?_), by simp; omega⟩
  · unfold f_X4_make f_X2_enter
    rw [e1]
    simp only [Option.bind_some]
    rw [e2]
    simp only [Option.bind_some]
    rw [e3]
    simp only [Option.bind_some]
    rw [e4]
    simp only [Option.bind_some]
    rw [e5]
    simp only [Option.bind_some]
    rw [sz_t]
    simp only [Option.bind_some]
    rw [e7]
    rfl
  · by_cases z : b = n
    · rw [if_pos z, z, pt_e]
    · rw [if_neg z, pt_n z, pt_n z]
  · by_cases z : b = n
    · rw [if_pos z, z, pt_e]
    · rw [if_neg z]
  · rcases lt_so hb with z | z
    · rw [pn Hm _ b z, pn Hm _ b z]
      exact ⟨fun v => Or.inl v, fun v => v.resolve_right (by omega)⟩
    · rw [z, pt_e, pt_e, pt_e]
      exact ⟨fun _ => Or.inr rfl, fun _ => ⟨rfl, rfl⟩⟩
  · rcases lt_so hb with z | z
    · rw [pn Hm _ b z, pn Hm _ b z]
    · rw [z, pt_e, pt_e, pt_e]
      exact ⟨fun v => absurd v.2 (by omega), fun v => absurd v.2 (by omega)⟩
theorem makes_s (R : mR n T S W Hm X ma ti sp we ho sa) (h120 : n < 120) (h1 : p1.toInt = h) (h2 : p2.toInt = x) (h3 : p3.toInt = y) (h4 : p4.toInt = w) : f_X5_makes ma ti sp we ho sa p1 p2 p3 p4 = some (ma + 1 - 1, ma + 1, upd ti n p2, upd sp n p3, upd we n p4, upd ho n p1, upd sa n 0) ∧ (ma + 1 - 1).toInt = n ∧ mR (n + 1) (pt T n x) (pt S n y) (pt W n w) (pt Hm n h) (pt X n 0) (ma + 1) (upd ti n p2) (upd sp n p3) (upd we n p4) (upd ho n p1) (upd sa n 0) := by
  obtain ⟨r1, r2, r3⟩ := R
  have hi : inB ma 120 = true := inB_t r2 h120
  have em : (ma + 1).toInt = ((n + 1 : Nat) : Int) := inc_t r2 (by omega)
  refine ⟨?_, ?_, by omega, em, fun b hb => ?_⟩
  · unfold f_X5_makes
    rw [if_pos hi, if_pos hi, if_pos hi, if_pos hi, if_pos hi, clampN r2]
  · rw [tb (by rw [t1]; omega) (by rw [t1]; omega), t1]
    omega
  · rcases lt_so hb with z | z
    · have hbn : b ≠ n := by omega
      rw [upd_n _ _ hbn, upd_n _ _ hbn, upd_n _ _ hbn, upd_n _ _ hbn, upd_n _ _ hbn, pt_n hbn, pt_n hbn, pt_n hbn, pt_n hbn, pt_n hbn]
      exact r3 b z
    · rw [z, upd_e, upd_e, upd_e, upd_e, upd_e, pt_e, pt_e, pt_e, pt_e, pt_e]
      exact ⟨h2, h3, h4, h1, t0⟩
/-- one is made on both sides -/
theorem mk_j (G : GD n T S W Hm X K kst lt ls lw lh lx ma st ti sp we ho sa ca) (H : HB n T S W Hm X K h Q P L) (hq : qr 48 q Q) (hn : nu.toInt = h) (hh4 : h < 4) (h1 : p1.toInt = h) (hl : Q.length < 48) (h120 : n < 120) {p2' : Int32} (h2 : p2.toInt = x) (h2' : p2'.toInt = x) (h3 : p3.toInt = y) (h4 : p4.toInt = w) (b2 : x ≤ 9999) (b3 : y ≤ 500) (b4 : 1 ≤ w ∧ w ≤ 9) : ∃ g lt' ls' lw' lh' lx' q' Q' g' ma' ti' sp' we' ho' sa', f_X4_make lt ls lw lh lx nu q p2 p3 p4 = some (g, lt', ls', lw', lh', lx', q') ∧ f_X5_makes ma ti sp we ho sa p1 p2' p3 p4 = some (g', ma', ti', sp', we', ho', sa') ∧ g.toInt = n ∧ g'.toInt = n ∧ GD (n + 1) (pt T n x) (pt S n y) (pt W n w) (pt Hm n h) (pt X n 0) K kst lt' ls' lw' lh' lx' ma' st ti' sp' we' ho' sa' ca ∧ HB (n + 1) (pt T n x) (pt S n y) (pt W n w) (pt Hm n h) (pt X n 0) K h Q' P L ∧ qr 48 q' Q' ∧ Q'.length = Q.length + 1 := by
  obtain ⟨ok, hb, lt1, ls1, lw1, lh1, lx1, R, rs⟩ := G
  obtain ⟨g, lt', ls', lw', lh', lx', q', Q', e1, e2, g1, g2, g3, g4, g5, g6, g7, g8⟩ := make_s lt1 ls1 lw1 lh1 lx1 H hq hn hh4 hl h120 h2 h3 h4 b2 b3 b4.2
  obtain ⟨f1, f2, f3⟩ := makes_s R h120 h1 h2' h3 h4
  refine ⟨g, lt', ls', lw', lh', lx', q', Q', _, _, _, _, _, _, _, e1, f1, e2, f2, ⟨⟨by omega, fun b hb9 => ?_⟩, fun b hb9 => ?_, g1, g2, g3, g4, g5, f3, fun b hb9 hx9 => ?_, rs.2⟩, g7, g6, g8⟩
  · rcases lt_so hb9 with z | z
    · have hbn : b ≠ n := by omega
      rw [pt_n hbn, pt_n hbn, pt_n hbn]; exact ok.2 b z
    · rw [z, pt_e, pt_e, pt_e]; exact ⟨b2, b3, b4⟩
  · rcases lt_so hb9 with z | z
    · have hbn : b ≠ n := by omega
      rw [pt_n hbn, pt_n hbn]; exact hb b z
    · rw [z, pt_e, pt_e]; exact ⟨hh4, by omega⟩
  · rcases lt_so hb9 with z | z
    · have hbn : b ≠ n := by omega
      rw [pt_n hbn] at hx9; exact rs.1 b z hx9
    · rw [z, pt_e] at hx9; omega
theorem FR_pt : FR n (n + 1) h T S W Hm X K (pt T n x) (pt S n y) (pt W n w) (pt Hm n h) (pt X n 0) K := by
  refine ⟨by omega, fun j hj b hb => ?_, fun b hb _ => ?_⟩
  · rcases lt_so hb with z | z
    · rw [pt_n (by omega)]; exact ⟨fun v => ⟨z, v⟩, fun v => v.2⟩
    · rw [z, pt_e]; exact ⟨fun v => absurd v.symm hj, fun v => absurd v.1 (by omega)⟩
  · have hbn : b ≠ n := by omega
    exact ⟨pt_n hbn, pt_n hbn, pt_n hbn, pt_n hbn, rfl⟩
end MK
/-- as many are made on both sides -/
theorem series_j {h sp0 x y w : Nat} {nu p1 v2 v3 v4 v5 v6 v8 : Int32} {st : Int32} {ca : Nat → Int32} {K : Nat → Nat} {kst : Nat} {P : List Nat} {L : CL} (hn : nu.toInt = h) (hh4 : h < 4) (h1 : p1.toInt = h) (h2 : v2.toInt = x) (h3 : v3.toInt = sp0) (h5 : v5.toInt = y) (h6 : v6.toInt = w) (b3 : y ≤ 500) (b4 : 1 ≤ w ∧ w ≤ 9) (bs : sp0 ≤ 500) (bx : x ≤ 9999) (v7 thc : Int32) (ck : Nat) (hck : ck ≤ x) : ∀ (m F F' i n : Nat) (T S W Hm X : Nat → Nat) (lt ls lw lh lx q : RS) (ma : Int32) (ti sp we ho sa : Nat → Int32) (Q : List Nat) (v9 w9 : Int32), GD n T S W Hm X K kst lt ls lw lh lx ma st ti sp we ho sa ca → HB n T S W Hm X K h Q P L → CK T ck Q P → qr 48 q Q → Q.length + m ≤ 48 → n + m ≤ 120 → v9.toInt = i → w9.toInt = i → v4.toInt = ((i + m : Nat) : Int) → i + m ≤ 12 → x + sp0 * (i + m - 1) ≤ 9999 → m < F → m < F' → ∃ n' T' S' W' Hm' X' lt' ls' lw' lh' lx' q' Q' ma' ti' sp' we' ho' sa', l_X4_series_97 nu v2 v3 v4 v5 v6 v8 F v9 lt ls lw lh lx q = some (.inr (v8, lt', ls', lw', lh', lx', q')) ∧ l_X5_series_182 p1 v2 v3 v4 v5 v6 v7 thc F' w9 ma ti sp we ho sa = some (v7, thc, ma', ti', sp', we', ho', sa') ∧ GD n' T' S' W' Hm' X' K kst lt' ls' lw' lh' lx' ma' st ti' sp' we' ho' sa' ca ∧ HB n' T' S' W' Hm' X' K h Q' P L ∧ CK T' ck Q' P ∧ qr 48 q' Q' ∧ FR n n' h T S W Hm X K T' S' W' Hm' X' K := by
  intro m
  induction m with
  | zero =>
    intro F F' i n T S W Hm X lt ls lw lh lx q ma ti sp we ho sa Q v9 w9 G H C hq hl hn9 e9 e9' e4 hi hx hF hF'
    cases F with
    | zero => exact absurd hF (Nat.not_lt_zero _)
    | succ F =>
      cases F' with
      | zero => exact absurd hF' (Nat.not_lt_zero _)
      | succ F' =>
        refine ⟨n, T, S, W, Hm, X, lt, ls, lw, lh, lx, q, Q, ma, ti, sp, we, ho, sa, ?_, ?_, G, H, C, hq, FR_in (fun b _ => Or.inl rfl) (fun b _ _ => ⟨rfl, rfl, rfl, rfl, rfl⟩)⟩
        · rw [l_X4_series_97, if_pos (leI e4 e9 (by simp))]
        · rw [l_X5_series_182, if_pos (leI e4 e9' (by simp))]
  | succ m ih =>
    intro F F' i n T S W Hm X lt ls lw lh lx q ma ti sp we ho sa Q v9 w9 G H C hq hl hn9 e9 e9' e4 hi hx hF hF'
    cases F with
    | zero => exact absurd hF (Nat.not_lt_zero _)
    | succ F =>
      cases F' with
      | zero => exact absurd hF' (Nat.not_lt_zero _)
      | succ F' =>
        have hm1 : sp0 * i ≤ sp0 * (i + (m + 1) - 1) := Nat.mul_le_mul_left _ (by omega)
        have hm0 : sp0 * i ≤ 9999 := by omega
        have ec : ((sp0 * i : Nat) : Int) = (sp0 : Int) * (i : Int) := by simp
        have et : (v2 + v9 * v3).toInt = ((x + sp0 * i : Nat) : Int) := by
          have em : (v9 * v3).toInt = ((sp0 * i : Nat) : Int) := by
            rw [tm (by rw [e9, h3, Int.mul_comm, ← ec]; omega) (by rw [e9, h3, Int.mul_comm, ← ec]; omega), e9, h3, Int.mul_comm, ← ec]
          rw [ta (by omega) (by omega)]
          omega
        have et' : (v2 + v3 * w9).toInt = ((x + sp0 * i : Nat) : Int) := by
          have em : (v3 * w9).toInt = ((sp0 * i : Nat) : Int) := by
            rw [tm (by rw [e9', h3, ← ec]; omega) (by rw [e9', h3, ← ec]; omega), e9', h3, ← ec]
          rw [ta (by omega) (by omega)]
          omega
        obtain ⟨g, lt1, ls1, lw1, lh1, lx1, q1, Q1, g', ma1, ti1, sp1, we1, ho1, sa1, e1, e2, e3, e4', G1, H1, hq1, hl1⟩ := mk_j G H hq hn hh4 h1 (by omega) (by omega) et et' h5 h6 (by omega) b3 b4
        have C1 : CK (pt T n (x + sp0 * i)) ck Q1 P := by
          refine ⟨C.1, fun b hb => ?_, fun b hb => ?_⟩
          · obtain ⟨z1, z2, z3⟩ := (H1.1.1 b).mp hb
            rcases lt_so z1 with z | z
            · have hbn : b ≠ n := by omega
              rw [pt_n hbn] at z2 z3 ⊢
              exact C.2.1 b ((H.1.1 b).mpr ⟨z, z2, z3⟩)
            · rw [z, pt_e]; omega
          · have := ((H.2.2.1.1 b).mp hb).1
            rw [pt_n (by omega)]; exact C.2.2 b hb
        obtain ⟨n', T', S', W', Hm', X', lt', ls', lw', lh', lx', q', Q', ma', ti', sp', we', ho', sa', r1, r2, r3, r4, r5, r6, r7⟩ := ih F F' (i + 1) (n + 1) _ _ _ _ _ lt1 ls1 lw1 lh1 lx1 q1 ma1 ti1 sp1 we1 ho1 sa1 Q1 (v9 + 1) (w9 + 1) G1 H1 C1 hq1 (by omega) (by omega) (inc_t e9 (by omega)) (inc_t e9' (by omega)) (by rw [e4]; omega) (by omega) (by rw [show i + 1 + m - 1 = i + (m + 1) - 1 by omega]; exact hx) (by omega) (by omega)
        refine ⟨n', T', S', W', Hm', X', lt', ls', lw', lh', lx', q', Q', ma', ti', sp', we', ho', sa', ?_, ?_, r3, r4, r5, r6, FR_trans FR_pt r7⟩
        · rw [l_X4_series_97, if_neg (nleI e4 e9 (by omega)), e1]
          exact r1
        · rw [l_X5_series_182, if_neg (nleI e4 e9' (by omega)), e2]
          exact r2
