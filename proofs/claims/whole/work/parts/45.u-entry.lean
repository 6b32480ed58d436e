/-! from the entry to the loop's head -/
def aF (h : Nat) (f : Nat → Nat) : Nat → Nat := fun j => if j = 0 then h else if j = 1 then f 12 else if j ≤ 12 then f (j - 1) else f j
def bF (mm : Nat) (g : Nat → Nat) : Nat → Nat := fun j => if j = 0 then mm else g j
theorem hfn_e (h : Nat) (f : Nat → Nat) : (va_up (va_up (va_up (va_up (fun _ => none) (0 : Int32).toNatClampNeg (some (f 18))) (1 : Int32).toNatClampNeg (some (f 28))) (2 : Int32).toNatClampNeg (some (f 38))) (3 : Int32).toNatClampNeg (some (f 48))) = hfn (aF h f) := by
  funext j
  show (if j = 3 then some (f 48) else if j = 2 then some (f 38) else if j = 1 then some (f 28) else if j = 0 then some (f 18) else none) = (if j < 4 then some (aF h f (18 + 10 * j)) else none)
  by_cases h4 : j < 4
  · rw [if_pos h4]
    rcases k4 h4 with rfl | rfl | rfl | rfl <;> rfl
  · rw [if_neg h4, if_neg (by omega), if_neg (by omega), if_neg (by omega), if_neg (by omega)]
def W4 (E : gE) (h : Nat) (f : Nat → Nat) : va_W := [(h, .inr (6, [.ref (f 1), .ref (f 12), .ref (f 13)])), ((f 1), .inr (4, [.ref (f 2), .ref (f 4), .ref (f 6), .ref (f 8), .ref (f 10)])), ((f 2), .inr (5, [.ref (f 3), .int 0])), ((f 3), .inl (cI E, 120, .inl (fun _ => 0))), ((f 4), .inr (5, [.ref (f 5), .int 0])), ((f 5), .inl (cI E, 120, .inl (fun _ => 0))), ((f 6), .inr (5, [.ref (f 7), .int 0])), ((f 7), .inl (cI E, 120, .inl (fun _ => 0))), ((f 8), .inr (5, [.ref (f 9), .int 0])), ((f 9), .inl (cI E, 120, .inl (fun _ => 0))), ((f 10), .inr (5, [.ref (f 11), .int 0])), ((f 11), .inl (cI E, 120, .inl (fun _ => 0))), ((f 12), .inl (cH E, 4, .inr (.inr (.inr (.inr (va_up (va_up (va_up (va_up (fun _ => none) (0 : Int32).toNatClampNeg (some (f 18))) (1 : Int32).toNatClampNeg (some (f 28))) (2 : Int32).toNatClampNeg (some (f 38))) (3 : Int32).toNatClampNeg (some (f 48)))))))), ((f 13), .inr (2, [.ref (f 14), .ref (f 16)])), ((f 14), .inr (5, [.ref (f 15), .int 0])), ((f 15), .inl (cI E, 240, .inl (fun _ => 0))), ((f 16), .inr (5, [.ref (f 17), .int 0])), ((f 17), .inl (cI E, 240, .inl (fun _ => 0))), ((f 18), .inr (3, [.int 0, .ref (f 19), .ref (f 21), .ref (f 23), .int 0])), ((f 19), .inr (5, [.ref (f 20), .int 0])), ((f 20), .inl (cI E, 48, .inl (fun _ => 0))), ((f 21), .inr (5, [.ref (f 22), .int 0])), ((f 22), .inl (cI E, 120, .inl (fun _ => 0))), ((f 23), .inr (2, [.ref (f 24), .ref (f 26)])), ((f 24), .inr (5, [.ref (f 25), .int 0])), ((f 25), .inl (cI E, 240, .inl (fun _ => 0))), ((f 26), .inr (5, [.ref (f 27), .int 0])), ((f 27), .inl (cI E, 240, .inl (fun _ => 0))), ((f 28), .inr (3, [.int 1, .ref (f 29), .ref (f 31), .ref (f 33), .int 0])), ((f 29), .inr (5, [.ref (f 30), .int 0])), ((f 30), .inl (cI E, 48, .inl (fun _ => 0))), ((f 31), .inr (5, [.ref (f 32), .int 0])), ((f 32), .inl (cI E, 120, .inl (fun _ => 0))), ((f 33), .inr (2, [.ref (f 34), .ref (f 36)])), ((f 34), .inr (5, [.ref (f 35), .int 0])), ((f 35), .inl (cI E, 240, .inl (fun _ => 0))), ((f 36), .inr (5, [.ref (f 37), .int 0])), ((f 37), .inl (cI E, 240, .inl (fun _ => 0))), ((f 38), .inr (3, [.int 2, .ref (f 39), .ref (f 41), .ref (f 43), .int 0])), ((f 39), .inr (5, [.ref (f 40), .int 0])), ((f 40), .inl (cI E, 48, .inl (fun _ => 0))), ((f 41), .inr (5, [.ref (f 42), .int 0])), ((f 42), .inl (cI E, 120, .inl (fun _ => 0))), ((f 43), .inr (2, [.ref (f 44), .ref (f 46)])), ((f 44), .inr (5, [.ref (f 45), .int 0])), ((f 45), .inl (cI E, 240, .inl (fun _ => 0))), ((f 46), .inr (5, [.ref (f 47), .int 0])), ((f 47), .inl (cI E, 240, .inl (fun _ => 0))), ((f 48), .inr (3, [.int 3, .ref (f 49), .ref (f 51), .ref (f 53), .int 0])), ((f 49), .inr (5, [.ref (f 50), .int 0])), ((f 50), .inl (cI E, 48, .inl (fun _ => 0))), ((f 51), .inr (5, [.ref (f 52), .int 0])), ((f 52), .inl (cI E, 120, .inl (fun _ => 0))), ((f 53), .inr (2, [.ref (f 54), .ref (f 56)])), ((f 54), .inr (5, [.ref (f 55), .int 0])), ((f 55), .inl (cI E, 240, .inl (fun _ => 0))), ((f 56), .inr (5, [.ref (f 57), .int 0])), ((f 57), .inl (cI E, 240, .inl (fun _ => 0)))]
def W5 (E : gE) (mm : Nat) (g : Nat → Nat) : va_W := [(mm, .inr (7, [.int 0, .int 0, .int 0, .ref (g 1), .ref (g 2), .ref (g 3), .ref (g 4), .ref (g 5), .ref (g 6), .ref (g 7), .long 0])), ((g 1), .inl (cI E, 120, .inl (fun _ => 0))), ((g 2), .inl (cI E, 120, .inl (fun _ => 0))), ((g 3), .inl (cI E, 120, .inl (fun _ => 0))), ((g 4), .inl (cI E, 120, .inl (fun _ => 0))), ((g 5), .inl (cI E, 120, .inl (fun _ => 0))), ((g 6), .inl (cI E, 120, .inl (fun _ => 0))), ((g 7), .inl (cI E, 4, .inl (fun _ => 0)))]
set_option maxRecDepth 100000 in
theorem W4_eq (E : gE) (h : Nat) (f : Nat → Nat) : W4 E h f = wB E (aF h f) ++ (wX2 E (aF h f) 2 zr zr zr zr zr ++ (wA E (aF h f) ++ (wX0 E (aF h f) 13 zr zr ++ wHl E (aF h f) (fun _ => 0) (fun _ => zr) (fun _ => zr) (fun _ => zr) (fun _ => zr) [0, 1, 2, 3]))) := by
  unfold W4
  rw [hfn_e h f]
  rfl
theorem W5_eq (E : gE) (mm : Nat) (g : Nat → Nat) : W5 E mm g = wM E (bF mm g) 0 0 0 (fun _ => 0) (fun _ => 0) (fun _ => 0) (fun _ => 0) (fun _ => 0) (fun _ => 0) (fun _ => 0) 0 := rfl
theorem pmE (M O2 O1 B L HH A R : va_W) : (((([] ++ (B ++ (L ++ (A ++ (R ++ HH))))) ++ M) ++ O1) ++ O2).Perm (M ++ (O2 ++ (O1 ++ (B ++ (L ++ (HH ++ (A ++ R))))))) := by
  have := cat_perm (f9 M O2 O1 B L HH [] [] A R) (show [3, 4, 8, 9, 5, 0, 2, 1].Perm [0, 1, 2, 3, 4, 5, 8, 9] by decide)
  simpa [cat, f9] using this
theorem goodT {ws : List Cond} (h : GoodIn wsL_law ws) : GoodIn lw_tbl ws := fun w hw => ⟨wsL_law_in w (h w hw).1, (h w hw).2⟩
theorem entK {s : State} {args : Array Value} (hts : ∀ w ∈ lw_tbl, w.before args s = true) : ∃ E : gE, va_K E.1 vwCl (tyE E) s ∧ ∀ q ∈ gStr, vk_R RX4 q.1 q.2 (sA E q.1) s := by
  obtain ⟨c0, i0, k0⟩ := u_known (C := RJ0) (T := TJ0) (N := 2) (n := 4) hts inJ0 (hts (.instantiable RJ0 4) (by decide +kernel))
  obtain ⟨c1, i1, k1⟩ := u_known (C := RJx00060) (T := TJx00060) (N := 6) (n := 6) hts inJx00060 (hts (.instantiable RJx00060 6) (by decide +kernel))
  obtain ⟨c2, i2, k2⟩ := u_known (C := RX0) (T := TX0) (N := 2) (n := 2) hts inX0 (hts _ en_i0)
  obtain ⟨c3, i3, k3⟩ := u_known (C := RX1) (T := TX1) (N := 5) (n := 5) hts inX1 (hts _ en_i1)
  obtain ⟨c4, i4, k4⟩ := u_known (C := RX2) (T := TX2) (N := 5) (n := 5) hts inX2 (hts _ en_i2)
  obtain ⟨c5, i5, k5⟩ := u_known (C := RX3) (T := TX3) (N := 2) (n := 2) hts inX3 (hts _ en_i3)
  obtain ⟨c6, i6, k6⟩ := u_known (C := RX4) (T := TX4) (N := 3) (n := 3) hts inX4 (hts _ en_i4)
  obtain ⟨c7, i7, k7⟩ := u_known (C := RX5) (T := TX5) (N := 11) (n := 11) hts inX5 (hts _ en_i5)
  obtain ⟨d1, g1⟩ := arr_of (hts _ en_ai) (fun C z => by cases z)
  obtain ⟨d2, g2⟩ := arr_obj (hts _ en_ao)
  obtain ⟨d3, g3⟩ := arr_of (hts _ en_aj) (fun C z => by cases z)
  obtain ⟨d4, g4⟩ := arr_of (hts _ en_ad) (fun C z => by cases z)
  have hs : ∀ q ∈ gStr, ∃ a, vk_R RX4 q.1 q.2 a s := fun q hq => str_of (hts _ (en_st q hq)) k6.2.1
  refine ⟨((fun k => if k = 0 then c0 else if k = 1 then c1 else if k = 2 then c2 else if k = 3 then c3 else if k = 4 then c4 else if k = 5 then c5 else if k = 6 then c6 else c7, fun k => if k = 0 then i0 else if k = 1 then i1 else if k = 2 then i2 else if k = 3 then i3 else if k = 4 then i4 else if k = 5 then i5 else if k = 6 then i6 else i7), d1, d2, d3, d4, fun i => Classical.epsilon (fun a : Nat => (Term.string RX4 i).eval #[] s none [] s = some (.ref a))), ⟨?_, ?_⟩, ?_⟩
  · intro k q hq
    match k, hq with
    | 0, hq => cases hq; exact k0
    | 1, hq => cases hq; exact k1
    | 2, hq => cases hq; exact k2
    | 3, hq => cases hq; exact k3
    | 4, hq => cases hq; exact k4
    | 5, hq => cases hq; exact k5
    | 6, hq => cases hq; exact k6
    | 7, hq => cases hq; exact k7
    | k + 8, hq => simp [vwCl] at hq
  · intro k q hq
    match k, hq with
    | 0, hq => cases hq; exact g1
    | 1, hq => cases hq; exact g2
    | 2, hq => cases hq; exact g3
    | 3, hq => cases hq; exact g4
    | k + 4, hq => simp [tyE] at hq
  · intro q hq
    obtain ⟨a, h1, h2⟩ := hs q hq
    exact ⟨h1, Classical.epsilon_spec (p := fun a : Nat => (Term.string RX4 q.1).eval #[] s none [] s = some (.ref a)) ⟨a, h2⟩⟩
set_option maxHeartbeats 4000000 in
set_option maxRecDepth 100000 in
theorem start_g {E : gE} {X : gX} {hh : List ExceptionTableEntry} {b L : Nat} {xs : Nat → Int32} (C2 : Cx E X cL_law 9 RL lw_tbl room_1 ret hh) (C : Cx E X cL_law 9 RL wsL_law room_1 ret hh) (S : Sx X b L xs) (hL : L ≤ 3584) (Z : ∀ (ws : va_W) (lv : List (Nat × Value)) (k n : Nat), k ≤ 603072 → n ≤ 7211114 → Gx E X ws 9 lv [.int 1] 2263 k n) : Gx E X [] 9 [(0, .ref b)] [] 0 0 0 := by
  refine g_new_X4 C2 inX4 en_l8 en_i4 en_n4 ⟨by decide, by decide⟩ dL_law_0 (fun h => ?_)
  refine g_dup C2 rfl dL_law_3 ?_
  refine g_callI (As := []) (n9 := 0) (st := [.ref h]) (P := []) C2 (c_X4_init E h) (goodT gL_law_X4_init) rfl rfl en_n4 en_m118 en_s4 (by decide +kernel) rfl ⟨by decide, by decide, by decide, by decide, Nat.le_of_ble_eq_true rfl⟩ rfl dL_law_4 (fun f => ?_)
  refine g_astore_n C2 (lv2 := [(1, .ref h), (0, .ref b)]) rfl (by decide) rfl dL_law_7 ?_
  refine g_new_X5 C2 inX5 en_l119 en_i5 en_n5 ⟨by decide, by decide⟩ dL_law_8 (fun mm => ?_)
  refine g_dup C2 rfl dL_law_11 ?_
  refine g_callI (As := []) (n9 := 0) (st := [.ref mm]) C2 (c_X5_init E mm) (goodT gL_law_X5_init) rfl rfl en_n5 en_m121 en_s5 (by decide +kernel) rfl ⟨by decide, by decide, by decide, by decide, Nat.le_of_ble_eq_true rfl⟩ rfl dL_law_12 (fun g => ?_)
  refine g_astore_n C2 (lv2 := [(2, .ref mm), (1, .ref h), (0, .ref b)]) rfl (by decide) rfl dL_law_15 ?_
  refine g_iconst C2 (v := 1) (by decide) dL_law_16 ?_
  refine g_newL (N := 1) C2 en_aj (by decide) (by decide) ⟨by decide, by decide⟩ dL_law_17 (fun o1 => ?_)
  refine g_astore_n C2 (lv2 := [(3, .ref o1), (2, .ref mm), (1, .ref h), (0, .ref b)]) rfl (by decide) rfl dL_law_19 ?_
  refine g_iconst C2 (v := 1) (by decide) dL_law_20 ?_
  refine g_newD (N := 1) C2 en_ad (by decide) (by decide) ⟨by decide, by decide⟩ dL_law_21 (fun o2 => ?_)
  refine g_astore C2 (lv2 := [(4, .ref o2), (3, .ref o1), (2, .ref mm), (1, .ref h), (0, .ref b)]) rfl (by decide) dL_law_23 ?_
  refine g_iconst C2 (v := 0) (by decide) dL_law_25 ?_
  refine g_istore C2 (lv2 := [(5, .int 0), (4, .ref o2), (3, .ref o1), (2, .ref mm), (1, .ref h), (0, .ref b)]) rfl (by decide) dL_law_26 ?_
  refine g_lvs [0, 5, 4, 3, 2, 1] (lv2 := lv0 b (aF h f) (bF mm g) o1 o2 0) rfl ?_
  refine g_perm (ws2 := WW E (aF h f) (bF mm g) o1 o2 (fun _ => 0) (fun _ => 0) zr zr zr zr zr zr zr (fun _ => 0) (fun _ => zr) (fun _ => zr) (fun _ => zr) (fun _ => zr) 0 0 0 (fun _ => 0) (fun _ => 0) (fun _ => 0) (fun _ => 0) (fun _ => 0) (fun _ => 0) (fun _ => 0) 0) ?_ ?_
  · show (((([] ++ W4 E h f) ++ W5 E mm g) ++ O1w E o1 (fun _ => 0)) ++ O2w E o2 (fun _ => 0)).Perm _
    rw [W4_eq E h f, W5_eq E mm g]
    unfold WW
    exact pmE _ _ _ _ _ _ _ _
  · refine g_room (k2 := 100 + 4 * 0) (n2 := 10000 + 24 * 0) (by decide) (by decide) ?_
    exact law_loop C S hL (k0 := 100) (n0 := 10000) (by decide) (by decide) Z 513 0 0 _ _ _ _ _ _ _ _ _ _ _ _ _ _ _ _ _ _ _ _ _ _ _ _ _ (by omega) (by omega) t0 RQ_0 rb_0
set_option maxHeartbeats 4000000 in
/-- YOUR PART -/
theorem whole_start {p : Program} {e : Env} {s : State} {m : MethodId} {below : List Frame} {meth : Method} {c : Code} (l : Launch) (hflags : l.flags = flags0) {b L : Nat} {xs : Nat → Int32} (hL : L ≤ 3584) (C0 : lw_At p s m meth c b L xs) : W p l e room_1 s m #[Value.ref b] below meth c s.heap [] 0 0 (lw_Z below #[Value.ref b] s) (entryFrame m ([Value.ref b] : List Value).toArray 9) := by
  obtain ⟨hx, hb, hr, hml, hown, hts, hX, hbl, hlocks, hgv⟩ := C0
  obtain ⟨E, hK, hS9⟩ := entK hts
  have hst : l.stackTraces = false := by
    show (!l.flags.contains noTraceFlag) = false
    rw [hflags]
    decide
  have hZ : Zt E (fun q => s.heap.size ≤ q) s := ⟨vx_Zqof (hts _ en_y1) (hts _ en_nT) (flat_of_before _ hgv _ en_r1) (fun a h1 h2 => absurd h1 (Nat.not_lt.mpr h2)), vx_Zqof (hts _ en_y2) (hts _ en_nT) (flat_of_before _ hgv _ en_r2) (fun a h1 h2 => absurd h1 (Nat.not_lt.mpr h2)), hS9, fun x hx => va_Nw.of rfl (hts _ (en_de x hx)), fun x hx => va_Nw.of rfl (hts _ (en_ca x hx)), fun x hx y hy hne => va_Nc.of (flat_of_before _ hgv _ (en_nc x hx y hy hne)), fun q hq => va_Nw.of rfl (hts _ (en_fn q hq)), fun q hq => va_Nw.of rfl (hts _ (en_mn q hq)), va_AO.of (hts _ en_ao)⟩
  have C2 : Cx E (p, l, e, room_1, s, m, #[Value.ref b], below, meth, c, (fun q => s.heap.size ≤ q), lw_Z below #[Value.ref b] s) cL_law 9 RL lw_tbl room_1 ret c.exceptionTable.toList := ⟨hx, hb, hml, hown, hts, rfl, hr, hlocks, hK, fun q h => h, hst, hZ, rfl⟩
  have C : Cx E (p, l, e, room_1, s, m, #[Value.ref b], below, meth, c, (fun q => s.heap.size ≤ q), lw_Z below #[Value.ref b] s) cL_law 9 RL wsL_law room_1 ret c.exceptionTable.toList := ⟨hx, hb, hml, hown, fun w h => hts w (wsL_law_in w h), rfl, hr, hlocks, hK, fun q h => h, hst, hZ, rfl⟩
  have S : Sx (p, l, e, room_1, s, m, #[Value.ref b], below, meth, c, (fun q => s.heap.size ≤ q), lw_Z below #[Value.ref b] s) b L xs := ⟨hX, hbl, Nat.not_le.mpr hbl⟩
  have Z : ∀ (ws : va_W) (lv : List (Nat × Value)) (k n : Nat), k ≤ 603072 → n ≤ 7211114 → Gx E (p, l, e, room_1, s, m, #[Value.ref b], below, meth, c, (fun q => s.heap.size ≤ q), lw_Z below #[Value.ref b] s) ws 9 lv [.int 1] 2263 k n := by
    intro ws lv k n hk hn H locs ls hP hD hS hl
    refine va_forget (fun q hq => hS.2.2 q hq) ?_
    refine W.widen hk hn ?_
    exact W.base (lw_ret (Drawn.sameBut.refl s.drawn lw_cs) hx hb hr hlocks dL_law_2263)
  have G := start_g C2 C S hL Z
  have hl := lv_entry ([.ref b]) (n := 9) (Nat.le_of_ble_eq_true rfl)
  rw [lg_entry_eq]
  exact G s.heap [] _ (fun k q h => by simp at h) ⟨fun i j p q h => by simp at h, fun k q h => by simp at h⟩ va_S.rf hl
