/-! the law's own rows, and its world -/
abbrev O1w (E : gE) (o : Nat) (fo : Nat → Int64) : va_W := [(o, .inl (cJ E, 1, .inr (.inl fo)))]
abbrev O2w (E : gE) (o : Nat) (fd : Nat → UInt64) : va_W := [(o, .inl (cD E, 1, .inr (.inr (.inr (.inl fd)))))]
def wHk (E : gE) (a : Nat → Nat) (zf : Nat → Int32) (qf uf tf cf : Nat → RS) (k : Nat) : va_W := wX1 E a (18 + 10 * k) (nI k) (zf k) (qf k) (uf k) (tf k) (cf k)
def wHl (E : gE) (a : Nat → Nat) (zf : Nat → Int32) (qf uf tf cf : Nat → RS) : List Nat → va_W
  | [] => []
  | k :: l => wHk E a zf qf uf tf cf k ++ wHl E a zf qf uf tf cf l
def cat (f : Nat → va_W) : List Nat → va_W
  | [] => []
  | k :: l => f k ++ cat f l
theorem sw3 (x y z : va_W) : (x ++ (y ++ z)).Perm (y ++ (x ++ z)) := by
  rw [← List.append_assoc, ← List.append_assoc]
  exact List.Perm.append_right z List.perm_append_comm
theorem cat_perm (f : Nat → va_W) {l l' : List Nat} (h : l.Perm l') : (cat f l).Perm (cat f l') := by
  induction h with
  | nil => exact List.Perm.refl _
  | cons x _ ih => exact List.Perm.append_left _ ih
  | swap x y l => exact sw3 _ _ _
  | trans _ _ ih1 ih2 => exact ih1.trans ih2
section HOU
variable {E : gE} {a : Nat → Nat} {zf : Nat → Int32} {qf uf tf cf : Nat → RS}
theorem wHl_cat (l : List Nat) : wHl E a zf qf uf tf cf l = cat (wHk E a zf qf uf tf cf) l := by
  induction l with
  | nil => rfl
  | cons k l ih => show _ ++ _ = _ ++ _; rw [ih]
theorem wHl_perm {l l' : List Nat} (h : l.Perm l') : (wHl E a zf qf uf tf cf l).Perm (wHl E a zf qf uf tf cf l') := by
  rw [wHl_cat, wHl_cat]
  exact cat_perm _ h
theorem wHk_n {k j : Nat} {z : Int32} {q u t c : RS} (h : j ≠ k) : wHk E a (ups zf k z) (ups qf k q) (ups uf k u) (ups tf k t) (ups cf k c) j = wHk E a zf qf uf tf cf j := by
  unfold wHk
  rw [ups_n _ _ h, ups_n _ _ h, ups_n _ _ h, ups_n _ _ h, ups_n _ _ h]
theorem wHk_e {k : Nat} {z : Int32} {q u t c : RS} : wHk E a (ups zf k z) (ups qf k q) (ups uf k u) (ups tf k t) (ups cf k c) k = wX1 E a (18 + 10 * k) (nI k) z q u t c := by
  unfold wHk
  rw [ups_e, ups_e, ups_e, ups_e, ups_e]
theorem wHl_n {k : Nat} {z : Int32} {q u t c : RS} : ∀ {l : List Nat}, (∀ j ∈ l, j ≠ k) → wHl E a (ups zf k z) (ups qf k q) (ups uf k u) (ups tf k t) (ups cf k c) l = wHl E a zf qf uf tf cf l := by
  intro l
  induction l with
  | nil => intro _; rfl
  | cons j l ih =>
    intro h
    show _ ++ _ = _ ++ _
    rw [wHk_n (h j List.mem_cons_self), ih (fun i hi => h i (List.mem_cons_of_mem _ hi))]
/-- the places of the other houses -/
def hO (k : Nat) : List Nat := [0, 1, 2, 3].erase k
def hO2 (k o : Nat) : List Nat := (hO k).erase o
theorem k4 {k : Nat} (hk : k < 4) : k = 0 ∨ k = 1 ∨ k = 2 ∨ k = 3 := by omega
theorem hO_n {k : Nat} (hk : k < 4) : ∀ j ∈ hO k, j ≠ k := by
  rcases k4 hk with rfl | rfl | rfl | rfl <;> decide
theorem hO_p {k : Nat} (hk : k < 4) : [0, 1, 2, 3].Perm (k :: hO k) := by
  rcases k4 hk with rfl | rfl | rfl | rfl <;> decide
theorem hO2_p {k o : Nat} (hk : k < 4) (ho : o < 4) (h : k ≠ o) : [0, 1, 2, 3].Perm (k :: o :: hO2 k o) := by
  rcases k4 hk with rfl | rfl | rfl | rfl <;> rcases k4 ho with rfl | rfl | rfl | rfl <;> first | exact absurd rfl h | decide
theorem hO2_n {k o : Nat} (hk : k < 4) (ho : o < 4) : ∀ j ∈ hO2 k o, j ≠ k ∧ j ≠ o := by
  rcases k4 hk with rfl | rfl | rfl | rfl <;> rcases k4 ho with rfl | rfl | rfl | rfl <;> decide
/-- one house, with the others behind it -/
theorem hh_1 {k : Nat} (hk : k < 4) : (wHl E a zf qf uf tf cf [0, 1, 2, 3]).Perm (wX1 E a (18 + 10 * k) (nI k) (zf k) (qf k) (uf k) (tf k) (cf k) ++ wHl E a zf qf uf tf cf (hO k)) := wHl_perm (hO_p hk)
theorem hh_1u {k : Nat} (hk : k < 4) {z : Int32} {q u t c : RS} : (wX1 E a (18 + 10 * k) (nI k) z q u t c ++ wHl E a zf qf uf tf cf (hO k)).Perm (wHl E a (ups zf k z) (ups qf k q) (ups uf k u) (ups tf k t) (ups cf k c) [0, 1, 2, 3]) := by
  have h := wHl_perm (E := E) (a := a) (zf := ups zf k z) (qf := ups qf k q) (uf := ups uf k u) (tf := ups tf k t) (cf := ups cf k c) (hO_p hk)
  refine List.Perm.symm (h.trans ?_)
  show (wHk E a (ups zf k z) (ups qf k q) (ups uf k u) (ups tf k t) (ups cf k c) k ++ _).Perm _
  rw [wHk_e, wHl_n (hO_n hk)]
theorem hh_2 {k o : Nat} (hk : k < 4) (ho : o < 4) (h : k ≠ o) : (wHl E a zf qf uf tf cf [0, 1, 2, 3]).Perm (wX1 E a (18 + 10 * k) (nI k) (zf k) (qf k) (uf k) (tf k) (cf k) ++ (wX1 E a (18 + 10 * o) (nI o) (zf o) (qf o) (uf o) (tf o) (cf o) ++ wHl E a zf qf uf tf cf (hO2 k o))) := wHl_perm (hO2_p hk ho h)
theorem wHk_q {qf' : Nat → RS} {j : Nat} (h : qf' j = qf j) : wHk E a zf qf' uf tf cf j = wHk E a zf qf uf tf cf j := by
  unfold wHk
  rw [h]
theorem wHl_q {qf' : Nat → RS} : ∀ {l : List Nat}, (∀ j ∈ l, qf' j = qf j) → wHl E a zf qf' uf tf cf l = wHl E a zf qf uf tf cf l := by
  intro l
  induction l with
  | nil => intro _; rfl
  | cons j l ih =>
    intro h
    show _ ++ _ = _ ++ _
    rw [wHk_q (h j List.mem_cons_self), ih (fun i hi => h i (List.mem_cons_of_mem _ hi))]
theorem hh_2u {k o : Nat} (hk : k < 4) (ho : o < 4) (h : k ≠ o) {qf' : Nat → RS} (hq : ∀ j, j ≠ k → j ≠ o → qf' j = qf j) : (wX1 E a (18 + 10 * k) (nI k) (zf k) (qf' k) (uf k) (tf k) (cf k) ++ (wX1 E a (18 + 10 * o) (nI o) (zf o) (qf' o) (uf o) (tf o) (cf o) ++ wHl E a zf qf uf tf cf (hO2 k o))).Perm (wHl E a zf qf' uf tf cf [0, 1, 2, 3]) := by
  refine List.Perm.symm ((hh_2 (qf := qf') hk ho h).trans ?_)
  rw [wHl_q (qf := qf) (fun j hj => hq j (hO2_n hk ho j hj).1 (hO2_n hk ho j hj).2)]
end HOU
/-! blocks in another order -/
section PM
variable (M O2 O1 B L HH Hk Hj Hr A R : va_W)
def f9 : Nat → va_W := fun i => match i with
  | 0 => M
  | 1 => O2
  | 2 => O1
  | 3 => B
  | 4 => L
  | 5 => Hk
  | 6 => Hj
  | 7 => Hr
  | 8 => A
  | _ => R
theorem pmH {HH' : va_W} (h : HH.Perm HH') : (M ++ (O2 ++ (O1 ++ (B ++ (L ++ (HH ++ (A ++ R))))))).Perm (M ++ (O2 ++ (O1 ++ (B ++ (L ++ (HH' ++ (A ++ R))))))) :=
  List.Perm.append_left _ (List.Perm.append_left _ (List.Perm.append_left _ (List.Perm.append_left _ (List.Perm.append_left _ (List.Perm.append_right _ h)))))
/-- one house, for a wrapper -/
theorem pm1 (h : HH.Perm (Hk ++ Hr)) : (M ++ (O2 ++ (O1 ++ (B ++ (L ++ (HH ++ (A ++ R))))))).Perm ((O1 ++ (B ++ (L ++ (Hk ++ A)))) ++ (M ++ (O2 ++ (Hr ++ R)))) := by
  refine (pmH M O2 O1 B L HH A R h).trans ?_
  have := cat_perm (f9 M O2 O1 B L Hk [] Hr A R) (show [0, 1, 2, 3, 4, 5, 7, 8, 9].Perm [2, 3, 4, 5, 8, 0, 1, 7, 9] by decide)
  simpa [cat, f9] using this
theorem pm1d (h : HH.Perm (Hk ++ Hr)) : (M ++ (O2 ++ (O1 ++ (B ++ (L ++ (HH ++ (A ++ R))))))).Perm ((O2 ++ (B ++ (L ++ (Hk ++ A)))) ++ (M ++ (O1 ++ (Hr ++ R)))) := by
  refine (pmH M O2 O1 B L HH A R h).trans ?_
  have := cat_perm (f9 M O2 O1 B L Hk [] Hr A R) (show [0, 1, 2, 3, 4, 5, 7, 8, 9].Perm [1, 3, 4, 5, 8, 0, 2, 7, 9] by decide)
  simpa [cat, f9] using this
theorem pm2 (h : HH.Perm (Hk ++ (Hj ++ Hr))) : (M ++ (O2 ++ (O1 ++ (B ++ (L ++ (HH ++ (A ++ R))))))).Perm ((O1 ++ (B ++ (L ++ (Hk ++ (Hj ++ A))))) ++ (M ++ (O2 ++ (Hr ++ R)))) := by
  refine (pmH M O2 O1 B L HH A R h).trans ?_
  have := cat_perm (f9 M O2 O1 B L Hk Hj Hr A R) (show [0, 1, 2, 3, 4, 5, 6, 7, 8, 9].Perm [2, 3, 4, 5, 6, 8, 0, 1, 7, 9] by decide)
  simpa [cat, f9] using this
theorem pm0 : (M ++ (O2 ++ (O1 ++ (B ++ (L ++ (HH ++ (A ++ R))))))).Perm ((O1 ++ (B ++ A)) ++ (M ++ (O2 ++ (L ++ (HH ++ R))))) := by
  have := cat_perm (f9 M O2 O1 B L HH [] [] A R) (show [0, 1, 2, 3, 4, 5, 8, 9].Perm [2, 3, 8, 0, 1, 4, 5, 9] by decide)
  simpa [cat, f9] using this
theorem pm0d : (M ++ (O2 ++ (O1 ++ (B ++ (L ++ (HH ++ (A ++ R))))))).Perm ((O2 ++ (B ++ A)) ++ (M ++ (O1 ++ (L ++ (HH ++ R))))) := by
  have := cat_perm (f9 M O2 O1 B L HH [] [] A R) (show [0, 1, 2, 3, 4, 5, 8, 9].Perm [1, 3, 8, 0, 2, 4, 5, 9] by decide)
  simpa [cat, f9] using this
theorem pmA : (M ++ (O2 ++ (O1 ++ (B ++ (L ++ (HH ++ (A ++ R))))))).Perm ((O1 ++ (B ++ (L ++ A))) ++ (M ++ (O2 ++ (HH ++ R)))) := by
  have := cat_perm (f9 M O2 O1 B L HH [] [] A R) (show [0, 1, 2, 3, 4, 5, 8, 9].Perm [2, 3, 4, 8, 0, 1, 5, 9] by decide)
  simpa [cat, f9] using this
theorem pmC : (M ++ (O2 ++ (O1 ++ (B ++ (L ++ (HH ++ (A ++ R))))))).Perm ((B ++ (HH ++ A)) ++ (M ++ (O2 ++ (O1 ++ (L ++ R))))) := by
  have := cat_perm (f9 M O2 O1 B L HH [] [] A R) (show [0, 1, 2, 3, 4, 5, 8, 9].Perm [3, 5, 8, 0, 1, 2, 4, 9] by decide)
  simpa [cat, f9] using this
theorem pmS : (M ++ (O2 ++ (O1 ++ (B ++ (L ++ (HH ++ (A ++ R))))))).Perm ((B ++ (L ++ (HH ++ (A ++ R)))) ++ (M ++ (O2 ++ O1))) := by
  have := cat_perm (f9 M O2 O1 B L HH [] [] A R) (show [0, 1, 2, 3, 4, 5, 8, 9].Perm [3, 4, 5, 8, 9, 0, 1, 2] by decide)
  simpa [cat, f9] using this
end PM
/-! the script, the table, and calls that don't throw -/
def Sx (X : gX) (b L : Nat) (xs : Nat → Int32) : Prop := match X with
  | (_, _, _, _, s, _, _, _, _, _, A, _) => va_X b L xs s s.heap ∧ b < s.heap.size ∧ ¬ A b
section GL
variable {E : gE} {X : gX} {cc : ByteArray} {nL : Nat} {own : String} {Ts : List Cond} {R0 : Room} {ret : Option FieldType} {hh : List ExceptionTableEntry} {ws wc : va_W} {lv lv2 : List (Nat × Value)} {st : List Value} {pc k n : Nat} {b L : Nat} {xs : Nat → Int32}
theorem g_sld {i : Int32} (C : Cx E X cc nL own Ts R0 ret hh) (S : Sx X b L xs) (hin : vp_in i L) (d : decode cc pc = .ok (.iaload, 1)) (kk : Gx E X ws nL lv (.int (xs i.toNatClampNeg) :: st) (pc + 1) k n) : Gx E X ws nL lv (.int i :: .ref b :: st) pc k n := by
  obtain ⟨p, l, e, R, s, m, args, below, meth, c, A, Q⟩ := X
  obtain ⟨hx, hb, hml, ho, hts, rfl, hr, hlk, hK, hA, hst, hZ, hh9⟩ := C
  obtain ⟨s1, s2, s3⟩ := S
  intro H locs ls hP hD hS hl
  exact va_sld hx hb s1 s2 s3 hS hin d (kk H locs ls hP hD hS hl)
theorem g_slen (C : Cx E X cc nL own Ts R0 ret hh) (S : Sx X b L xs) (d : decode cc pc = .ok (.arraylength, 1)) (kk : Gx E X ws nL lv (.int (Int32.ofNat L) :: st) (pc + 1) k n) : Gx E X ws nL lv (.ref b :: st) pc k n := by
  obtain ⟨p, l, e, R, s, m, args, below, meth, c, A, Q⟩ := X
  obtain ⟨hx, hb, hml, ho, hts, rfl, hr, hlk, hK, hA, hst, hZ, hh9⟩ := C
  obtain ⟨s1, s2, s3⟩ := S
  intro H locs ls hP hD hS hl
  exact va_slen hx hb s1 s2 s3 hS d (kk H locs ls hP hD hS hl)
theorem g_tabO {dflt lo hi : Int} {offs : Array Int} {len tgt : Nat} {x : Int32} (C : Cx E X cc nL own Ts R0 ret hh) (d : decode cc pc = .ok (.tableswitch dflt lo hi offs, len)) (h : x.toInt < lo ∨ hi < x.toInt) (ht : (pc : Int) + dflt = (tgt : Int)) (kk : Gx E X ws nL lv st tgt k n) : Gx E X ws nL lv (.int x :: st) pc k n := by
  obtain ⟨p, l, e, R, s, m, args, below, meth, c, A, Q⟩ := X
  obtain ⟨hx, hb, hml, ho, hts, rfl, hr, hlk, hK, hA, hst, hZ, hh9⟩ := C
  intro H locs ls hP hD hS hl
  exact lv_tableOut hx hb d h ht (kk H locs ls hP hD hS hl)
theorem g_tabI {dflt lo hi : Int} {offs : Array Int} {len tgt : Nat} {x : Int32} {off : Int} (C : Cx E X cc nL own Ts R0 ret hh) (d : decode cc pc = .ok (.tableswitch dflt lo hi offs, len)) (h1 : ¬ x.toInt < lo) (h2 : ¬ hi < x.toInt) (ho9 : offs[(x.toInt - lo).toNat]? = some off) (ht : (pc : Int) + off = (tgt : Int)) (kk : Gx E X ws nL lv st tgt k n) : Gx E X ws nL lv (.int x :: st) pc k n := by
  obtain ⟨p, l, e, R, s, m, args, below, meth, c, A, Q⟩ := X
  obtain ⟨hx, hb, hml, ho, hts, rfl, hr, hlk, hK, hA, hst, hZ, hh9⟩ := C
  intro H locs ls hP hD hS hl
  exact lv_tableIn hx hb d h1 h2 ho9 ht (kk H locs ls hP hD hS hl)
theorem g_lvs (is : List Nat) (hs : lv_pick lv is = lv2) (kk : Gx E X ws nL lv2 st pc k n) : Gx E X ws nL lv st pc k n := by
  obtain ⟨p, l, e, R, s, m, args, below, meth, c, A, Q⟩ := X
  intro H locs ls hP hD hS hl
  exact kk H locs ls hP hD hS (lv_sub hl is hs)
theorem g_room {k2 n2 : Nat} (hk : k ≤ k2) (hn : n ≤ n2) (kk : Gx E X ws nL lv st pc k2 n2) : Gx E X ws nL lv st pc k n := by
  obtain ⟨p, l, e, R, s, m, args, below, meth, c, A, Q⟩ := X
  intro H locs ls hP hD hS hl
  exact W.widen hk hn (kk H locs ls hP hD hS hl)
theorem g_callSL {index maxL : Nat} {y : MethodName} {bytes : ByteArray} {retY : Option FieldType} {hhY : List (Nat × Nat × Nat × Nat)} {wsY wsY' : List Cond} {rmY : Room} {As : List Value} {n9 : Nat} {u0 : Int32 × va_W} {S : va_W} (C : Cx E X cc nL own Ts R0 ret hh) (hM : Ct E y wsY rmY As wc (gO (fun u : Int32 × va_W => some (.int u.1)) (fun u => u.2) (.inr u0))) (hG : GoodIn Ts (va_wsS own index y wsY)) (hw : wsY = Cond.codeWith y bytes maxL retY hhY :: wsY') (hd : y.cls ≠ "java/lang/invoke/MethodHandle" ∧ y.cls ≠ "java/lang/invoke/VarHandle" ∧ (parseMethodDescriptor y.desc).map (fun d => d.parameters.length) = some n9) (hn9 : As.length = n9) (hR : rmY.frames + 1 ≤ R0.frames ∧ 8 + (maxL + 11) + rmY.locals ≤ R0.locals ∧ k + rmY.cells ≤ R0.cells ∧ n + rmY.slots ≤ R0.slots ∧ (st.map fun v => v.category).sum ≤ 8) (hp : ws.Perm (wc ++ S)) (d : decode cc pc = .ok (.invokestatic index, 3))
    (kk : Gx E X (u0.2 ++ S) nL lv (.int u0.1 :: st) (pc + 3) (k + rmY.cells) (n + rmY.slots)) : Gx E X ws nL lv (As.reverse ++ st) pc k n := by
  refine g_perm hp ?_
  obtain ⟨p, l, e, R, s, m, args, below, meth, c, A, Q⟩ := X
  obtain ⟨hx, hb, hml, ho, hts, rfl, hr, hlk, hK, hA, hst, hZ, hh9⟩ := C
  intro H locs ls hP hD hS hl
  have hs9 : gSub (wc ++ S) wc (fun w => w ++ S) := gSub.pre rfl
  obtain ⟨hbl, hpre⟩ := g_start hs9 hP hD hS hK hA hZ As
  have hF := gSub_A hs9 hD hS hA
  have cw := vx_cwSW (hh := hhY) (s := s) (args := args) (R := R) (own := own) (index := index) (y := y) (bytes := bytes) (maxL := maxL) (ret := retY) (rm := rmY) (mc := rmY.cells) (ms := rmY.slots) n9 hts hG hw rfl rfl hd ⟨hR.1, hR.2.1⟩
  have hrun := vx_runSX (hh := hhY) (e := e) (below := below) (meth := meth) (locs := locs) (R := R) (H := H) (As := As) (rest := st) (g := F0 m pc ls (As.reverse ++ st)) ⟨hx, hb, hml, ho, hts⟩ (hM.2 l hst H.size) cw ⟨hbl, hpre⟩ rfl hn9 hl.1 rfl (by simpa [JFrame.monitorRoom] using hR.2.2.2.2) d ⟨hR.2.2.1, hR.2.2.2.1⟩
  intro T hT XT
  rcases hrun T hT XT with ⟨v, st₀, t, T', L, h0, X', hL, e1, e2, ⟨⟨v', w1, eo, eoc, hP1⟩, hFr⟩, stp⟩ | ⟨q, st₀, t, T', L, Ex, ce, h0, X', hL, e1, e2, ⟨eo, hP1, hFr⟩, hce, hcv, hcl, stp⟩
  · have eo : (Sum.inr (some (.int u0.1), u0.2) : String ⊕ (Option Value × va_W)) = .inr (v', w1) := eo
    have ew : w1 = u0.2 := (congrArg Prod.snd (Sum.inr.inj eo)).symm
    have ev : v' = some (.int u0.1) := (congrArg Prod.fst (Sum.inr.inj eo)).symm
    subst ew
    subst ev
    have ev2 : v = some (.int u0.1) := by injection eoc
    subst ev2
    obtain ⟨k1, k2, k3⟩ := vx_keep h0 e1 hS (fun q _ h => hF q h) hF hL hFr
    have had : gAd u0.2 = gAd wc := hM.1 _ _ rfl
    rw [← e1] at hP1
    have hPn := gSub_P (E := E) hs9 hP hD k2 had hP1
    have hDn := gAd_D (hs9.2.2.1 u0.2 had) hD
    obtain ⟨t2, a1, b1⟩ := kk T'.heap (locs ++ L) ls hPn hDn k3 hl T' rfl X'
    exact ⟨t2, stp t2 a1, b1⟩
  · exact absurd (show (Sum.inr (some (.int u0.1), u0.2) : String ⊕ (Option Value × va_W)) = .inl Ex from eo) (by simp)
theorem g_callVL {α : Type} {index maxL : Nat} {y : MethodName} {bytes : ByteArray} {retY : Option FieldType} {wsY wsY' : List Cond} {rmY : Room} {As : List Value} {n9 : Nat} {C9 : String} {b9 : Nat} {fs : List Value} {T9 : u_T} {N9 ci : Nat} {V : α → Value} {wr : α → va_W} {a : α} {S : va_W} (C : Cx E X cc nL own Ts R0 ret hh) (hM : Ct E y wsY rmY (.ref b9 :: As) wc (gO (fun a => some (V a)) wr (.inr a))) (hG : GoodIn Ts (wsV own index C9 y wsY)) (hw : wsY = Cond.code y bytes maxL retY :: wsY') (hd : y.cls = C9 ∧ y.cls ≠ "java/lang/invoke/MethodHandle" ∧ y.cls ≠ "java/lang/invoke/VarHandle" ∧ (parseMethodDescriptor y.desc).map (fun d => d.parameters.length) = some n9) (hn9 : As.length = n9) (hR : rmY.frames + 1 ≤ R0.frames ∧ 8 + (maxL + 11) + rmY.locals ≤ R0.locals ∧ k + rmY.cells ≤ R0.cells ∧ n + rmY.slots ≤ R0.slots ∧ (st.map fun v => v.category).sum ≤ 8) (qb : Nat) (hb0 : wc[qb]? = some (b9, .inr (ci, fs))) (hci : vwCl[ci]? = some (C9, T9, N9)) (hp : ws.Perm (wc ++ S)) (d : decode cc pc = .ok (.invokevirtual index, 3))
    (kk : Gx E X (wr a ++ S) nL lv (V a :: st) (pc + 3) (k + rmY.cells) (n + rmY.slots)) : Gx E X ws nL lv (As.reverse ++ .ref b9 :: st) pc k n := by
  refine g_perm hp ?_
  refine g_callX (w2 := fun a => wr a ++ S) C hM hG hw hd hn9 hR qb hb0 hci (gSub.pre rfl) (fun _ => rfl) d (fun x hx => nomatch hx) (fun a9 ha => ?_)
  cases ha
  exact kk
end GL
/-- THE LAW'S WORLD: the reference, the two arrays of answers, the class's object and all that it holds -/
def WW (E : gE) (a b : Nat → Nat) (o1 o2 : Nat) (fo : Nat → Int64) (fd : Nat → UInt64) (lt ls lw lh lx rt rc : RS) (zf : Nat → Int32) (qf uf tf cf : Nat → RS) (th ma st : Int32) (ti sp we ho sa ca cl : Nat → Int32) (su : Int64) : va_W := wM E b th ma st ti sp we ho sa ca cl su ++ (O2w E o2 fd ++ (O1w E o1 fo ++ (wB E a ++ (wX2 E a 2 lt ls lw lh lx ++ (wHl E a zf qf uf tf cf [0, 1, 2, 3] ++ (wA E a ++ wX0 E a 13 rt rc))))))
