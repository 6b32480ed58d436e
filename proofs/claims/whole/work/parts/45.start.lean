/-! the law, from its entry -/
section ST
variable {E : gE} {X : gX} {cc : ByteArray} {nL : Nat} {own : String} {Ts : List Cond} {R0 : Room} {ret : Option FieldType} {hh : List ExceptionTableEntry} {ws wc : va_W} {lv lv2 : List (Nat × Value)} {st : List Value} {pc k n : Nat}
theorem g_newL {i9 : Int32} {N : Nat} (C : Cx E X cc nL own Ts R0 ret hh) (hm : Cond.arrayClass .long ∈ Ts) (hn9 : i9.toInt = N) (hb9 : N ≤ 1000) (hR : k + 1 ≤ R0.cells ∧ n + N ≤ R0.slots) (d : decode cc pc = .ok (.newarray .long, 2)) (kk : ∀ q : Nat, Gx E X (ws ++ [(q, .inl (cJ E, N, .inr (.inl (fun _ => 0))))]) nL lv (.ref q :: st) (pc + 2) (k + 1) (n + N)) : Gx E X ws nL lv (.int i9 :: st) pc k n := by
  obtain ⟨p, l, e, R, s, m, args, below, meth, c, A, Q⟩ := X
  obtain ⟨hx, hb, hml, ho, hts, rfl, hr, hlk, hK, hA, hst, hZ, hh9⟩ := C
  intro H locs ls hP hD hS hl
  have h0 : ¬ i9 < 0 := by rw [Int32.lt_iff_toInt_lt]; show ¬ i9.toInt < (0 : Int32).toInt; rw [show (0 : Int32).toInt = 0 from rfl]; omega
  have hcl : i9.toNatClampNeg = N := by show i9.toInt.toNat = N; omega
  refine va_newa (atype := .long) (ty := .long) (a0 := (N, .inr (.inl (fun _ => 0)))) hx hb (hts _ hm) rfl hK hP hD hS hA (fun cA => rfl) h0 hcl (by show N * 8 ≤ 536870912; omega) hR.1 hR.2 d (fun q cA H1 hK1 hP1 hD1 hS1 => ?_)
  have e1 : s.vm.findClass ("[" ++ FieldType.long.toString) = some cA := (hK1.2 4 (cA, .long) rfl).2
  have e2 : s.vm.findClass ("[" ++ FieldType.long.toString) = some (cJ E) := (hK.2 2 (cJ E, .long) rfl).2
  have e3 : cA = cJ E := Option.some.inj (e1.symm.trans e2)
  subst e3
  exact kk q H1 locs ls hP1 hD1 hS1 hl
theorem g_newD {i9 : Int32} {N : Nat} (C : Cx E X cc nL own Ts R0 ret hh) (hm : Cond.arrayClass .double ∈ Ts) (hn9 : i9.toInt = N) (hb9 : N ≤ 1000) (hR : k + 1 ≤ R0.cells ∧ n + N ≤ R0.slots) (d : decode cc pc = .ok (.newarray .double, 2)) (kk : ∀ q : Nat, Gx E X (ws ++ [(q, .inl (cD E, N, .inr (.inr (.inr (.inl (fun _ => 0))))))]) nL lv (.ref q :: st) (pc + 2) (k + 1) (n + N)) : Gx E X ws nL lv (.int i9 :: st) pc k n := by
  obtain ⟨p, l, e, R, s, m, args, below, meth, c, A, Q⟩ := X
  obtain ⟨hx, hb, hml, ho, hts, rfl, hr, hlk, hK, hA, hst, hZ, hh9⟩ := C
  intro H locs ls hP hD hS hl
  have h0 : ¬ i9 < 0 := by rw [Int32.lt_iff_toInt_lt]; show ¬ i9.toInt < (0 : Int32).toInt; rw [show (0 : Int32).toInt = 0 from rfl]; omega
  have hcl : i9.toNatClampNeg = N := by show i9.toInt.toNat = N; omega
  refine va_newa (atype := .double) (ty := .double) (a0 := (N, .inr (.inr (.inr (.inl (fun _ => 0)))))) hx hb (hts _ hm) rfl hK hP hD hS hA (fun cA => rfl) h0 hcl (by show N * 8 ≤ 536870912; omega) hR.1 hR.2 d (fun q cA H1 hK1 hP1 hD1 hS1 => ?_)
  have e1 : s.vm.findClass ("[" ++ FieldType.double.toString) = some cA := (hK1.2 4 (cA, .double) rfl).2
  have e2 : s.vm.findClass ("[" ++ FieldType.double.toString) = some (cD E) := (hK.2 3 (cD E, .double) rfl).2
  have e3 : cA = cD E := Option.some.inj (e1.symm.trans e2)
  subst e3
  exact kk q H1 locs ls hP1 hD1 hS1 hl
end ST
/-- an array's class, out of the tables -/
theorem arr_of {ty : FieldType} {s : State} {args : Array Value} (h : (Cond.arrayClass ty).before args s = true) (hn : ∀ C, ty ≠ .object C) : ∃ cA, ArrOfT s cA ty ∧ va_RA s cA ty := by
  obtain ⟨cA, kA, comp, h1, h2, h3⟩ := Cond.arrayClass_spec h
  refine ⟨cA, fun N z => ⟨(fun k h => by cases h), kA, h2, comp, h3⟩, ?_⟩
  cases ty with
  | object C => exact absurd rfl (hn C)
  | _ => exact h1
theorem arr_obj {C : String} {s : State} {args : Array Value} (h : (Cond.arrayOver (.object C)).before args s = true) : ∃ cA, ArrOfT s cA (.object C) ∧ va_RA s cA (.object C) := by
  obtain ⟨comp, cA, kA, h1, h2, h3, h4, h5⟩ := Cond.arrayOver_spec h
  exact ⟨cA, fun N z => ⟨(fun k h => by cases h), kA, h3, comp, h4⟩, kA, comp, h3, h4, h1, h5⟩
theorem str_of {own tx : String} {k : Nat} {s : State} {args : Array Value} (h : (Cond.stringRef own k tx).before args s = true) {cur : Nat} (hc : s.vm.findClass own = some cur) : ∃ a, vk_R own k tx a s := by
  obtain ⟨k9, cf, i, a, -, -, -, -, -, h6⟩ := Cond.stringRef_spec (o := none) (idx := []) hc (show (Cond.stringRef own k tx).holds #[] s none s [] = true from h)
  exact ⟨a, h, h6⟩
/-! the empty start -/
theorem rp_e (N : Nat) (h : N ≤ 1000) : rp N zr [] := ⟨rfl, Nat.zero_le _, h, fun i hi => absurd hi (Nat.not_lt_zero _)⟩
theorem qr_e (N : Nat) (h : N ≤ 1000) : qr N zr [] := ⟨rp_e N h, fun b hb => (nomatch hb)⟩
theorem lr_e (f : Nat → Nat) : lr 0 f zr := ⟨rp_e 120 (by decide), fun b hb => absurd hb (Nat.not_lt_zero _)⟩
theorem RQ_0 : RQ 0 zr zr zr zr zr (fun _ => 0) (fun _ => zr) (fun _ => zr) (fun _ => zr) (fun _ => zr) 0 0 (fun _ => 0) (fun _ => 0) (fun _ => 0) (fun _ => 0) (fun _ => 0) (fun _ => 0) (fun _ => 0) := by
  have no : ∀ {b : Nat} {P : Prop}, b < 0 → P := fun h => absurd h (Nat.not_lt_zero _)
  refine ⟨0, fun _ => 0, fun _ => 0, fun _ => 0, fun _ => 0, fun _ => 0, fun _ => 0, 0, ⟨⟨by decide, fun b h => no h⟩, fun b h => no h, lr_e _, lr_e _, lr_e _, lr_e _, lr_e _, ⟨by decide, rfl, fun b h => no h⟩, fun b h => no h, rfl⟩, Nat.le_refl _, fun j hj => ?_⟩
  refine ⟨0, [], [], [], ⟨⟨fun b => ⟨fun h => (nomatch h), fun h => no h.1⟩, List.Pairwise.nil⟩, by decide, ⟨fun b => ⟨fun h => (nomatch h), fun h => no h.1⟩, List.Pairwise.nil⟩, List.Pairwise.nil, ⟨trivial, fun p hp => (nomatch hp), fun y => rfl⟩, rfl⟩, ⟨by decide, fun b h => (nomatch h), fun b h => (nomatch h)⟩, rfl, ⟨qr_e 48 (by decide), qr_e 120 (by decide), rp_e 240 (by decide), rp_e 240 (by decide), fun p hp => (nomatch hp)⟩, rfl⟩
theorem rb_0 : rb zr zr := ⟨[], [], rp_e 240 (by decide), rp_e 240 (by decide)⟩
