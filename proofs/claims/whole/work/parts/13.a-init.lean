/-! constructors: rows, and the form of their contract -/
abbrev zr : RS := ((fun _ => 0), 0)
/-- a constructor's contract: the fresh cells' addresses come as a function -/
def Ci (E : gE) (y : MethodName) (ws : List Cond) (rm : Room) (argv : List Value) (wc : va_W) (W1 : (Nat → Nat) → va_W) : Prop :=
  ∀ l : Launch, l.stackTraces = false → ∀ sz : Nat, vx_Met l y ws rm (gPre E argv wc sz) (fun _ st oc t => (∃ f : Nat → Nat, oc = .returned none ∧ va_P E.1 vwCl (W1 f) t.heap ∧ va_D (va_A wc sz) (W1 f)) ∧ va_F (va_A wc sz) st t) (fun _ _ _ => False) rm.cells rm.slots (va_A wc sz)
def gQi (E : gE) (X : gX) (wc : va_W) (rm : Room) (W1 : (Nat → Nat) → va_W) : Prop := match X with
  | (_, _, _, _, s, _, args, below, meth, _, A, Q) => Q = vx_MQ below (fun _ st oc t => (∃ f : Nat → Nat, oc = .returned none ∧ va_P E.1 vwCl (W1 f) t.heap ∧ va_D (va_A wc s.heap.size) (W1 f)) ∧ va_F (va_A wc s.heap.size) st t) (fun _ _ _ => False) args s rm.cells rm.slots (va_A wc s.heap.size) ∧ A = va_A wc s.heap.size ∧ meth.name = "<init>"
theorem Ci.of {E : gE} {y : MethodName} {ws ws' : List Cond} {rm : Room} {argv : List Value} {wc : va_W} {W1 : (Nat → Nat) → va_W} {cc : ByteArray} {nL : Nat} {own : String} {lv : List (Nat × Value)} (hy : plainName y.cls = true) (hown : y.cls = own) (hw : ws = Cond.code y cc nL none :: ws')
    (hlen : (lg_sl argv).length ≤ nL) (hlv : lv_args 0 argv = lv) (hnm : y.name = "<init>")
    (body : ∀ X : gX, Cx E X cc nL own ws rm none [] → gQi E X wc rm W1 → Gx E X wc nL lv [] 0 0 0) : Ci E y ws rm argv wc W1 := by
  intro l hl sz
  refine vx_ofW (cc := cc) (maxL := nL) (ret := none) hy hw ?_
  intro p e s m args below meth c s₁ B hml hT hv
  obtain ⟨rfl, hsz, hP, hK, hD, hZ⟩ := hv
  subst hsz
  have hts := atoms_spec (ws := ws) B.pre
  have ho : s.vm.findClass own = some m.cls := by rw [← hown]; exact findClass_of_methodNamed B.named
  have hh : c.exceptionTable.toList = [] := by
    cases hc : c.exceptionTable.toList with
    | nil => rfl
    | cons x xs => exact (hT x (by rw [hc]; exact List.mem_cons_self)).elim
  have hin : meth.name = "<init>" := by rw [← hnm]; exact (name_of_methodNamed B.named B.method).1
  have k := body (p, l, e, (headSpec ws rm).room, s, m, argv.toArray, below, meth, c, va_A wc s.heap.size, _) ⟨B.exec, B.bytes, hml, ho, hts, rfl, B.returns, B.notSynchronized, hK, fun q h => Or.inr h, hl, hZ, hh⟩ ⟨rfl, rfl, hin⟩
  have hl2 := lv_entry argv (n := nL) hlen
  rw [hlv] at hl2
  rw [lg_entry_eq]
  exact k s.heap [] _ hP hD.self va_S.rf hl2
section GI
variable {E : gE} {X : gX} {cc : ByteArray} {nL : Nat} {own : String} {Ts : List Cond} {R0 : Room} {ret : Option FieldType} {hh : List ExceptionTableEntry} {ws wc : va_W} {lv lv2 : List (Nat × Value)} {st : List Value} {pc k n : Nat} {rm : Room} {W1 : (Nat → Nat) → va_W}
theorem g_cend (f : Nat → Nat) (C : Cx E X cc nL own Ts R0 none hh) (hQ : gQi E X wc rm W1) (hw9 : ws = W1 f) (hc : k ≤ rm.cells ∧ n ≤ rm.slots) (d : decode cc pc = .ok (.return_, 1)) : Gx E X ws nL lv [] pc k n := by
  obtain ⟨p, l, e, R, s, m, args, below, meth, c, A, Q⟩ := X
  obtain ⟨hx, hb, hml, hw, hts, rfl, hr, hlk, hK, hA, hst, hZ, hh9⟩ := C
  obtain ⟨rfl, rfl, hin⟩ := hQ
  subst hw9
  intro H locs ls hP hD hS hl
  exact W.widen hc.1 hc.2 (vx_ret (W.vret hx hb hr (fun t ht hW => ⟨⟨f, rfl, by rw [ht]; exact hP, hD⟩, hS.F ht⟩) hS.2.2 d hlk))
theorem g_objInit {a index : Nat} (C : Cx E X cc nL own Ts R0 ret hh) (hm1 : Cond.methodLink own index objectInit ∈ Ts) (hm2 : Cond.instanceMethod objectInit ∈ Ts) (hm3 : Cond.code objectInit ⟨#[0xb1]⟩ 1 none ∈ Ts) (hR : 1 ≤ R0.frames ∧ (st.map fun v => v.category).sum + 12 ≤ R0.locals) (d : decode cc pc = .ok (.invokespecial index, 3)) (kk : Gx E X ws nL lv st (pc + 3) k n) : Gx E X ws nL lv (.ref a :: st) pc k n := by
  obtain ⟨p, l, e, R, s, m, args, below, meth, c, A, Q⟩ := X
  obtain ⟨hx, hb, hml, ho, hts, rfl, hr, hlk, hK, hA, hst, hZ, hh9⟩ := C
  intro H locs ls hP hD hS hl
  exact W.objInit hx hb ho (hts _ hm1) (hts _ hm2) (hts _ hm3) (g := F0 m pc ls (.ref a :: st)) rfl (hl.1.trans hml.symm) rfl d hR.1 (by simpa [JFrame.monitorRoom] using hR.2) (kk H locs ls hP hD hS hl)
theorem g_newa {i9 : Int32} {N : Nat} (C : Cx E X cc nL own Ts R0 ret hh) (hm : Cond.arrayClass .int ∈ Ts) (hn9 : i9.toInt = N) (hb9 : N ≤ 1000) (hR : k + 1 ≤ R0.cells ∧ n + N ≤ R0.slots) (d : decode cc pc = .ok (.newarray .int, 2)) (kk : ∀ q : Nat, Gx E X (ws ++ [(q, .inl (cI E, N, .inl (fun _ => 0)))]) nL lv (.ref q :: st) (pc + 2) (k + 1) (n + N)) : Gx E X ws nL lv (.int i9 :: st) pc k n := by
  obtain ⟨p, l, e, R, s, m, args, below, meth, c, A, Q⟩ := X
  obtain ⟨hx, hb, hml, ho, hts, rfl, hr, hlk, hK, hA, hst, hZ, hh9⟩ := C
  intro H locs ls hP hD hS hl
  have h0 : ¬ i9 < 0 := by rw [Int32.lt_iff_toInt_lt]; show ¬ i9.toInt < (0 : Int32).toInt; rw [show (0 : Int32).toInt = 0 from rfl]; omega
  have hcl : i9.toNatClampNeg = N := by show i9.toInt.toNat = N; omega
  refine va_newa (atype := .int) (ty := .int) (a0 := (N, .inl (fun _ => 0))) hx hb (hts _ hm) rfl hK hP hD hS hA (fun cA => rfl) h0 hcl (by show N * 4 ≤ 536870912; omega) hR.1 hR.2 d (fun q cA H1 hK1 hP1 hD1 hS1 => ?_)
  have e1 : s.vm.findClass ("[" ++ FieldType.int.toString) = some cA := (hK1.2 4 (cA, .int) rfl).2
  have e2 : s.vm.findClass ("[" ++ FieldType.int.toString) = some (cI E) := (hK.2 0 (cI E, .int) rfl).2
  have e3 : cA = cI E := Option.some.inj (e1.symm.trans e2)
  subst e3
  exact kk q H1 locs ls hP1 hD1 hS1 hl
theorem g_newq {i9 : Int32} {index N : Nat} (C : Cx E X cc nL RX4 Ts R0 ret hh) (hm : Cond.classLink RX4 index RX1 ∈ Ts) (hn9 : i9.toInt = N) (hb9 : N ≤ 1000) (hR : k + 1 ≤ R0.cells ∧ n + N ≤ R0.slots) (d : decode cc pc = .ok (.anewarray index, 3)) (kk : ∀ q : Nat, Gx E X (ws ++ [(q, .inl (cH E, N, .inr (.inr (.inr (.inr (fun _ => none))))))]) nL lv (.ref q :: st) (pc + 3) (k + 1) (n + N)) : Gx E X ws nL lv (.int i9 :: st) pc k n := by
  obtain ⟨p, l, e, R, s, m, args, below, meth, c, A, Q⟩ := X
  obtain ⟨hx, hb, hml, ho, hts, rfl, hr, hlk, hK, hA, hst, hZ, hh9⟩ := C
  intro H locs ls hP hD hS hl
  have h0 : ¬ i9 < 0 := by rw [Int32.lt_iff_toInt_lt]; show ¬ i9.toInt < (0 : Int32).toInt; rw [show (0 : Int32).toInt = 0 from rfl]; omega
  have hcl : i9.toNatClampNeg = N := by show i9.toInt.toNat = N; omega
  refine va_newq hx hb ho (hts _ hm) hZ.2.2.2.2.2.2.2.2 hK hP hD hS hA h0 hcl (by omega) hR.1 hR.2 d (fun q cA H1 hK1 hP1 hD1 hS1 => ?_)
  obtain ⟨kA, comp, f1, f2, f3, f4⟩ := (hK1.2 4 (cA, .object RX1) rfl).2
  obtain ⟨kA', comp', g1, g2, g3, g4⟩ := (hK.2 1 (cH E, .object RX1) rfl).2
  have e3 : cA = cH E := Option.some.inj (f4.symm.trans g4)
  subst e3
  exact kk q H1 locs ls hP1 hD1 hS1 hl
theorem g_aast {a v N : Nat} {j : Int32} {f : Nat → Option Nat} {vs : List Value} {ws2 : va_W} (C : Cx E X cc nL own Ts R0 ret hh) (q0 qk : Nat) (ha : ws[q0]? = some (a, .inl (cH E, N, .inr (.inr (.inr (.inr f)))))) (hv : ws[qk]? = some (v, .inr (3, vs))) (hw : ws.set q0 (a, .inl (cH E, N, .inr (.inr (.inr (.inr (va_up f j.toNatClampNeg (some v))))))) = ws2) (hin : vp_in j N) (d : decode cc pc = .ok (.aastore, 1)) (kk : Gx E X ws2 nL lv st (pc + 1) k n) : Gx E X ws nL lv (.ref v :: .int j :: .ref a :: st) pc k n := by
  obtain ⟨p, l, e, R, s, m, args, below, meth, c, A, Q⟩ := X
  obtain ⟨hx, hb, hml, ho, hts, rfl, hr, hlk, hK, hA, hst, hZ, hh9⟩ := C
  intro H locs ls hP hD hS hl
  subst hw
  exact va_astq hx hb hK hP hD hS q0 1 qk 3 (r := (RX1, TX1, 5)) ha rfl hv rfl hin d (fun H locs hP hD hS => kk H locs ls hP hD hS hl)
theorem g_new_X0 {index : Nat} (C : Cx E X cc nL own Ts R0 ret hh) (hin : ∀ w ∈ wsX00, w ∈ Ts) (hm1 : Cond.classLink own index RX0 ∈ Ts) (hm2 : Cond.instantiable RX0 2 ∈ Ts) (hm3 : Cond.initialized RX0 ∈ Ts) (hR : k + 1 ≤ R0.cells ∧ n + 2 ≤ R0.slots) (d : decode cc pc = .ok (.new index, 3)) (kk : ∀ q : Nat, Gx E X (ws ++ [(q, .inr (2, [.null, .null]))]) nL lv (.ref q :: st) (pc + 3) (k + 1) (n + 2)) : Gx E X ws nL lv st pc k n := by
  obtain ⟨p, l, e, R, s, m, args, below, meth, c, A, Q⟩ := X
  obtain ⟨hx, hb, hml, ho, hts, rfl, hr, hlk, hK, hA, hst, hZ, hh9⟩ := C
  intro H locs ls hP hD hS hl
  exact va_new (ci := 2) (fs := [.null, .null]) (C := RX0) (T := TX0) (N := 2) hx hb hts hin tyX0 tyX0_ok ho (hts _ hm1) (hts _ hm2) (hts _ hm3) hK hP hD hS hA rfl (fun j hj => by rcases (show j = 0 ∨ j = 1 by omega) with rfl | rfl <;> rfl) hR.1 hR.2 d (fun q H1 hP1 hD1 hS1 => kk q H1 locs ls hP1 hD1 hS1 hl)
theorem g_X0_init_times {v0 v1 : Value} {a index : Nat} {x : Nat} {ws2 wc : va_W} {rm : Room} {W1 : (Nat → Nat) → va_W} {cc : ByteArray} {nL : Nat} (C : Cx E X cc nL RX0 Ts R0 ret hh) (hQ : gQi E X wc rm W1) (hin : ∀ w ∈ wsX00, w ∈ Ts) (hm : Cond.fieldLink RX0 index "Bookinghouse$Crowd" "times" "LBookinghouse$Row;" ∈ Ts) (q0 : Nat) (he : ws[q0]? = some (a, .inr (2, [v0, v1]))) (hw : ws.set q0 (a, .inr (2, [.ref x, v1])) = ws2) (d : decode cc pc = .ok (.putfield index, 3)) (kk : Gx E X ws2 nL lv st (pc + 3) k n) : Gx E X ws nL lv (.ref x :: .ref a :: st) pc k n := by
  obtain ⟨p, l, e, R, s, m, args, below, meth, c, A, Q⟩ := X
  obtain ⟨hx, hb, hml, ho, hts, rfl, hr, hlk, hK, hA, hst, hZ, hh9⟩ := C
  have hin2 : meth.name = "<init>" := hQ.2.2
  subst hw
  intro H locs ls hP hD hS hl
  exact va_putF (D := E.1) (ty := (.object "Bookinghouse$Row")) (ci := 2) (C := RX0) (T := TX0) (N := 2) hx hb hts hin tyX0 tyX0_ok nmX0 ho hK hP hD hS q0 he rfl 0 (by decide) (hts _ hm) (fun _ h9 => h9) rfl hin2 rfl (by decide +kernel) rfl rfl (Nat.le_of_ble_eq_true rfl) d (fun H locs hP hD hS => kk H locs ls hP hD hS hl)
theorem g_X0_init_changes {v0 v1 : Value} {a index : Nat} {x : Nat} {ws2 wc : va_W} {rm : Room} {W1 : (Nat → Nat) → va_W} {cc : ByteArray} {nL : Nat} (C : Cx E X cc nL RX0 Ts R0 ret hh) (hQ : gQi E X wc rm W1) (hin : ∀ w ∈ wsX00, w ∈ Ts) (hm : Cond.fieldLink RX0 index "Bookinghouse$Crowd" "changes" "LBookinghouse$Row;" ∈ Ts) (q0 : Nat) (he : ws[q0]? = some (a, .inr (2, [v0, v1]))) (hw : ws.set q0 (a, .inr (2, [v0, .ref x])) = ws2) (d : decode cc pc = .ok (.putfield index, 3)) (kk : Gx E X ws2 nL lv st (pc + 3) k n) : Gx E X ws nL lv (.ref x :: .ref a :: st) pc k n := by
  obtain ⟨p, l, e, R, s, m, args, below, meth, c, A, Q⟩ := X
  obtain ⟨hx, hb, hml, ho, hts, rfl, hr, hlk, hK, hA, hst, hZ, hh9⟩ := C
  have hin2 : meth.name = "<init>" := hQ.2.2
  subst hw
  intro H locs ls hP hD hS hl
  exact va_putF (D := E.1) (ty := (.object "Bookinghouse$Row")) (ci := 2) (C := RX0) (T := TX0) (N := 2) hx hb hts hin tyX0 tyX0_ok nmX0 ho hK hP hD hS q0 he rfl 1 (by decide) (hts _ hm) (fun _ h9 => h9) rfl hin2 rfl (by decide +kernel) rfl rfl (Nat.le_of_ble_eq_true rfl) d (fun H locs hP hD hS => kk H locs ls hP hD hS hl)
theorem g_new_X1 {index : Nat} (C : Cx E X cc nL own Ts R0 ret hh) (hin : ∀ w ∈ wsX10, w ∈ Ts) (hm1 : Cond.classLink own index RX1 ∈ Ts) (hm2 : Cond.instantiable RX1 5 ∈ Ts) (hm3 : Cond.initialized RX1 ∈ Ts) (hR : k + 1 ≤ R0.cells ∧ n + 5 ≤ R0.slots) (d : decode cc pc = .ok (.new index, 3)) (kk : ∀ q : Nat, Gx E X (ws ++ [(q, .inr (3, [.int 0, .null, .null, .null, .int 0]))]) nL lv (.ref q :: st) (pc + 3) (k + 1) (n + 5)) : Gx E X ws nL lv st pc k n := by
  obtain ⟨p, l, e, R, s, m, args, below, meth, c, A, Q⟩ := X
  obtain ⟨hx, hb, hml, ho, hts, rfl, hr, hlk, hK, hA, hst, hZ, hh9⟩ := C
  intro H locs ls hP hD hS hl
  exact va_new (ci := 3) (fs := [.int 0, .null, .null, .null, .int 0]) (C := RX1) (T := TX1) (N := 5) hx hb hts hin tyX1 tyX1_ok ho (hts _ hm1) (hts _ hm2) (hts _ hm3) hK hP hD hS hA rfl (fun j hj => by rcases (show j = 0 ∨ j = 1 ∨ j = 2 ∨ j = 3 ∨ j = 4 by omega) with rfl | rfl | rfl | rfl | rfl <;> rfl) hR.1 hR.2 d (fun q H1 hP1 hD1 hS1 => kk q H1 locs ls hP1 hD1 hS1 hl)
theorem g_X1_init_number {v0 v1 v2 v3 v4 : Value} {a index : Nat} {x : Int32} {ws2 wc : va_W} {rm : Room} {W1 : (Nat → Nat) → va_W} {cc : ByteArray} {nL : Nat} (C : Cx E X cc nL RX1 Ts R0 ret hh) (hQ : gQi E X wc rm W1) (hin : ∀ w ∈ wsX10, w ∈ Ts) (hm : Cond.fieldLink RX1 index "Bookinghouse$House" "number" "I" ∈ Ts) (q0 : Nat) (he : ws[q0]? = some (a, .inr (3, [v0, v1, v2, v3, v4]))) (hw : ws.set q0 (a, .inr (3, [.int x, v1, v2, v3, v4])) = ws2) (d : decode cc pc = .ok (.putfield index, 3)) (kk : Gx E X ws2 nL lv st (pc + 3) k n) : Gx E X ws nL lv (.int x :: .ref a :: st) pc k n := by
  obtain ⟨p, l, e, R, s, m, args, below, meth, c, A, Q⟩ := X
  obtain ⟨hx, hb, hml, ho, hts, rfl, hr, hlk, hK, hA, hst, hZ, hh9⟩ := C
  have hin2 : meth.name = "<init>" := hQ.2.2
  subst hw
  intro H locs ls hP hD hS hl
  exact va_putF (D := E.1) (ty := .int) (ci := 3) (C := RX1) (T := TX1) (N := 5) hx hb hts hin tyX1 tyX1_ok nmX1 ho hK hP hD hS q0 he rfl 0 (by decide) (hts _ hm) (fun _ h9 => h9) rfl hin2 rfl (by decide +kernel) rfl rfl (Nat.le_of_ble_eq_true rfl) d (fun H locs hP hD hS => kk H locs ls hP hD hS hl)
theorem g_X1_init_queue {v0 v1 v2 v3 v4 : Value} {a index : Nat} {x : Nat} {ws2 wc : va_W} {rm : Room} {W1 : (Nat → Nat) → va_W} {cc : ByteArray} {nL : Nat} (C : Cx E X cc nL RX1 Ts R0 ret hh) (hQ : gQi E X wc rm W1) (hin : ∀ w ∈ wsX10, w ∈ Ts) (hm : Cond.fieldLink RX1 index "Bookinghouse$House" "queue" "LBookinghouse$Row;" ∈ Ts) (q0 : Nat) (he : ws[q0]? = some (a, .inr (3, [v0, v1, v2, v3, v4]))) (hw : ws.set q0 (a, .inr (3, [v0, .ref x, v2, v3, v4])) = ws2) (d : decode cc pc = .ok (.putfield index, 3)) (kk : Gx E X ws2 nL lv st (pc + 3) k n) : Gx E X ws nL lv (.ref x :: .ref a :: st) pc k n := by
  obtain ⟨p, l, e, R, s, m, args, below, meth, c, A, Q⟩ := X
  obtain ⟨hx, hb, hml, ho, hts, rfl, hr, hlk, hK, hA, hst, hZ, hh9⟩ := C
  have hin2 : meth.name = "<init>" := hQ.2.2
  subst hw
  intro H locs ls hP hD hS hl
  exact va_putF (D := E.1) (ty := (.object "Bookinghouse$Row")) (ci := 3) (C := RX1) (T := TX1) (N := 5) hx hb hts hin tyX1 tyX1_ok nmX1 ho hK hP hD hS q0 he rfl 1 (by decide) (hts _ hm) (fun _ h9 => h9) rfl hin2 rfl (by decide +kernel) rfl rfl (Nat.le_of_ble_eq_true rfl) d (fun H locs hP hD hS => kk H locs ls hP hD hS hl)
theorem g_X1_init_past {v0 v1 v2 v3 v4 : Value} {a index : Nat} {x : Nat} {ws2 wc : va_W} {rm : Room} {W1 : (Nat → Nat) → va_W} {cc : ByteArray} {nL : Nat} (C : Cx E X cc nL RX1 Ts R0 ret hh) (hQ : gQi E X wc rm W1) (hin : ∀ w ∈ wsX10, w ∈ Ts) (hm : Cond.fieldLink RX1 index "Bookinghouse$House" "past" "LBookinghouse$Row;" ∈ Ts) (q0 : Nat) (he : ws[q0]? = some (a, .inr (3, [v0, v1, v2, v3, v4]))) (hw : ws.set q0 (a, .inr (3, [v0, v1, .ref x, v3, v4])) = ws2) (d : decode cc pc = .ok (.putfield index, 3)) (kk : Gx E X ws2 nL lv st (pc + 3) k n) : Gx E X ws nL lv (.ref x :: .ref a :: st) pc k n := by
  obtain ⟨p, l, e, R, s, m, args, below, meth, c, A, Q⟩ := X
  obtain ⟨hx, hb, hml, ho, hts, rfl, hr, hlk, hK, hA, hst, hZ, hh9⟩ := C
  have hin2 : meth.name = "<init>" := hQ.2.2
  subst hw
  intro H locs ls hP hD hS hl
  exact va_putF (D := E.1) (ty := (.object "Bookinghouse$Row")) (ci := 3) (C := RX1) (T := TX1) (N := 5) hx hb hts hin tyX1 tyX1_ok nmX1 ho hK hP hD hS q0 he rfl 2 (by decide) (hts _ hm) (fun _ h9 => h9) rfl hin2 rfl (by decide +kernel) rfl rfl (Nat.le_of_ble_eq_true rfl) d (fun H locs hP hD hS => kk H locs ls hP hD hS hl)
theorem g_X1_init_crowd {v0 v1 v2 v3 v4 : Value} {a index : Nat} {x : Nat} {ws2 wc : va_W} {rm : Room} {W1 : (Nat → Nat) → va_W} {cc : ByteArray} {nL : Nat} (C : Cx E X cc nL RX1 Ts R0 ret hh) (hQ : gQi E X wc rm W1) (hin : ∀ w ∈ wsX10, w ∈ Ts) (hm : Cond.fieldLink RX1 index "Bookinghouse$House" "crowd" "LBookinghouse$Crowd;" ∈ Ts) (q0 : Nat) (he : ws[q0]? = some (a, .inr (3, [v0, v1, v2, v3, v4]))) (hw : ws.set q0 (a, .inr (3, [v0, v1, v2, .ref x, v4])) = ws2) (d : decode cc pc = .ok (.putfield index, 3)) (kk : Gx E X ws2 nL lv st (pc + 3) k n) : Gx E X ws nL lv (.ref x :: .ref a :: st) pc k n := by
  obtain ⟨p, l, e, R, s, m, args, below, meth, c, A, Q⟩ := X
  obtain ⟨hx, hb, hml, ho, hts, rfl, hr, hlk, hK, hA, hst, hZ, hh9⟩ := C
  have hin2 : meth.name = "<init>" := hQ.2.2
  subst hw
  intro H locs ls hP hD hS hl
  exact va_putF (D := E.1) (ty := (.object "Bookinghouse$Crowd")) (ci := 3) (C := RX1) (T := TX1) (N := 5) hx hb hts hin tyX1 tyX1_ok nmX1 ho hK hP hD hS q0 he rfl 3 (by decide) (hts _ hm) (fun _ h9 => h9) rfl hin2 rfl (by decide +kernel) rfl rfl (Nat.le_of_ble_eq_true rfl) d (fun H locs hP hD hS => kk H locs ls hP hD hS hl)
theorem g_new_X2 {index : Nat} (C : Cx E X cc nL own Ts R0 ret hh) (hin : ∀ w ∈ wsX20, w ∈ Ts) (hm1 : Cond.classLink own index RX2 ∈ Ts) (hm2 : Cond.instantiable RX2 5 ∈ Ts) (hm3 : Cond.initialized RX2 ∈ Ts) (hR : k + 1 ≤ R0.cells ∧ n + 5 ≤ R0.slots) (d : decode cc pc = .ok (.new index, 3)) (kk : ∀ q : Nat, Gx E X (ws ++ [(q, .inr (4, [.null, .null, .null, .null, .null]))]) nL lv (.ref q :: st) (pc + 3) (k + 1) (n + 5)) : Gx E X ws nL lv st pc k n := by
  obtain ⟨p, l, e, R, s, m, args, below, meth, c, A, Q⟩ := X
  obtain ⟨hx, hb, hml, ho, hts, rfl, hr, hlk, hK, hA, hst, hZ, hh9⟩ := C
  intro H locs ls hP hD hS hl
  exact va_new (ci := 4) (fs := [.null, .null, .null, .null, .null]) (C := RX2) (T := TX2) (N := 5) hx hb hts hin tyX2 tyX2_ok ho (hts _ hm1) (hts _ hm2) (hts _ hm3) hK hP hD hS hA rfl (fun j hj => by rcases (show j = 0 ∨ j = 1 ∨ j = 2 ∨ j = 3 ∨ j = 4 by omega) with rfl | rfl | rfl | rfl | rfl <;> rfl) hR.1 hR.2 d (fun q H1 hP1 hD1 hS1 => kk q H1 locs ls hP1 hD1 hS1 hl)
theorem g_X2_init_times {v0 v1 v2 v3 v4 : Value} {a index : Nat} {x : Nat} {ws2 wc : va_W} {rm : Room} {W1 : (Nat → Nat) → va_W} {cc : ByteArray} {nL : Nat} (C : Cx E X cc nL RX2 Ts R0 ret hh) (hQ : gQi E X wc rm W1) (hin : ∀ w ∈ wsX20, w ∈ Ts) (hm : Cond.fieldLink RX2 index "Bookinghouse$Ledger" "times" "LBookinghouse$Row;" ∈ Ts) (q0 : Nat) (he : ws[q0]? = some (a, .inr (4, [v0, v1, v2, v3, v4]))) (hw : ws.set q0 (a, .inr (4, [.ref x, v1, v2, v3, v4])) = ws2) (d : decode cc pc = .ok (.putfield index, 3)) (kk : Gx E X ws2 nL lv st (pc + 3) k n) : Gx E X ws nL lv (.ref x :: .ref a :: st) pc k n := by
  obtain ⟨p, l, e, R, s, m, args, below, meth, c, A, Q⟩ := X
  obtain ⟨hx, hb, hml, ho, hts, rfl, hr, hlk, hK, hA, hst, hZ, hh9⟩ := C
  have hin2 : meth.name = "<init>" := hQ.2.2
  subst hw
  intro H locs ls hP hD hS hl
  exact va_putF (D := E.1) (ty := (.object "Bookinghouse$Row")) (ci := 4) (C := RX2) (T := TX2) (N := 5) hx hb hts hin tyX2 tyX2_ok nmX2 ho hK hP hD hS q0 he rfl 0 (by decide) (hts _ hm) (fun _ h9 => h9) rfl hin2 rfl (by decide +kernel) rfl rfl (Nat.le_of_ble_eq_true rfl) d (fun H locs hP hD hS => kk H locs ls hP hD hS hl)
theorem g_X2_init_spans {v0 v1 v2 v3 v4 : Value} {a index : Nat} {x : Nat} {ws2 wc : va_W} {rm : Room} {W1 : (Nat → Nat) → va_W} {cc : ByteArray} {nL : Nat} (C : Cx E X cc nL RX2 Ts R0 ret hh) (hQ : gQi E X wc rm W1) (hin : ∀ w ∈ wsX20, w ∈ Ts) (hm : Cond.fieldLink RX2 index "Bookinghouse$Ledger" "spans" "LBookinghouse$Row;" ∈ Ts) (q0 : Nat) (he : ws[q0]? = some (a, .inr (4, [v0, v1, v2, v3, v4]))) (hw : ws.set q0 (a, .inr (4, [v0, .ref x, v2, v3, v4])) = ws2) (d : decode cc pc = .ok (.putfield index, 3)) (kk : Gx E X ws2 nL lv st (pc + 3) k n) : Gx E X ws nL lv (.ref x :: .ref a :: st) pc k n := by
  obtain ⟨p, l, e, R, s, m, args, below, meth, c, A, Q⟩ := X
  obtain ⟨hx, hb, hml, ho, hts, rfl, hr, hlk, hK, hA, hst, hZ, hh9⟩ := C
  have hin2 : meth.name = "<init>" := hQ.2.2
  subst hw
  intro H locs ls hP hD hS hl
  exact va_putF (D := E.1) (ty := (.object "Bookinghouse$Row")) (ci := 4) (C := RX2) (T := TX2) (N := 5) hx hb hts hin tyX2 tyX2_ok nmX2 ho hK hP hD hS q0 he rfl 1 (by decide) (hts _ hm) (fun _ h9 => h9) rfl hin2 rfl (by decide +kernel) rfl rfl (Nat.le_of_ble_eq_true rfl) d (fun H locs hP hD hS => kk H locs ls hP hD hS hl)
theorem g_X2_init_weights {v0 v1 v2 v3 v4 : Value} {a index : Nat} {x : Nat} {ws2 wc : va_W} {rm : Room} {W1 : (Nat → Nat) → va_W} {cc : ByteArray} {nL : Nat} (C : Cx E X cc nL RX2 Ts R0 ret hh) (hQ : gQi E X wc rm W1) (hin : ∀ w ∈ wsX20, w ∈ Ts) (hm : Cond.fieldLink RX2 index "Bookinghouse$Ledger" "weights" "LBookinghouse$Row;" ∈ Ts) (q0 : Nat) (he : ws[q0]? = some (a, .inr (4, [v0, v1, v2, v3, v4]))) (hw : ws.set q0 (a, .inr (4, [v0, v1, .ref x, v3, v4])) = ws2) (d : decode cc pc = .ok (.putfield index, 3)) (kk : Gx E X ws2 nL lv st (pc + 3) k n) : Gx E X ws nL lv (.ref x :: .ref a :: st) pc k n := by
  obtain ⟨p, l, e, R, s, m, args, below, meth, c, A, Q⟩ := X
  obtain ⟨hx, hb, hml, ho, hts, rfl, hr, hlk, hK, hA, hst, hZ, hh9⟩ := C
  have hin2 : meth.name = "<init>" := hQ.2.2
  subst hw
  intro H locs ls hP hD hS hl
  exact va_putF (D := E.1) (ty := (.object "Bookinghouse$Row")) (ci := 4) (C := RX2) (T := TX2) (N := 5) hx hb hts hin tyX2 tyX2_ok nmX2 ho hK hP hD hS q0 he rfl 2 (by decide) (hts _ hm) (fun _ h9 => h9) rfl hin2 rfl (by decide +kernel) rfl rfl (Nat.le_of_ble_eq_true rfl) d (fun H locs hP hD hS => kk H locs ls hP hD hS hl)
theorem g_X2_init_homes {v0 v1 v2 v3 v4 : Value} {a index : Nat} {x : Nat} {ws2 wc : va_W} {rm : Room} {W1 : (Nat → Nat) → va_W} {cc : ByteArray} {nL : Nat} (C : Cx E X cc nL RX2 Ts R0 ret hh) (hQ : gQi E X wc rm W1) (hin : ∀ w ∈ wsX20, w ∈ Ts) (hm : Cond.fieldLink RX2 index "Bookinghouse$Ledger" "homes" "LBookinghouse$Row;" ∈ Ts) (q0 : Nat) (he : ws[q0]? = some (a, .inr (4, [v0, v1, v2, v3, v4]))) (hw : ws.set q0 (a, .inr (4, [v0, v1, v2, .ref x, v4])) = ws2) (d : decode cc pc = .ok (.putfield index, 3)) (kk : Gx E X ws2 nL lv st (pc + 3) k n) : Gx E X ws nL lv (.ref x :: .ref a :: st) pc k n := by
  obtain ⟨p, l, e, R, s, m, args, below, meth, c, A, Q⟩ := X
  obtain ⟨hx, hb, hml, ho, hts, rfl, hr, hlk, hK, hA, hst, hZ, hh9⟩ := C
  have hin2 : meth.name = "<init>" := hQ.2.2
  subst hw
  intro H locs ls hP hD hS hl
  exact va_putF (D := E.1) (ty := (.object "Bookinghouse$Row")) (ci := 4) (C := RX2) (T := TX2) (N := 5) hx hb hts hin tyX2 tyX2_ok nmX2 ho hK hP hD hS q0 he rfl 3 (by decide) (hts _ hm) (fun _ h9 => h9) rfl hin2 rfl (by decide +kernel) rfl rfl (Nat.le_of_ble_eq_true rfl) d (fun H locs hP hD hS => kk H locs ls hP hD hS hl)
theorem g_X2_init_states {v0 v1 v2 v3 v4 : Value} {a index : Nat} {x : Nat} {ws2 wc : va_W} {rm : Room} {W1 : (Nat → Nat) → va_W} {cc : ByteArray} {nL : Nat} (C : Cx E X cc nL RX2 Ts R0 ret hh) (hQ : gQi E X wc rm W1) (hin : ∀ w ∈ wsX20, w ∈ Ts) (hm : Cond.fieldLink RX2 index "Bookinghouse$Ledger" "states" "LBookinghouse$Row;" ∈ Ts) (q0 : Nat) (he : ws[q0]? = some (a, .inr (4, [v0, v1, v2, v3, v4]))) (hw : ws.set q0 (a, .inr (4, [v0, v1, v2, v3, .ref x])) = ws2) (d : decode cc pc = .ok (.putfield index, 3)) (kk : Gx E X ws2 nL lv st (pc + 3) k n) : Gx E X ws nL lv (.ref x :: .ref a :: st) pc k n := by
  obtain ⟨p, l, e, R, s, m, args, below, meth, c, A, Q⟩ := X
  obtain ⟨hx, hb, hml, ho, hts, rfl, hr, hlk, hK, hA, hst, hZ, hh9⟩ := C
  have hin2 : meth.name = "<init>" := hQ.2.2
  subst hw
  intro H locs ls hP hD hS hl
  exact va_putF (D := E.1) (ty := (.object "Bookinghouse$Row")) (ci := 4) (C := RX2) (T := TX2) (N := 5) hx hb hts hin tyX2 tyX2_ok nmX2 ho hK hP hD hS q0 he rfl 4 (by decide) (hts _ hm) (fun _ h9 => h9) rfl hin2 rfl (by decide +kernel) rfl rfl (Nat.le_of_ble_eq_true rfl) d (fun H locs hP hD hS => kk H locs ls hP hD hS hl)
theorem g_new_X3 {index : Nat} (C : Cx E X cc nL own Ts R0 ret hh) (hin : ∀ w ∈ wsX30, w ∈ Ts) (hm1 : Cond.classLink own index RX3 ∈ Ts) (hm2 : Cond.instantiable RX3 2 ∈ Ts) (hm3 : Cond.initialized RX3 ∈ Ts) (hR : k + 1 ≤ R0.cells ∧ n + 2 ≤ R0.slots) (d : decode cc pc = .ok (.new index, 3)) (kk : ∀ q : Nat, Gx E X (ws ++ [(q, .inr (5, [.null, .int 0]))]) nL lv (.ref q :: st) (pc + 3) (k + 1) (n + 2)) : Gx E X ws nL lv st pc k n := by
  obtain ⟨p, l, e, R, s, m, args, below, meth, c, A, Q⟩ := X
  obtain ⟨hx, hb, hml, ho, hts, rfl, hr, hlk, hK, hA, hst, hZ, hh9⟩ := C
  intro H locs ls hP hD hS hl
  exact va_new (ci := 5) (fs := [.null, .int 0]) (C := RX3) (T := TX3) (N := 2) hx hb hts hin tyX3 tyX3_ok ho (hts _ hm1) (hts _ hm2) (hts _ hm3) hK hP hD hS hA rfl (fun j hj => by rcases (show j = 0 ∨ j = 1 by omega) with rfl | rfl <;> rfl) hR.1 hR.2 d (fun q H1 hP1 hD1 hS1 => kk q H1 locs ls hP1 hD1 hS1 hl)
theorem g_X3_init_items {v0 v1 : Value} {a index : Nat} {x : Nat} {ws2 wc : va_W} {rm : Room} {W1 : (Nat → Nat) → va_W} {cc : ByteArray} {nL : Nat} (C : Cx E X cc nL RX3 Ts R0 ret hh) (hQ : gQi E X wc rm W1) (hin : ∀ w ∈ wsX30, w ∈ Ts) (hm : Cond.fieldLink RX3 index "Bookinghouse$Row" "items" "[I" ∈ Ts) (q0 : Nat) (he : ws[q0]? = some (a, .inr (5, [v0, v1]))) (hw : ws.set q0 (a, .inr (5, [.ref x, v1])) = ws2) (d : decode cc pc = .ok (.putfield index, 3)) (kk : Gx E X ws2 nL lv st (pc + 3) k n) : Gx E X ws nL lv (.ref x :: .ref a :: st) pc k n := by
  obtain ⟨p, l, e, R, s, m, args, below, meth, c, A, Q⟩ := X
  obtain ⟨hx, hb, hml, ho, hts, rfl, hr, hlk, hK, hA, hst, hZ, hh9⟩ := C
  have hin2 : meth.name = "<init>" := hQ.2.2
  subst hw
  intro H locs ls hP hD hS hl
  exact va_putF (D := E.1) (ty := (.array .int)) (ci := 5) (C := RX3) (T := TX3) (N := 2) hx hb hts hin tyX3 tyX3_ok nmX3 ho hK hP hD hS q0 he rfl 0 (by decide) (hts _ hm) (fun _ h9 => h9) rfl hin2 rfl (by decide +kernel) rfl rfl (Nat.le_of_ble_eq_true rfl) d (fun H locs hP hD hS => kk H locs ls hP hD hS hl)
theorem g_new_X4 {index : Nat} (C : Cx E X cc nL own Ts R0 ret hh) (hin : ∀ w ∈ wsX40, w ∈ Ts) (hm1 : Cond.classLink own index RX4 ∈ Ts) (hm2 : Cond.instantiable RX4 3 ∈ Ts) (hm3 : Cond.initialized RX4 ∈ Ts) (hR : k + 1 ≤ R0.cells ∧ n + 3 ≤ R0.slots) (d : decode cc pc = .ok (.new index, 3)) (kk : ∀ q : Nat, Gx E X (ws ++ [(q, .inr (6, [.null, .null, .null]))]) nL lv (.ref q :: st) (pc + 3) (k + 1) (n + 3)) : Gx E X ws nL lv st pc k n := by
  obtain ⟨p, l, e, R, s, m, args, below, meth, c, A, Q⟩ := X
  obtain ⟨hx, hb, hml, ho, hts, rfl, hr, hlk, hK, hA, hst, hZ, hh9⟩ := C
  intro H locs ls hP hD hS hl
  exact va_new (ci := 6) (fs := [.null, .null, .null]) (C := RX4) (T := TX4) (N := 3) hx hb hts hin tyX4 tyX4_ok ho (hts _ hm1) (hts _ hm2) (hts _ hm3) hK hP hD hS hA rfl (fun j hj => by rcases (show j = 0 ∨ j = 1 ∨ j = 2 by omega) with rfl | rfl | rfl <;> rfl) hR.1 hR.2 d (fun q H1 hP1 hD1 hS1 => kk q H1 locs ls hP1 hD1 hS1 hl)
theorem g_X4_init_ledger {v0 v1 v2 : Value} {a index : Nat} {x : Nat} {ws2 wc : va_W} {rm : Room} {W1 : (Nat → Nat) → va_W} {cc : ByteArray} {nL : Nat} (C : Cx E X cc nL RX4 Ts R0 ret hh) (hQ : gQi E X wc rm W1) (hin : ∀ w ∈ wsX40, w ∈ Ts) (hm : Cond.fieldLink RX4 index "Bookinghouse" "ledger" "LBookinghouse$Ledger;" ∈ Ts) (q0 : Nat) (he : ws[q0]? = some (a, .inr (6, [v0, v1, v2]))) (hw : ws.set q0 (a, .inr (6, [.ref x, v1, v2])) = ws2) (d : decode cc pc = .ok (.putfield index, 3)) (kk : Gx E X ws2 nL lv st (pc + 3) k n) : Gx E X ws nL lv (.ref x :: .ref a :: st) pc k n := by
  obtain ⟨p, l, e, R, s, m, args, below, meth, c, A, Q⟩ := X
  obtain ⟨hx, hb, hml, ho, hts, rfl, hr, hlk, hK, hA, hst, hZ, hh9⟩ := C
  have hin2 : meth.name = "<init>" := hQ.2.2
  subst hw
  intro H locs ls hP hD hS hl
  exact va_putF (D := E.1) (ty := (.object "Bookinghouse$Ledger")) (ci := 6) (C := RX4) (T := TX4) (N := 3) hx hb hts hin tyX4 tyX4_ok nmX4 ho hK hP hD hS q0 he rfl 0 (by decide) (hts _ hm) (fun _ h9 => h9) rfl hin2 rfl (by decide +kernel) rfl rfl (Nat.le_of_ble_eq_true rfl) d (fun H locs hP hD hS => kk H locs ls hP hD hS hl)
theorem g_X4_init_houses {v0 v1 v2 : Value} {a index : Nat} {x : Nat} {ws2 wc : va_W} {rm : Room} {W1 : (Nat → Nat) → va_W} {cc : ByteArray} {nL : Nat} (C : Cx E X cc nL RX4 Ts R0 ret hh) (hQ : gQi E X wc rm W1) (hin : ∀ w ∈ wsX40, w ∈ Ts) (hm : Cond.fieldLink RX4 index "Bookinghouse" "houses" "[LBookinghouse$House;" ∈ Ts) (q0 : Nat) (he : ws[q0]? = some (a, .inr (6, [v0, v1, v2]))) (hw : ws.set q0 (a, .inr (6, [v0, .ref x, v2])) = ws2) (d : decode cc pc = .ok (.putfield index, 3)) (kk : Gx E X ws2 nL lv st (pc + 3) k n) : Gx E X ws nL lv (.ref x :: .ref a :: st) pc k n := by
  obtain ⟨p, l, e, R, s, m, args, below, meth, c, A, Q⟩ := X
  obtain ⟨hx, hb, hml, ho, hts, rfl, hr, hlk, hK, hA, hst, hZ, hh9⟩ := C
  have hin2 : meth.name = "<init>" := hQ.2.2
  subst hw
  intro H locs ls hP hD hS hl
  exact va_putF (D := E.1) (ty := (.array (.object "Bookinghouse$House"))) (ci := 6) (C := RX4) (T := TX4) (N := 3) hx hb hts hin tyX4 tyX4_ok nmX4 ho hK hP hD hS q0 he rfl 1 (by decide) (hts _ hm) (fun _ h9 => h9) rfl hin2 rfl (by decide +kernel) rfl rfl (Nat.le_of_ble_eq_true rfl) d (fun H locs hP hD hS => kk H locs ls hP hD hS hl)
theorem g_X4_init_rebuilt {v0 v1 v2 : Value} {a index : Nat} {x : Nat} {ws2 wc : va_W} {rm : Room} {W1 : (Nat → Nat) → va_W} {cc : ByteArray} {nL : Nat} (C : Cx E X cc nL RX4 Ts R0 ret hh) (hQ : gQi E X wc rm W1) (hin : ∀ w ∈ wsX40, w ∈ Ts) (hm : Cond.fieldLink RX4 index "Bookinghouse" "rebuilt" "LBookinghouse$Crowd;" ∈ Ts) (q0 : Nat) (he : ws[q0]? = some (a, .inr (6, [v0, v1, v2]))) (hw : ws.set q0 (a, .inr (6, [v0, v1, .ref x])) = ws2) (d : decode cc pc = .ok (.putfield index, 3)) (kk : Gx E X ws2 nL lv st (pc + 3) k n) : Gx E X ws nL lv (.ref x :: .ref a :: st) pc k n := by
  obtain ⟨p, l, e, R, s, m, args, below, meth, c, A, Q⟩ := X
  obtain ⟨hx, hb, hml, ho, hts, rfl, hr, hlk, hK, hA, hst, hZ, hh9⟩ := C
  have hin2 : meth.name = "<init>" := hQ.2.2
  subst hw
  intro H locs ls hP hD hS hl
  exact va_putF (D := E.1) (ty := (.object "Bookinghouse$Crowd")) (ci := 6) (C := RX4) (T := TX4) (N := 3) hx hb hts hin tyX4 tyX4_ok nmX4 ho hK hP hD hS q0 he rfl 2 (by decide) (hts _ hm) (fun _ h9 => h9) rfl hin2 rfl (by decide +kernel) rfl rfl (Nat.le_of_ble_eq_true rfl) d (fun H locs hP hD hS => kk H locs ls hP hD hS hl)
theorem g_new_X5 {index : Nat} (C : Cx E X cc nL own Ts R0 ret hh) (hin : ∀ w ∈ wsX50, w ∈ Ts) (hm1 : Cond.classLink own index RX5 ∈ Ts) (hm2 : Cond.instantiable RX5 11 ∈ Ts) (hm3 : Cond.initialized RX5 ∈ Ts) (hR : k + 1 ≤ R0.cells ∧ n + 11 ≤ R0.slots) (d : decode cc pc = .ok (.new index, 3)) (kk : ∀ q : Nat, Gx E X (ws ++ [(q, .inr (7, [.int 0, .int 0, .int 0, .null, .null, .null, .null, .null, .null, .null, .long 0]))]) nL lv (.ref q :: st) (pc + 3) (k + 1) (n + 11)) : Gx E X ws nL lv st pc k n := by
  obtain ⟨p, l, e, R, s, m, args, below, meth, c, A, Q⟩ := X
  obtain ⟨hx, hb, hml, ho, hts, rfl, hr, hlk, hK, hA, hst, hZ, hh9⟩ := C
  intro H locs ls hP hD hS hl
  exact va_new (ci := 7) (fs := [.int 0, .int 0, .int 0, .null, .null, .null, .null, .null, .null, .null, .long 0]) (C := RX5) (T := TX5) (N := 11) hx hb hts hin tyX5 tyX5_ok ho (hts _ hm1) (hts _ hm2) (hts _ hm3) hK hP hD hS hA rfl (fun j hj => by rcases (show j = 0 ∨ j = 1 ∨ j = 2 ∨ j = 3 ∨ j = 4 ∨ j = 5 ∨ j = 6 ∨ j = 7 ∨ j = 8 ∨ j = 9 ∨ j = 10 by omega) with rfl | rfl | rfl | rfl | rfl | rfl | rfl | rfl | rfl | rfl | rfl <;> rfl) hR.1 hR.2 d (fun q H1 hP1 hD1 hS1 => kk q H1 locs ls hP1 hD1 hS1 hl)
theorem g_X5_init_time {v0 v1 v2 v3 v4 v5 v6 v7 v8 v9 v10 : Value} {a index : Nat} {x : Nat} {ws2 wc : va_W} {rm : Room} {W1 : (Nat → Nat) → va_W} {cc : ByteArray} {nL : Nat} (C : Cx E X cc nL RX5 Ts R0 ret hh) (hQ : gQi E X wc rm W1) (hin : ∀ w ∈ wsX50, w ∈ Ts) (hm : Cond.fieldLink RX5 index "BookinghouseModel" "time" "[I" ∈ Ts) (q0 : Nat) (he : ws[q0]? = some (a, .inr (7, [v0, v1, v2, v3, v4, v5, v6, v7, v8, v9, v10]))) (hw : ws.set q0 (a, .inr (7, [v0, v1, v2, .ref x, v4, v5, v6, v7, v8, v9, v10])) = ws2) (d : decode cc pc = .ok (.putfield index, 3)) (kk : Gx E X ws2 nL lv st (pc + 3) k n) : Gx E X ws nL lv (.ref x :: .ref a :: st) pc k n := by
  obtain ⟨p, l, e, R, s, m, args, below, meth, c, A, Q⟩ := X
  obtain ⟨hx, hb, hml, ho, hts, rfl, hr, hlk, hK, hA, hst, hZ, hh9⟩ := C
  have hin2 : meth.name = "<init>" := hQ.2.2
  subst hw
  intro H locs ls hP hD hS hl
  exact va_putF (D := E.1) (ty := (.array .int)) (ci := 7) (C := RX5) (T := TX5) (N := 11) hx hb hts hin tyX5 tyX5_ok nmX5 ho hK hP hD hS q0 he rfl 3 (by decide) (hts _ hm) (fun _ h9 => h9) rfl hin2 rfl (by decide +kernel) rfl rfl (Nat.le_of_ble_eq_true rfl) d (fun H locs hP hD hS => kk H locs ls hP hD hS hl)
theorem g_X5_init_span {v0 v1 v2 v3 v4 v5 v6 v7 v8 v9 v10 : Value} {a index : Nat} {x : Nat} {ws2 wc : va_W} {rm : Room} {W1 : (Nat → Nat) → va_W} {cc : ByteArray} {nL : Nat} (C : Cx E X cc nL RX5 Ts R0 ret hh) (hQ : gQi E X wc rm W1) (hin : ∀ w ∈ wsX50, w ∈ Ts) (hm : Cond.fieldLink RX5 index "BookinghouseModel" "span" "[I" ∈ Ts) (q0 : Nat) (he : ws[q0]? = some (a, .inr (7, [v0, v1, v2, v3, v4, v5, v6, v7, v8, v9, v10]))) (hw : ws.set q0 (a, .inr (7, [v0, v1, v2, v3, .ref x, v5, v6, v7, v8, v9, v10])) = ws2) (d : decode cc pc = .ok (.putfield index, 3)) (kk : Gx E X ws2 nL lv st (pc + 3) k n) : Gx E X ws nL lv (.ref x :: .ref a :: st) pc k n := by
  obtain ⟨p, l, e, R, s, m, args, below, meth, c, A, Q⟩ := X
  obtain ⟨hx, hb, hml, ho, hts, rfl, hr, hlk, hK, hA, hst, hZ, hh9⟩ := C
  have hin2 : meth.name = "<init>" := hQ.2.2
  subst hw
  intro H locs ls hP hD hS hl
  exact va_putF (D := E.1) (ty := (.array .int)) (ci := 7) (C := RX5) (T := TX5) (N := 11) hx hb hts hin tyX5 tyX5_ok nmX5 ho hK hP hD hS q0 he rfl 4 (by decide) (hts _ hm) (fun _ h9 => h9) rfl hin2 rfl (by decide +kernel) rfl rfl (Nat.le_of_ble_eq_true rfl) d (fun H locs hP hD hS => kk H locs ls hP hD hS hl)
theorem g_X5_init_weight {v0 v1 v2 v3 v4 v5 v6 v7 v8 v9 v10 : Value} {a index : Nat} {x : Nat} {ws2 wc : va_W} {rm : Room} {W1 : (Nat → Nat) → va_W} {cc : ByteArray} {nL : Nat} (C : Cx E X cc nL RX5 Ts R0 ret hh) (hQ : gQi E X wc rm W1) (hin : ∀ w ∈ wsX50, w ∈ Ts) (hm : Cond.fieldLink RX5 index "BookinghouseModel" "weight" "[I" ∈ Ts) (q0 : Nat) (he : ws[q0]? = some (a, .inr (7, [v0, v1, v2, v3, v4, v5, v6, v7, v8, v9, v10]))) (hw : ws.set q0 (a, .inr (7, [v0, v1, v2, v3, v4, .ref x, v6, v7, v8, v9, v10])) = ws2) (d : decode cc pc = .ok (.putfield index, 3)) (kk : Gx E X ws2 nL lv st (pc + 3) k n) : Gx E X ws nL lv (.ref x :: .ref a :: st) pc k n := by
  obtain ⟨p, l, e, R, s, m, args, below, meth, c, A, Q⟩ := X
  obtain ⟨hx, hb, hml, ho, hts, rfl, hr, hlk, hK, hA, hst, hZ, hh9⟩ := C
  have hin2 : meth.name = "<init>" := hQ.2.2
  subst hw
  intro H locs ls hP hD hS hl
  exact va_putF (D := E.1) (ty := (.array .int)) (ci := 7) (C := RX5) (T := TX5) (N := 11) hx hb hts hin tyX5 tyX5_ok nmX5 ho hK hP hD hS q0 he rfl 5 (by decide) (hts _ hm) (fun _ h9 => h9) rfl hin2 rfl (by decide +kernel) rfl rfl (Nat.le_of_ble_eq_true rfl) d (fun H locs hP hD hS => kk H locs ls hP hD hS hl)
theorem g_X5_init_home {v0 v1 v2 v3 v4 v5 v6 v7 v8 v9 v10 : Value} {a index : Nat} {x : Nat} {ws2 wc : va_W} {rm : Room} {W1 : (Nat → Nat) → va_W} {cc : ByteArray} {nL : Nat} (C : Cx E X cc nL RX5 Ts R0 ret hh) (hQ : gQi E X wc rm W1) (hin : ∀ w ∈ wsX50, w ∈ Ts) (hm : Cond.fieldLink RX5 index "BookinghouseModel" "home" "[I" ∈ Ts) (q0 : Nat) (he : ws[q0]? = some (a, .inr (7, [v0, v1, v2, v3, v4, v5, v6, v7, v8, v9, v10]))) (hw : ws.set q0 (a, .inr (7, [v0, v1, v2, v3, v4, v5, .ref x, v7, v8, v9, v10])) = ws2) (d : decode cc pc = .ok (.putfield index, 3)) (kk : Gx E X ws2 nL lv st (pc + 3) k n) : Gx E X ws nL lv (.ref x :: .ref a :: st) pc k n := by
  obtain ⟨p, l, e, R, s, m, args, below, meth, c, A, Q⟩ := X
  obtain ⟨hx, hb, hml, ho, hts, rfl, hr, hlk, hK, hA, hst, hZ, hh9⟩ := C
  have hin2 : meth.name = "<init>" := hQ.2.2
  subst hw
  intro H locs ls hP hD hS hl
  exact va_putF (D := E.1) (ty := (.array .int)) (ci := 7) (C := RX5) (T := TX5) (N := 11) hx hb hts hin tyX5 tyX5_ok nmX5 ho hK hP hD hS q0 he rfl 6 (by decide) (hts _ hm) (fun _ h9 => h9) rfl hin2 rfl (by decide +kernel) rfl rfl (Nat.le_of_ble_eq_true rfl) d (fun H locs hP hD hS => kk H locs ls hP hD hS hl)
theorem g_X5_init_state {v0 v1 v2 v3 v4 v5 v6 v7 v8 v9 v10 : Value} {a index : Nat} {x : Nat} {ws2 wc : va_W} {rm : Room} {W1 : (Nat → Nat) → va_W} {cc : ByteArray} {nL : Nat} (C : Cx E X cc nL RX5 Ts R0 ret hh) (hQ : gQi E X wc rm W1) (hin : ∀ w ∈ wsX50, w ∈ Ts) (hm : Cond.fieldLink RX5 index "BookinghouseModel" "state" "[I" ∈ Ts) (q0 : Nat) (he : ws[q0]? = some (a, .inr (7, [v0, v1, v2, v3, v4, v5, v6, v7, v8, v9, v10]))) (hw : ws.set q0 (a, .inr (7, [v0, v1, v2, v3, v4, v5, v6, .ref x, v8, v9, v10])) = ws2) (d : decode cc pc = .ok (.putfield index, 3)) (kk : Gx E X ws2 nL lv st (pc + 3) k n) : Gx E X ws nL lv (.ref x :: .ref a :: st) pc k n := by
  obtain ⟨p, l, e, R, s, m, args, below, meth, c, A, Q⟩ := X
  obtain ⟨hx, hb, hml, ho, hts, rfl, hr, hlk, hK, hA, hst, hZ, hh9⟩ := C
  have hin2 : meth.name = "<init>" := hQ.2.2
  subst hw
  intro H locs ls hP hD hS hl
  exact va_putF (D := E.1) (ty := (.array .int)) (ci := 7) (C := RX5) (T := TX5) (N := 11) hx hb hts hin tyX5 tyX5_ok nmX5 ho hK hP hD hS q0 he rfl 7 (by decide) (hts _ hm) (fun _ h9 => h9) rfl hin2 rfl (by decide +kernel) rfl rfl (Nat.le_of_ble_eq_true rfl) d (fun H locs hP hD hS => kk H locs ls hP hD hS hl)
theorem g_X5_init_came {v0 v1 v2 v3 v4 v5 v6 v7 v8 v9 v10 : Value} {a index : Nat} {x : Nat} {ws2 wc : va_W} {rm : Room} {W1 : (Nat → Nat) → va_W} {cc : ByteArray} {nL : Nat} (C : Cx E X cc nL RX5 Ts R0 ret hh) (hQ : gQi E X wc rm W1) (hin : ∀ w ∈ wsX50, w ∈ Ts) (hm : Cond.fieldLink RX5 index "BookinghouseModel" "came" "[I" ∈ Ts) (q0 : Nat) (he : ws[q0]? = some (a, .inr (7, [v0, v1, v2, v3, v4, v5, v6, v7, v8, v9, v10]))) (hw : ws.set q0 (a, .inr (7, [v0, v1, v2, v3, v4, v5, v6, v7, .ref x, v9, v10])) = ws2) (d : decode cc pc = .ok (.putfield index, 3)) (kk : Gx E X ws2 nL lv st (pc + 3) k n) : Gx E X ws nL lv (.ref x :: .ref a :: st) pc k n := by
  obtain ⟨p, l, e, R, s, m, args, below, meth, c, A, Q⟩ := X
  obtain ⟨hx, hb, hml, ho, hts, rfl, hr, hlk, hK, hA, hst, hZ, hh9⟩ := C
  have hin2 : meth.name = "<init>" := hQ.2.2
  subst hw
  intro H locs ls hP hD hS hl
  exact va_putF (D := E.1) (ty := (.array .int)) (ci := 7) (C := RX5) (T := TX5) (N := 11) hx hb hts hin tyX5 tyX5_ok nmX5 ho hK hP hD hS q0 he rfl 8 (by decide) (hts _ hm) (fun _ h9 => h9) rfl hin2 rfl (by decide +kernel) rfl rfl (Nat.le_of_ble_eq_true rfl) d (fun H locs hP hD hS => kk H locs ls hP hD hS hl)
theorem g_X5_init_clock {v0 v1 v2 v3 v4 v5 v6 v7 v8 v9 v10 : Value} {a index : Nat} {x : Nat} {ws2 wc : va_W} {rm : Room} {W1 : (Nat → Nat) → va_W} {cc : ByteArray} {nL : Nat} (C : Cx E X cc nL RX5 Ts R0 ret hh) (hQ : gQi E X wc rm W1) (hin : ∀ w ∈ wsX50, w ∈ Ts) (hm : Cond.fieldLink RX5 index "BookinghouseModel" "clock" "[I" ∈ Ts) (q0 : Nat) (he : ws[q0]? = some (a, .inr (7, [v0, v1, v2, v3, v4, v5, v6, v7, v8, v9, v10]))) (hw : ws.set q0 (a, .inr (7, [v0, v1, v2, v3, v4, v5, v6, v7, v8, .ref x, v10])) = ws2) (d : decode cc pc = .ok (.putfield index, 3)) (kk : Gx E X ws2 nL lv st (pc + 3) k n) : Gx E X ws nL lv (.ref x :: .ref a :: st) pc k n := by
  obtain ⟨p, l, e, R, s, m, args, below, meth, c, A, Q⟩ := X
  obtain ⟨hx, hb, hml, ho, hts, rfl, hr, hlk, hK, hA, hst, hZ, hh9⟩ := C
  have hin2 : meth.name = "<init>" := hQ.2.2
  subst hw
  intro H locs ls hP hD hS hl
  exact va_putF (D := E.1) (ty := (.array .int)) (ci := 7) (C := RX5) (T := TX5) (N := 11) hx hb hts hin tyX5 tyX5_ok nmX5 ho hK hP hD hS q0 he rfl 9 (by decide) (hts _ hm) (fun _ h9 => h9) rfl hin2 rfl (by decide +kernel) rfl rfl (Nat.le_of_ble_eq_true rfl) d (fun H locs hP hD hS => kk H locs ls hP hD hS hl)
theorem g_callI {index maxL : Nat} {y : MethodName} {bytes : ByteArray} {wsY wsY' : List Cond} {rmY : Room} {As : List Value} {n9 b : Nat} {P : va_W} {W9 : (Nat → Nat) → va_W} (C : Cx E X cc nL own Ts R0 ret hh) (hM : Ci E y wsY rmY (.ref b :: As) wc W9) (hG : GoodIn Ts wsY) (hw : wsY = Cond.code y bytes maxL none :: wsY') (hyn : y.name = "<init>") (hini : Cond.initialized y.cls ∈ Ts) (hl9 : Cond.methodLink own index y ∈ Ts) (hinst : Cond.instanceMethod y ∈ Ts) (hd : y.cls ≠ "java/lang/invoke/MethodHandle" ∧ y.cls ≠ "java/lang/invoke/VarHandle" ∧ (parseMethodDescriptor y.desc).map (fun d => d.parameters.length) = some n9) (hn9 : As.length = n9) (hR : rmY.frames + 1 ≤ R0.frames ∧ 8 + (maxL + 11) + rmY.locals ≤ R0.locals ∧ k + rmY.cells ≤ R0.cells ∧ n + rmY.slots ≤ R0.slots ∧ (st.map fun v => v.category).sum ≤ 8) (hws : ws = P ++ wc) (d : decode cc pc = .ok (.invokespecial index, 3))
    (kk : ∀ f : Nat → Nat, Gx E X (P ++ W9 f) nL lv st (pc + 3) (k + rmY.cells) (n + rmY.slots)) : Gx E X ws nL lv (As.reverse ++ .ref b :: st) pc k n := by
  have hs9 : gSub ws wc (fun w => P ++ w) := gSub.post hws
  obtain ⟨p, l, e, R, s, m, args, below, meth, c, A, Q⟩ := X
  obtain ⟨hx, hb, hml, ho, hts, rfl, hr, hlk, hK, hA, hst, hZ, hh9⟩ := C
  intro H locs ls hP hD hS hl
  obtain ⟨hbl, hpre⟩ := g_start hs9 hP hD hS hK hA hZ (.ref b :: As)
  have hF := gSub_A hs9 hD hS hA
  have cw := cwI n9 hts hG hw rfl rfl (hts _ hini) (hts _ hl9) (hts _ hinst) hyn hd ⟨hR.1, hR.2.1⟩
  have hrun := vx_runI (e := e) (below := below) (meth := meth) (locs := locs) (R := R) (H := H) (As := As) (rest := st) (g := F0 m pc ls (As.reverse ++ .ref b :: st)) ⟨hx, hb, hml, ho, hts⟩ (hM l hst H.size) cw ⟨hbl, hpre⟩ rfl hn9 hl.1 rfl (by simpa [JFrame.monitorRoom] using hR.2.2.2.2) d ⟨hR.2.2.1, hR.2.2.2.1⟩
  intro T hT XT
  rcases hrun T hT XT with ⟨v, st₀, t, T', L, h0, X', hL, e1, e2, ⟨⟨f, eoc, hP1, hD1⟩, hFr⟩, stp⟩ | ⟨q, st₀, t, T', L, Ex, ce, h0, X', hL, e1, e2, hfalse, hce, hcv, hcl, stp⟩
  · have ev2 : v = none := by injection eoc
    subst ev2
    obtain ⟨k1, k2, k3⟩ := vx_keep h0 e1 hS (fun q _ h => hF q h) hF hL hFr
    rw [← e1] at hP1
    subst hws
    have apart : ∀ q ∈ P, q.1 < H.size ∧ ¬ va_A wc H.size q.1 := by
      intro q hq
      have hlq := (gP_mem.mp hP q (List.mem_append_left _ hq)).lt
      refine ⟨hlq, ?_⟩
      rintro (⟨j, e9, hj⟩ | hj)
      · have hD2 := gD_iff.mp hD
        simp only [gAd, List.map_append] at hD2
        exact (List.nodup_append.mp hD2.1).2.2 q.1 (List.mem_map.mpr ⟨q, hq, rfl⟩) q.1 (List.mem_map.mpr ⟨_, List.mem_of_getElem? hj, rfl⟩) rfl
      · omega
    have hPn : va_P E.1 vwCl (P ++ W9 f) T'.heap := by
      rw [gP_mem]
      intro q hq
      rcases List.mem_append.mp hq with hq | hq
      · obtain ⟨a1, a2⟩ := apart q hq
        exact (gP_mem.mp hP q (List.mem_append_left _ hq)).kept (k2 q.1 a1 a2)
      · exact gP_mem.mp hP1 q hq
    have hDn : va_D A (P ++ W9 f) := by
      have d1 := gD_iff.mp hD
      have d2 := gD_iff.mp hD1
      rw [gD_iff]
      simp only [gAd, List.map_append] at d1 d2 ⊢
      refine ⟨List.nodup_append.mpr ⟨(List.nodup_append.mp d1.1).1, d2.1, ?_⟩, ?_⟩
      · rintro x hx9 y9 hy8 rfl
        obtain ⟨q, hq, rfl⟩ := List.mem_map.mp hx9
        exact (apart q hq).2 (d2.2 _ hy8)
      · intro x hx9
        rcases List.mem_append.mp hx9 with h | h
        · exact d1.2 x (List.mem_append_left _ h)
        · exact hF x (d2.2 x h)
    obtain ⟨t2, a1, b1⟩ := kk f T'.heap (locs ++ L) ls hPn hDn k3 hl T' rfl X'
    exact ⟨t2, stp t2 a1, b1⟩
  · exact hfalse.elim
theorem g_callIN {index maxL : Nat} {y : MethodName} {bytes : ByteArray} {wsY wsY' : List Cond} {rmY : Room} {As : List Value} {n9 b : Nat} {P : va_W} {W9 : (Nat → Nat) → va_W} (C : Cx E X cc nL own Ts R0 ret hh) (hM : Ci E y wsY rmY (.ref b :: As) wc W9) (hG : GoodIn Ts wsY) (hw : wsY = Cond.code y bytes maxL none :: wsY') (hyn : y.name = "<init>") (hini : Cond.initialized y.cls ∈ Ts) (hl9 : (own, index, y.cls) ∈ gMn) (hy9 : y = ⟨y.cls, "<init>", "()V"⟩) (hinst : Cond.instanceMethod y ∈ Ts) (hd : y.cls ≠ "java/lang/invoke/MethodHandle" ∧ y.cls ≠ "java/lang/invoke/VarHandle" ∧ (parseMethodDescriptor y.desc).map (fun d => d.parameters.length) = some n9) (hn9 : As.length = n9) (hR : rmY.frames + 1 ≤ R0.frames ∧ 8 + (maxL + 11) + rmY.locals ≤ R0.locals ∧ k + rmY.cells ≤ R0.cells ∧ n + rmY.slots ≤ R0.slots ∧ (st.map fun v => v.category).sum ≤ 8) (hws : ws = P ++ wc) (d : decode cc pc = .ok (.invokespecial index, 3))
    (kk : ∀ f : Nat → Nat, Gx E X (P ++ W9 f) nL lv st (pc + 3) (k + rmY.cells) (n + rmY.slots)) : Gx E X ws nL lv (As.reverse ++ .ref b :: st) pc k n := by
  have hs9 : gSub ws wc (fun w => P ++ w) := gSub.post hws
  obtain ⟨p, l, e, R, s, m, args, below, meth, c, A, Q⟩ := X
  obtain ⟨hx, hb, hml, ho, hts, rfl, hr, hlk, hK, hA, hst, hZ, hh9⟩ := C
  intro H locs ls hP hD hS hl
  obtain ⟨hbl, hpre⟩ := g_start hs9 hP hD hS hK hA hZ (.ref b :: As)
  have hF := gSub_A hs9 hD hS hA
  have cw := And.intro (va_cnB (host := RX4) n9 hts hG hw rfl rfl (by rw [hy9]; exact hZ.2.2.2.2.2.2.2.1 _ hl9) (hts _ hini) hd ⟨hR.1, hR.2.1⟩) (And.intro hyn (hts _ hinst))
  have hrun := vx_runIN (e := e) (below := below) (meth := meth) (locs := locs) (R := R) (H := H) (As := As) (rest := st) (g := F0 m pc ls (As.reverse ++ .ref b :: st)) ⟨hx, hb, hml, ho, hts⟩ (hM l hst H.size) cw ⟨hbl, hpre⟩ rfl hn9 hl.1 rfl (by simpa [JFrame.monitorRoom] using hR.2.2.2.2) d ⟨hR.2.2.1, hR.2.2.2.1⟩
  intro T hT XT
  rcases hrun T hT XT with ⟨v, st₀, t, T', L, h0, X', hL, e1, e2, ⟨⟨f, eoc, hP1, hD1⟩, hFr⟩, stp⟩ | ⟨q, st₀, t, T', L, Ex, ce, h0, X', hL, e1, e2, hfalse, hce, hcv, hcl, stp⟩
  · have ev2 : v = none := by injection eoc
    subst ev2
    obtain ⟨k1, k2, k3⟩ := vx_keep h0 e1 hS (fun q _ h => hF q h) hF hL hFr
    rw [← e1] at hP1
    subst hws
    have apart : ∀ q ∈ P, q.1 < H.size ∧ ¬ va_A wc H.size q.1 := by
      intro q hq
      have hlq := (gP_mem.mp hP q (List.mem_append_left _ hq)).lt
      refine ⟨hlq, ?_⟩
      rintro (⟨j, e9, hj⟩ | hj)
      · have hD2 := gD_iff.mp hD
        simp only [gAd, List.map_append] at hD2
        exact (List.nodup_append.mp hD2.1).2.2 q.1 (List.mem_map.mpr ⟨q, hq, rfl⟩) q.1 (List.mem_map.mpr ⟨_, List.mem_of_getElem? hj, rfl⟩) rfl
      · omega
    have hPn : va_P E.1 vwCl (P ++ W9 f) T'.heap := by
      rw [gP_mem]
      intro q hq
      rcases List.mem_append.mp hq with hq | hq
      · obtain ⟨a1, a2⟩ := apart q hq
        exact (gP_mem.mp hP q (List.mem_append_left _ hq)).kept (k2 q.1 a1 a2)
      · exact gP_mem.mp hP1 q hq
    have hDn : va_D A (P ++ W9 f) := by
      have d1 := gD_iff.mp hD
      have d2 := gD_iff.mp hD1
      rw [gD_iff]
      simp only [gAd, List.map_append] at d1 d2 ⊢
      refine ⟨List.nodup_append.mpr ⟨(List.nodup_append.mp d1.1).1, d2.1, ?_⟩, ?_⟩
      · rintro x hx9 y9 hy8 rfl
        obtain ⟨q, hq, rfl⟩ := List.mem_map.mp hx9
        exact (apart q hq).2 (d2.2 _ hy8)
      · intro x hx9
        rcases List.mem_append.mp hx9 with h | h
        · exact d1.2 x (List.mem_append_left _ h)
        · exact hF x (d2.2 x h)
    obtain ⟨t2, a1, b1⟩ := kk f T'.heap (locs ++ L) ls hPn hDn k3 hl T' rfl X'
    exact ⟨t2, stp t2 a1, b1⟩
  · exact hfalse.elim
end GI
