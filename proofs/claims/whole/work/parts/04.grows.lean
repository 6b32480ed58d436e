/-! rows of my layer, an instruction each -/
section GR
variable {E : gE} {X : gX} {cc : ByteArray} {nL : Nat} {own : String} {Ts : List Cond} {R0 : Room} {ret : Option FieldType} {hh : List ExceptionTableEntry} {ws : va_W} {lv lv2 : List (Nat × Value)} {st : List Value} {pc k n : Nat}
theorem g_iconst {i : Int} {v : Int32} (C : Cx E X cc nL own Ts R0 ret hh) (hv : Int32.ofInt i = v) (d : decode cc pc = .ok (.iconst i, 1)) (kk : Gx E X ws nL lv (.int v :: st) (pc + 1) k n) : Gx E X ws nL lv st pc k n := by
  obtain ⟨p, l, e, R, s, m, args, below, meth, c, A, Q⟩ := X
  obtain ⟨hx, hb, hml, ho, hts, rfl, hr, hlk, hK, hA, hst, hZ, hh9⟩ := C
  intro H locs ls hP hD hS hl
  exact lv_iconst hx hb d hv (kk H locs ls hP hD hS hl)
theorem g_bipush {i : Int} {v : Int32} (C : Cx E X cc nL own Ts R0 ret hh) (hv : (Int8.ofInt i).toInt32 = v) (d : decode cc pc = .ok (.bipush i, 2)) (kk : Gx E X ws nL lv (.int v :: st) (pc + 2) k n) : Gx E X ws nL lv st pc k n := by
  obtain ⟨p, l, e, R, s, m, args, below, meth, c, A, Q⟩ := X
  obtain ⟨hx, hb, hml, ho, hts, rfl, hr, hlk, hK, hA, hst, hZ, hh9⟩ := C
  intro H locs ls hP hD hS hl
  exact lv_bipush hx hb d hv (kk H locs ls hP hD hS hl)
theorem g_sipush {i : Int} {v : Int32} (C : Cx E X cc nL own Ts R0 ret hh) (hv : (Int16.ofInt i).toInt32 = v) (d : decode cc pc = .ok (.sipush i, 3)) (kk : Gx E X ws nL lv (.int v :: st) (pc + 3) k n) : Gx E X ws nL lv st pc k n := by
  obtain ⟨p, l, e, R, s, m, args, below, meth, c, A, Q⟩ := X
  obtain ⟨hx, hb, hml, ho, hts, rfl, hr, hlk, hK, hA, hst, hZ, hh9⟩ := C
  intro H locs ls hP hD hS hl
  exact lv_sipush hx hb d hv (kk H locs ls hP hD hS hl)
theorem g_ldc {index : Nat} {v : Int32} (C : Cx E X cc nL own Ts R0 ret hh) (hm : Cond.constant own index v ∈ Ts) (d : decode cc pc = .ok (.ldc index, 2)) (kk : Gx E X ws nL lv (.int v :: st) (pc + 2) k n) : Gx E X ws nL lv st pc k n := by
  obtain ⟨p, l, e, R, s, m, args, below, meth, c, A, Q⟩ := X
  obtain ⟨hx, hb, hml, ho, hts, rfl, hr, hlk, hK, hA, hst, hZ, hh9⟩ := C
  intro H locs ls hP hD hS hl
  exact lv_ldc hx hb ho (hts _ hm) d (kk H locs ls hP hD hS hl)
theorem g_ldc2 {index : Nat} {v : Int64} (C : Cx E X cc nL own Ts R0 ret hh) (hm : Cond.constantLong own index v ∈ Ts) (d : decode cc pc = .ok (.ldc2_w index, 3)) (kk : Gx E X ws nL lv (.long v :: st) (pc + 3) k n) : Gx E X ws nL lv st pc k n := by
  obtain ⟨p, l, e, R, s, m, args, below, meth, c, A, Q⟩ := X
  obtain ⟨hx, hb, hml, ho, hts, rfl, hr, hlk, hK, hA, hst, hZ, hh9⟩ := C
  intro H locs ls hP hD hS hl
  exact lv_ldc2 hx hb ho (hts _ hm) d (kk H locs ls hP hD hS hl)
theorem g_lconst {i : Fin 2} {v : Int64} (C : Cx E X cc nL own Ts R0 ret hh) (hv : Int64.ofNat (i : Nat) = v) (d : decode cc pc = .ok (.lconst i, 1)) (kk : Gx E X ws nL lv (.long v :: st) (pc + 1) k n) : Gx E X ws nL lv st pc k n := by
  obtain ⟨p, l, e, R, s, m, args, below, meth, c, A, Q⟩ := X
  obtain ⟨hx, hb, hml, ho, hts, rfl, hr, hlk, hK, hA, hst, hZ, hh9⟩ := C
  intro H locs ls hP hD hS hl
  exact lv_lconst hx hb d hv (kk H locs ls hP hD hS hl)
theorem g_iload_n {i : Fin 4} {q : Nat} {x : Int32} (C : Cx E X cc nL own Ts R0 ret hh) (j : Nat) (hj : lv[j]? = some (q, .int x)) (hi : (i : Nat) = q) (d : decode cc pc = .ok (.iload_n i, 1)) (kk : Gx E X ws nL lv (.int x :: st) (pc + 1) k n) : Gx E X ws nL lv st pc k n := by
  obtain ⟨p, l, e, R, s, m, args, below, meth, c, A, Q⟩ := X
  obtain ⟨hx, hb, hml, ho, hts, rfl, hr, hlk, hK, hA, hst, hZ, hh9⟩ := C
  intro H locs ls hP hD hS hl
  exact lv_iload_n hx hb d hi (lv_at hl j hj) (kk H locs ls hP hD hS hl)
theorem g_iload {q : Nat} {x : Int32} (C : Cx E X cc nL own Ts R0 ret hh) (j : Nat) (hj : lv[j]? = some (q, .int x)) (d : decode cc pc = .ok (.iload q, 2)) (kk : Gx E X ws nL lv (.int x :: st) (pc + 2) k n) : Gx E X ws nL lv st pc k n := by
  obtain ⟨p, l, e, R, s, m, args, below, meth, c, A, Q⟩ := X
  obtain ⟨hx, hb, hml, ho, hts, rfl, hr, hlk, hK, hA, hst, hZ, hh9⟩ := C
  intro H locs ls hP hD hS hl
  exact lv_iload hx hb d (lv_at hl j hj) (kk H locs ls hP hD hS hl)
theorem g_lload_n {i : Fin 4} {q : Nat} {x : Int64} (C : Cx E X cc nL own Ts R0 ret hh) (j : Nat) (hj : lv[j]? = some (q, .long x)) (hi : (i : Nat) = q) (d : decode cc pc = .ok (.lload_n i, 1)) (kk : Gx E X ws nL lv (.long x :: st) (pc + 1) k n) : Gx E X ws nL lv st pc k n := by
  obtain ⟨p, l, e, R, s, m, args, below, meth, c, A, Q⟩ := X
  obtain ⟨hx, hb, hml, ho, hts, rfl, hr, hlk, hK, hA, hst, hZ, hh9⟩ := C
  intro H locs ls hP hD hS hl
  exact lv_lload_n hx hb d hi (lv_at hl j hj) (kk H locs ls hP hD hS hl)
theorem g_lload {q : Nat} {x : Int64} (C : Cx E X cc nL own Ts R0 ret hh) (j : Nat) (hj : lv[j]? = some (q, .long x)) (d : decode cc pc = .ok (.lload q, 2)) (kk : Gx E X ws nL lv (.long x :: st) (pc + 2) k n) : Gx E X ws nL lv st pc k n := by
  obtain ⟨p, l, e, R, s, m, args, below, meth, c, A, Q⟩ := X
  obtain ⟨hx, hb, hml, ho, hts, rfl, hr, hlk, hK, hA, hst, hZ, hh9⟩ := C
  intro H locs ls hP hD hS hl
  exact lv_lload hx hb d (lv_at hl j hj) (kk H locs ls hP hD hS hl)
theorem g_aload_n {i : Fin 4} {q : Nat} {x : Nat} (C : Cx E X cc nL own Ts R0 ret hh) (j : Nat) (hj : lv[j]? = some (q, .ref x)) (hi : (i : Nat) = q) (d : decode cc pc = .ok (.aload_n i, 1)) (kk : Gx E X ws nL lv (.ref x :: st) (pc + 1) k n) : Gx E X ws nL lv st pc k n := by
  obtain ⟨p, l, e, R, s, m, args, below, meth, c, A, Q⟩ := X
  obtain ⟨hx, hb, hml, ho, hts, rfl, hr, hlk, hK, hA, hst, hZ, hh9⟩ := C
  intro H locs ls hP hD hS hl
  exact lv_aload_n hx hb d hi (lv_at hl j hj) (kk H locs ls hP hD hS hl)
theorem g_aload {q : Nat} {x : Nat} (C : Cx E X cc nL own Ts R0 ret hh) (j : Nat) (hj : lv[j]? = some (q, .ref x)) (d : decode cc pc = .ok (.aload q, 2)) (kk : Gx E X ws nL lv (.ref x :: st) (pc + 2) k n) : Gx E X ws nL lv st pc k n := by
  obtain ⟨p, l, e, R, s, m, args, below, meth, c, A, Q⟩ := X
  obtain ⟨hx, hb, hml, ho, hts, rfl, hr, hlk, hK, hA, hst, hZ, hh9⟩ := C
  intro H locs ls hP hD hS hl
  exact lv_aload hx hb d (lv_at hl j hj) (kk H locs ls hP hD hS hl)
theorem g_dload_n {i : Fin 4} {q : Nat} {x : UInt64} (C : Cx E X cc nL own Ts R0 ret hh) (j : Nat) (hj : lv[j]? = some (q, .double x)) (hi : (i : Nat) = q) (d : decode cc pc = .ok (.dload_n i, 1)) (kk : Gx E X ws nL lv (.double x :: st) (pc + 1) k n) : Gx E X ws nL lv st pc k n := by
  obtain ⟨p, l, e, R, s, m, args, below, meth, c, A, Q⟩ := X
  obtain ⟨hx, hb, hml, ho, hts, rfl, hr, hlk, hK, hA, hst, hZ, hh9⟩ := C
  intro H locs ls hP hD hS hl
  exact lv_dload_n hx hb d hi (lv_at hl j hj) (kk H locs ls hP hD hS hl)
theorem g_dload {q : Nat} {x : UInt64} (C : Cx E X cc nL own Ts R0 ret hh) (j : Nat) (hj : lv[j]? = some (q, .double x)) (d : decode cc pc = .ok (.dload q, 2)) (kk : Gx E X ws nL lv (.double x :: st) (pc + 2) k n) : Gx E X ws nL lv st pc k n := by
  obtain ⟨p, l, e, R, s, m, args, below, meth, c, A, Q⟩ := X
  obtain ⟨hx, hb, hml, ho, hts, rfl, hr, hlk, hK, hA, hst, hZ, hh9⟩ := C
  intro H locs ls hP hD hS hl
  exact lv_dload hx hb d (lv_at hl j hj) (kk H locs ls hP hD hS hl)
theorem g_fload_n {i : Fin 4} {q : Nat} {x : UInt32} (C : Cx E X cc nL own Ts R0 ret hh) (j : Nat) (hj : lv[j]? = some (q, .float x)) (hi : (i : Nat) = q) (d : decode cc pc = .ok (.fload_n i, 1)) (kk : Gx E X ws nL lv (.float x :: st) (pc + 1) k n) : Gx E X ws nL lv st pc k n := by
  obtain ⟨p, l, e, R, s, m, args, below, meth, c, A, Q⟩ := X
  obtain ⟨hx, hb, hml, ho, hts, rfl, hr, hlk, hK, hA, hst, hZ, hh9⟩ := C
  intro H locs ls hP hD hS hl
  exact lv_fload_n hx hb d hi (lv_at hl j hj) (kk H locs ls hP hD hS hl)
theorem g_fload {q : Nat} {x : UInt32} (C : Cx E X cc nL own Ts R0 ret hh) (j : Nat) (hj : lv[j]? = some (q, .float x)) (d : decode cc pc = .ok (.fload q, 2)) (kk : Gx E X ws nL lv (.float x :: st) (pc + 2) k n) : Gx E X ws nL lv st pc k n := by
  obtain ⟨p, l, e, R, s, m, args, below, meth, c, A, Q⟩ := X
  obtain ⟨hx, hb, hml, ho, hts, rfl, hr, hlk, hK, hA, hst, hZ, hh9⟩ := C
  intro H locs ls hP hD hS hl
  exact lv_fload hx hb d (lv_at hl j hj) (kk H locs ls hP hD hS hl)
theorem g_istore_n {i : Fin 4} {q : Nat} {x : Int32} (C : Cx E X cc nL own Ts R0 ret hh) (hl2 : (q, Value.int x) :: lv.filter (fun q9 => !(q9.1 == q) && !(q9.1 + 1 == q && q9.2.category == 2)) = lv2) (hq : q < nL) (hi : (i : Nat) = q) (d : decode cc pc = .ok (.istore_n i, 1)) (kk : Gx E X ws nL lv2 st (pc + 1) k n) : Gx E X ws nL lv (.int x :: st) pc k n := by
  obtain ⟨p, l, e, R, s, m, args, below, meth, c, A, Q⟩ := X
  obtain ⟨hx, hb, hml, ho, hts, rfl, hr, hlk, hK, hA, hst, hZ, hh9⟩ := C
  intro H locs ls hP hD hS hl
  exact lv_istore_n hx hb d hi hl hq hl2 (fun ls hl => (kk H locs ls hP hD hS hl))
theorem g_istore {q : Nat} {x : Int32} (C : Cx E X cc nL own Ts R0 ret hh) (hl2 : (q, Value.int x) :: lv.filter (fun q9 => !(q9.1 == q) && !(q9.1 + 1 == q && q9.2.category == 2)) = lv2) (hq : q < nL) (d : decode cc pc = .ok (.istore q, 2)) (kk : Gx E X ws nL lv2 st (pc + 2) k n) : Gx E X ws nL lv (.int x :: st) pc k n := by
  obtain ⟨p, l, e, R, s, m, args, below, meth, c, A, Q⟩ := X
  obtain ⟨hx, hb, hml, ho, hts, rfl, hr, hlk, hK, hA, hst, hZ, hh9⟩ := C
  intro H locs ls hP hD hS hl
  exact lv_istore hx hb d hl hq hl2 (fun ls hl => (kk H locs ls hP hD hS hl))
theorem g_astore_n {i : Fin 4} {q : Nat} {x : Nat} (C : Cx E X cc nL own Ts R0 ret hh) (hl2 : (q, Value.ref x) :: lv.filter (fun q9 => !(q9.1 == q) && !(q9.1 + 1 == q && q9.2.category == 2)) = lv2) (hq : q < nL) (hi : (i : Nat) = q) (d : decode cc pc = .ok (.astore_n i, 1)) (kk : Gx E X ws nL lv2 st (pc + 1) k n) : Gx E X ws nL lv (.ref x :: st) pc k n := by
  obtain ⟨p, l, e, R, s, m, args, below, meth, c, A, Q⟩ := X
  obtain ⟨hx, hb, hml, ho, hts, rfl, hr, hlk, hK, hA, hst, hZ, hh9⟩ := C
  intro H locs ls hP hD hS hl
  exact lv_astore_n hx hb d hi hl hq hl2 (fun ls hl => (kk H locs ls hP hD hS hl))
theorem g_astore {q : Nat} {x : Nat} (C : Cx E X cc nL own Ts R0 ret hh) (hl2 : (q, Value.ref x) :: lv.filter (fun q9 => !(q9.1 == q) && !(q9.1 + 1 == q && q9.2.category == 2)) = lv2) (hq : q < nL) (d : decode cc pc = .ok (.astore q, 2)) (kk : Gx E X ws nL lv2 st (pc + 2) k n) : Gx E X ws nL lv (.ref x :: st) pc k n := by
  obtain ⟨p, l, e, R, s, m, args, below, meth, c, A, Q⟩ := X
  obtain ⟨hx, hb, hml, ho, hts, rfl, hr, hlk, hK, hA, hst, hZ, hh9⟩ := C
  intro H locs ls hP hD hS hl
  exact lv_astore hx hb d hl hq hl2 (fun ls hl => (kk H locs ls hP hD hS hl))
theorem g_fstore_n {i : Fin 4} {q : Nat} {x : UInt32} (C : Cx E X cc nL own Ts R0 ret hh) (hl2 : (q, Value.float x) :: lv.filter (fun q9 => !(q9.1 == q) && !(q9.1 + 1 == q && q9.2.category == 2)) = lv2) (hq : q < nL) (hi : (i : Nat) = q) (d : decode cc pc = .ok (.fstore_n i, 1)) (kk : Gx E X ws nL lv2 st (pc + 1) k n) : Gx E X ws nL lv (.float x :: st) pc k n := by
  obtain ⟨p, l, e, R, s, m, args, below, meth, c, A, Q⟩ := X
  obtain ⟨hx, hb, hml, ho, hts, rfl, hr, hlk, hK, hA, hst, hZ, hh9⟩ := C
  intro H locs ls hP hD hS hl
  exact lv_fstore_n hx hb d hi hl hq hl2 (fun ls hl => (kk H locs ls hP hD hS hl))
theorem g_fstore {q : Nat} {x : UInt32} (C : Cx E X cc nL own Ts R0 ret hh) (hl2 : (q, Value.float x) :: lv.filter (fun q9 => !(q9.1 == q) && !(q9.1 + 1 == q && q9.2.category == 2)) = lv2) (hq : q < nL) (d : decode cc pc = .ok (.fstore q, 2)) (kk : Gx E X ws nL lv2 st (pc + 2) k n) : Gx E X ws nL lv (.float x :: st) pc k n := by
  obtain ⟨p, l, e, R, s, m, args, below, meth, c, A, Q⟩ := X
  obtain ⟨hx, hb, hml, ho, hts, rfl, hr, hlk, hK, hA, hst, hZ, hh9⟩ := C
  intro H locs ls hP hD hS hl
  exact lv_fstore hx hb d hl hq hl2 (fun ls hl => (kk H locs ls hP hD hS hl))
theorem g_lstore_n {i : Fin 4} {q : Nat} {x : Int64} (C : Cx E X cc nL own Ts R0 ret hh) (hl2 : (q, Value.long x) :: lv.filter (fun q9 => !(q9.1 == q) && (!(q9.1 == q + 1) && !(q9.1 + 1 == q && q9.2.category == 2))) = lv2) (hq : q + 1 < nL) (hi : (i : Nat) = q) (d : decode cc pc = .ok (.lstore_n i, 1)) (kk : Gx E X ws nL lv2 st (pc + 1) k n) : Gx E X ws nL lv (.long x :: st) pc k n := by
  obtain ⟨p, l, e, R, s, m, args, below, meth, c, A, Q⟩ := X
  obtain ⟨hx, hb, hml, ho, hts, rfl, hr, hlk, hK, hA, hst, hZ, hh9⟩ := C
  intro H locs ls hP hD hS hl
  exact lv_lstore_n hx hb d hi hl hq hl2 (fun ls hl => (kk H locs ls hP hD hS hl))
theorem g_lstore {q : Nat} {x : Int64} (C : Cx E X cc nL own Ts R0 ret hh) (hl2 : (q, Value.long x) :: lv.filter (fun q9 => !(q9.1 == q) && (!(q9.1 == q + 1) && !(q9.1 + 1 == q && q9.2.category == 2))) = lv2) (hq : q + 1 < nL) (d : decode cc pc = .ok (.lstore q, 2)) (kk : Gx E X ws nL lv2 st (pc + 2) k n) : Gx E X ws nL lv (.long x :: st) pc k n := by
  obtain ⟨p, l, e, R, s, m, args, below, meth, c, A, Q⟩ := X
  obtain ⟨hx, hb, hml, ho, hts, rfl, hr, hlk, hK, hA, hst, hZ, hh9⟩ := C
  intro H locs ls hP hD hS hl
  exact lv_lstore hx hb d hl hq hl2 (fun ls hl => (kk H locs ls hP hD hS hl))
theorem g_dstore_n {i : Fin 4} {q : Nat} {x : UInt64} (C : Cx E X cc nL own Ts R0 ret hh) (hl2 : (q, Value.double x) :: lv.filter (fun q9 => !(q9.1 == q) && (!(q9.1 == q + 1) && !(q9.1 + 1 == q && q9.2.category == 2))) = lv2) (hq : q + 1 < nL) (hi : (i : Nat) = q) (d : decode cc pc = .ok (.dstore_n i, 1)) (kk : Gx E X ws nL lv2 st (pc + 1) k n) : Gx E X ws nL lv (.double x :: st) pc k n := by
  obtain ⟨p, l, e, R, s, m, args, below, meth, c, A, Q⟩ := X
  obtain ⟨hx, hb, hml, ho, hts, rfl, hr, hlk, hK, hA, hst, hZ, hh9⟩ := C
  intro H locs ls hP hD hS hl
  exact lv_dstore_n hx hb d hi hl hq hl2 (fun ls hl => (kk H locs ls hP hD hS hl))
theorem g_dstore {q : Nat} {x : UInt64} (C : Cx E X cc nL own Ts R0 ret hh) (hl2 : (q, Value.double x) :: lv.filter (fun q9 => !(q9.1 == q) && (!(q9.1 == q + 1) && !(q9.1 + 1 == q && q9.2.category == 2))) = lv2) (hq : q + 1 < nL) (d : decode cc pc = .ok (.dstore q, 2)) (kk : Gx E X ws nL lv2 st (pc + 2) k n) : Gx E X ws nL lv (.double x :: st) pc k n := by
  obtain ⟨p, l, e, R, s, m, args, below, meth, c, A, Q⟩ := X
  obtain ⟨hx, hb, hml, ho, hts, rfl, hr, hlk, hK, hA, hst, hZ, hh9⟩ := C
  intro H locs ls hP hD hS hl
  exact lv_dstore hx hb d hl hq hl2 (fun ls hl => (kk H locs ls hP hD hS hl))
theorem g_iinc {q : Nat} {i : Int} {x v : Int32} (C : Cx E X cc nL own Ts R0 ret hh) (j : Nat) (hj : lv[j]? = some (q, .int x)) (hv : x + Int32.ofInt i = v) (hl2 : (q, Value.int v) :: lv.filter (fun q9 => !(q9.1 == q) && !(q9.1 + 1 == q && q9.2.category == 2)) = lv2) (hq : q < nL) (d : decode cc pc = .ok (.iinc q i, 3)) (kk : Gx E X ws nL lv2 st (pc + 3) k n) : Gx E X ws nL lv st pc k n := by
  obtain ⟨p, l, e, R, s, m, args, below, meth, c, A, Q⟩ := X
  obtain ⟨hx, hb, hml, ho, hts, rfl, hr, hlk, hK, hA, hst, hZ, hh9⟩ := C
  intro H locs ls hP hD hS hl
  exact lv_iinc hx hb d hl hj hv hq hl2 (fun ls hl => (kk H locs ls hP hD hS hl))
theorem g_iadd {x y : Int32} (C : Cx E X cc nL own Ts R0 ret hh) (d : decode cc pc = .ok (.iadd, 1)) (kk : Gx E X ws nL lv (.int (x + y) :: st) (pc + 1) k n) : Gx E X ws nL lv (.int y :: .int x :: st) pc k n := by
  obtain ⟨p, l, e, R, s, m, args, below, meth, c, A, Q⟩ := X
  obtain ⟨hx, hb, hml, ho, hts, rfl, hr, hlk, hK, hA, hst, hZ, hh9⟩ := C
  intro H locs ls hP hD hS hl
  exact lv_iadd hx hb d (kk H locs ls hP hD hS hl)
theorem g_isub {x y : Int32} (C : Cx E X cc nL own Ts R0 ret hh) (d : decode cc pc = .ok (.isub, 1)) (kk : Gx E X ws nL lv (.int (x - y) :: st) (pc + 1) k n) : Gx E X ws nL lv (.int y :: .int x :: st) pc k n := by
  obtain ⟨p, l, e, R, s, m, args, below, meth, c, A, Q⟩ := X
  obtain ⟨hx, hb, hml, ho, hts, rfl, hr, hlk, hK, hA, hst, hZ, hh9⟩ := C
  intro H locs ls hP hD hS hl
  exact lv_isub hx hb d (kk H locs ls hP hD hS hl)
theorem g_imul {x y : Int32} (C : Cx E X cc nL own Ts R0 ret hh) (d : decode cc pc = .ok (.imul, 1)) (kk : Gx E X ws nL lv (.int (x * y) :: st) (pc + 1) k n) : Gx E X ws nL lv (.int y :: .int x :: st) pc k n := by
  obtain ⟨p, l, e, R, s, m, args, below, meth, c, A, Q⟩ := X
  obtain ⟨hx, hb, hml, ho, hts, rfl, hr, hlk, hK, hA, hst, hZ, hh9⟩ := C
  intro H locs ls hP hD hS hl
  exact lv_imul hx hb d (kk H locs ls hP hD hS hl)
theorem g_iand {x y : Int32} (C : Cx E X cc nL own Ts R0 ret hh) (d : decode cc pc = .ok (.iand, 1)) (kk : Gx E X ws nL lv (.int (x &&& y) :: st) (pc + 1) k n) : Gx E X ws nL lv (.int y :: .int x :: st) pc k n := by
  obtain ⟨p, l, e, R, s, m, args, below, meth, c, A, Q⟩ := X
  obtain ⟨hx, hb, hml, ho, hts, rfl, hr, hlk, hK, hA, hst, hZ, hh9⟩ := C
  intro H locs ls hP hD hS hl
  exact lv_iand hx hb d (kk H locs ls hP hD hS hl)
theorem g_ladd {x y : Int64} (C : Cx E X cc nL own Ts R0 ret hh) (d : decode cc pc = .ok (.ladd, 1)) (kk : Gx E X ws nL lv (.long (x + y) :: st) (pc + 1) k n) : Gx E X ws nL lv (.long y :: .long x :: st) pc k n := by
  obtain ⟨p, l, e, R, s, m, args, below, meth, c, A, Q⟩ := X
  obtain ⟨hx, hb, hml, ho, hts, rfl, hr, hlk, hK, hA, hst, hZ, hh9⟩ := C
  intro H locs ls hP hD hS hl
  exact lv_ladd hx hb d (kk H locs ls hP hD hS hl)
theorem g_lmul {x y : Int64} (C : Cx E X cc nL own Ts R0 ret hh) (d : decode cc pc = .ok (.lmul, 1)) (kk : Gx E X ws nL lv (.long (x * y) :: st) (pc + 1) k n) : Gx E X ws nL lv (.long y :: .long x :: st) pc k n := by
  obtain ⟨p, l, e, R, s, m, args, below, meth, c, A, Q⟩ := X
  obtain ⟨hx, hb, hml, ho, hts, rfl, hr, hlk, hK, hA, hst, hZ, hh9⟩ := C
  intro H locs ls hP hD hS hl
  exact lv_lmul hx hb d (kk H locs ls hP hD hS hl)
theorem g_ineg {x : Int32} (C : Cx E X cc nL own Ts R0 ret hh) (d : decode cc pc = .ok (.ineg, 1)) (kk : Gx E X ws nL lv (.int (-x) :: st) (pc + 1) k n) : Gx E X ws nL lv (.int x :: st) pc k n := by
  obtain ⟨p, l, e, R, s, m, args, below, meth, c, A, Q⟩ := X
  obtain ⟨hx, hb, hml, ho, hts, rfl, hr, hlk, hK, hA, hst, hZ, hh9⟩ := C
  intro H locs ls hP hD hS hl
  exact lv_ineg hx hb d (kk H locs ls hP hD hS hl)
theorem g_lcmp {x y : Int64} (C : Cx E X cc nL own Ts R0 ret hh) (d : decode cc pc = .ok (.lcmp, 1)) (kk : Gx E X ws nL lv (.int (lg_cmp x y) :: st) (pc + 1) k n) : Gx E X ws nL lv (.long y :: .long x :: st) pc k n := by
  obtain ⟨p, l, e, R, s, m, args, below, meth, c, A, Q⟩ := X
  obtain ⟨hx, hb, hml, ho, hts, rfl, hr, hlk, hK, hA, hst, hZ, hh9⟩ := C
  intro H locs ls hP hD hS hl
  exact W.lcmp hx hb d (kk H locs ls hP hD hS hl)
theorem g_i2l {x : Int32} (C : Cx E X cc nL own Ts R0 ret hh) (d : decode cc pc = .ok (.i2l, 1)) (kk : Gx E X ws nL lv (.long x.toInt64 :: st) (pc + 1) k n) : Gx E X ws nL lv (.int x :: st) pc k n := by
  obtain ⟨p, l, e, R, s, m, args, below, meth, c, A, Q⟩ := X
  obtain ⟨hx, hb, hml, ho, hts, rfl, hr, hlk, hK, hA, hst, hZ, hh9⟩ := C
  intro H locs ls hP hD hS hl
  exact lv_i2l hx hb d rfl (kk H locs ls hP hD hS hl)
theorem g_i2c {x : Int32} (C : Cx E X cc nL own Ts R0 ret hh) (d : decode cc pc = .ok (.i2c, 1)) (kk : Gx E X ws nL lv (.int (x.toUInt32 % 65536).toInt32 :: st) (pc + 1) k n) : Gx E X ws nL lv (.int x :: st) pc k n := by
  obtain ⟨p, l, e, R, s, m, args, below, meth, c, A, Q⟩ := X
  obtain ⟨hx, hb, hml, ho, hts, rfl, hr, hlk, hK, hA, hst, hZ, hh9⟩ := C
  intro H locs ls hP hD hS hl
  exact lv_i2c hx hb d rfl (kk H locs ls hP hD hS hl)
theorem g_l2d {x : Int64} (C : Cx E X cc nL own Ts R0 ret hh) (d : decode cc pc = .ok (.l2d, 1)) (kk : Gx E X ws nL lv (.double (FP.l2d x) :: st) (pc + 1) k n) : Gx E X ws nL lv (.long x :: st) pc k n := by
  obtain ⟨p, l, e, R, s, m, args, below, meth, c, A, Q⟩ := X
  obtain ⟨hx, hb, hml, ho, hts, rfl, hr, hlk, hK, hA, hst, hZ, hh9⟩ := C
  intro H locs ls hP hD hS hl
  exact lv_l2d hx hb d (kk H locs ls hP hD hS hl)
theorem g_i2d {x : Int32} (C : Cx E X cc nL own Ts R0 ret hh) (d : decode cc pc = .ok (.i2d, 1)) (kk : Gx E X ws nL lv (.double (FP.i2d x) :: st) (pc + 1) k n) : Gx E X ws nL lv (.int x :: st) pc k n := by
  obtain ⟨p, l, e, R, s, m, args, below, meth, c, A, Q⟩ := X
  obtain ⟨hx, hb, hml, ho, hts, rfl, hr, hlk, hK, hA, hst, hZ, hh9⟩ := C
  intro H locs ls hP hD hS hl
  exact lv_i2d hx hb d (kk H locs ls hP hD hS hl)
theorem g_i2f {x : Int32} (C : Cx E X cc nL own Ts R0 ret hh) (d : decode cc pc = .ok (.i2f, 1)) (kk : Gx E X ws nL lv (.float (FP.i2f x) :: st) (pc + 1) k n) : Gx E X ws nL lv (.int x :: st) pc k n := by
  obtain ⟨p, l, e, R, s, m, args, below, meth, c, A, Q⟩ := X
  obtain ⟨hx, hb, hml, ho, hts, rfl, hr, hlk, hK, hA, hst, hZ, hh9⟩ := C
  intro H locs ls hP hD hS hl
  exact lv_i2f hx hb d (kk H locs ls hP hD hS hl)
theorem g_dup {v : Value} (C : Cx E X cc nL own Ts R0 ret hh) (hv : v.category = 1) (d : decode cc pc = .ok (.dup, 1)) (kk : Gx E X ws nL lv (v :: v :: st) (pc + 1) k n) : Gx E X ws nL lv (v :: st) pc k n := by
  obtain ⟨p, l, e, R, s, m, args, below, meth, c, A, Q⟩ := X
  obtain ⟨hx, hb, hml, ho, hts, rfl, hr, hlk, hK, hA, hst, hZ, hh9⟩ := C
  intro H locs ls hP hD hS hl
  exact lv_dup hx hb d hv (kk H locs ls hP hD hS hl)
theorem g_pop {v : Value} (C : Cx E X cc nL own Ts R0 ret hh) (hv : v.category = 1) (d : decode cc pc = .ok (.pop, 1)) (kk : Gx E X ws nL lv st (pc + 1) k n) : Gx E X ws nL lv (v :: st) pc k n := by
  obtain ⟨p, l, e, R, s, m, args, below, meth, c, A, Q⟩ := X
  obtain ⟨hx, hb, hml, ho, hts, rfl, hr, hlk, hK, hA, hst, hZ, hh9⟩ := C
  intro H locs ls hP hD hS hl
  exact lv_pop hx hb d hv (kk H locs ls hP hD hS hl)
theorem g_icmp_ge {x y : Int32} {off : Int} {tgt : Nat} (C : Cx E X cc nL own Ts R0 ret hh) (d : decode cc pc = .ok (.if_icmp .ge off, 3)) (ht : (pc : Int) + off = (tgt : Int)) (kt : y ≤ x → Gx E X ws nL lv st tgt k n) (kf : ¬ y ≤ x → Gx E X ws nL lv st (pc + 3) k n) : Gx E X ws nL lv (.int y :: .int x :: st) pc k n := by
  obtain ⟨p, l, e, R, s, m, args, below, meth, c, A, Q⟩ := X
  obtain ⟨hx, hb, hml, ho, hts, rfl, hr, hlk, hK, hA, hst, hZ, hh9⟩ := C
  intro H locs ls hP hD hS hl
  exact lv_icmp_ge hx hb d ht (fun c9 => kt c9 H locs ls hP hD hS hl) (fun c9 => kf c9 H locs ls hP hD hS hl)
theorem g_icmp_eq {x y : Int32} {off : Int} {tgt : Nat} (C : Cx E X cc nL own Ts R0 ret hh) (d : decode cc pc = .ok (.if_icmp .eq off, 3)) (ht : (pc : Int) + off = (tgt : Int)) (kt : x = y → Gx E X ws nL lv st tgt k n) (kf : ¬ x = y → Gx E X ws nL lv st (pc + 3) k n) : Gx E X ws nL lv (.int y :: .int x :: st) pc k n := by
  obtain ⟨p, l, e, R, s, m, args, below, meth, c, A, Q⟩ := X
  obtain ⟨hx, hb, hml, ho, hts, rfl, hr, hlk, hK, hA, hst, hZ, hh9⟩ := C
  intro H locs ls hP hD hS hl
  exact lv_icmp_eq hx hb d ht (fun c9 => kt c9 H locs ls hP hD hS hl) (fun c9 => kf c9 H locs ls hP hD hS hl)
theorem g_icmp_ne {x y : Int32} {off : Int} {tgt : Nat} (C : Cx E X cc nL own Ts R0 ret hh) (d : decode cc pc = .ok (.if_icmp .ne off, 3)) (ht : (pc : Int) + off = (tgt : Int)) (kt : ¬ x = y → Gx E X ws nL lv st tgt k n) (kf : x = y → Gx E X ws nL lv st (pc + 3) k n) : Gx E X ws nL lv (.int y :: .int x :: st) pc k n := by
  obtain ⟨p, l, e, R, s, m, args, below, meth, c, A, Q⟩ := X
  obtain ⟨hx, hb, hml, ho, hts, rfl, hr, hlk, hK, hA, hst, hZ, hh9⟩ := C
  intro H locs ls hP hD hS hl
  exact lv_icmp_ne hx hb d ht (fun c9 => kt c9 H locs ls hP hD hS hl) (fun c9 => kf c9 H locs ls hP hD hS hl)
theorem g_icmp_lt {x y : Int32} {off : Int} {tgt : Nat} (C : Cx E X cc nL own Ts R0 ret hh) (d : decode cc pc = .ok (.if_icmp .lt off, 3)) (ht : (pc : Int) + off = (tgt : Int)) (kt : x < y → Gx E X ws nL lv st tgt k n) (kf : ¬ x < y → Gx E X ws nL lv st (pc + 3) k n) : Gx E X ws nL lv (.int y :: .int x :: st) pc k n := by
  obtain ⟨p, l, e, R, s, m, args, below, meth, c, A, Q⟩ := X
  obtain ⟨hx, hb, hml, ho, hts, rfl, hr, hlk, hK, hA, hst, hZ, hh9⟩ := C
  intro H locs ls hP hD hS hl
  exact lv_icmp_lt hx hb d ht (fun c9 => kt c9 H locs ls hP hD hS hl) (fun c9 => kf c9 H locs ls hP hD hS hl)
theorem g_icmp_gt {x y : Int32} {off : Int} {tgt : Nat} (C : Cx E X cc nL own Ts R0 ret hh) (d : decode cc pc = .ok (.if_icmp .gt off, 3)) (ht : (pc : Int) + off = (tgt : Int)) (kt : y < x → Gx E X ws nL lv st tgt k n) (kf : ¬ y < x → Gx E X ws nL lv st (pc + 3) k n) : Gx E X ws nL lv (.int y :: .int x :: st) pc k n := by
  obtain ⟨p, l, e, R, s, m, args, below, meth, c, A, Q⟩ := X
  obtain ⟨hx, hb, hml, ho, hts, rfl, hr, hlk, hK, hA, hst, hZ, hh9⟩ := C
  intro H locs ls hP hD hS hl
  exact lv_icmp_gt hx hb d ht (fun c9 => kt c9 H locs ls hP hD hS hl) (fun c9 => kf c9 H locs ls hP hD hS hl)
theorem g_icmp_le {x y : Int32} {off : Int} {tgt : Nat} (C : Cx E X cc nL own Ts R0 ret hh) (d : decode cc pc = .ok (.if_icmp .le off, 3)) (ht : (pc : Int) + off = (tgt : Int)) (kt : x ≤ y → Gx E X ws nL lv st tgt k n) (kf : ¬ x ≤ y → Gx E X ws nL lv st (pc + 3) k n) : Gx E X ws nL lv (.int y :: .int x :: st) pc k n := by
  obtain ⟨p, l, e, R, s, m, args, below, meth, c, A, Q⟩ := X
  obtain ⟨hx, hb, hml, ho, hts, rfl, hr, hlk, hK, hA, hst, hZ, hh9⟩ := C
  intro H locs ls hP hD hS hl
  exact lv_icmp_le hx hb d ht (fun c9 => kt c9 H locs ls hP hD hS hl) (fun c9 => kf c9 H locs ls hP hD hS hl)
theorem g_if_ge {x : Int32} {off : Int} {tgt : Nat} (C : Cx E X cc nL own Ts R0 ret hh) (d : decode cc pc = .ok (.ifCond .ge off, 3)) (ht : (pc : Int) + off = (tgt : Int)) (kt : 0 ≤ x → Gx E X ws nL lv st tgt k n) (kf : ¬ 0 ≤ x → Gx E X ws nL lv st (pc + 3) k n) : Gx E X ws nL lv (.int x :: st) pc k n := by
  obtain ⟨p, l, e, R, s, m, args, below, meth, c, A, Q⟩ := X
  obtain ⟨hx, hb, hml, ho, hts, rfl, hr, hlk, hK, hA, hst, hZ, hh9⟩ := C
  intro H locs ls hP hD hS hl
  exact lv_if_ge hx hb d ht (fun c9 => kt c9 H locs ls hP hD hS hl) (fun c9 => kf c9 H locs ls hP hD hS hl)
theorem g_if_eq {x : Int32} {off : Int} {tgt : Nat} (C : Cx E X cc nL own Ts R0 ret hh) (d : decode cc pc = .ok (.ifCond .eq off, 3)) (ht : (pc : Int) + off = (tgt : Int)) (kt : x = 0 → Gx E X ws nL lv st tgt k n) (kf : ¬ x = 0 → Gx E X ws nL lv st (pc + 3) k n) : Gx E X ws nL lv (.int x :: st) pc k n := by
  obtain ⟨p, l, e, R, s, m, args, below, meth, c, A, Q⟩ := X
  obtain ⟨hx, hb, hml, ho, hts, rfl, hr, hlk, hK, hA, hst, hZ, hh9⟩ := C
  intro H locs ls hP hD hS hl
  exact lv_if_eq hx hb d ht (fun c9 => kt c9 H locs ls hP hD hS hl) (fun c9 => kf c9 H locs ls hP hD hS hl)
theorem g_if_ne {x : Int32} {off : Int} {tgt : Nat} (C : Cx E X cc nL own Ts R0 ret hh) (d : decode cc pc = .ok (.ifCond .ne off, 3)) (ht : (pc : Int) + off = (tgt : Int)) (kt : ¬ x = 0 → Gx E X ws nL lv st tgt k n) (kf : x = 0 → Gx E X ws nL lv st (pc + 3) k n) : Gx E X ws nL lv (.int x :: st) pc k n := by
  obtain ⟨p, l, e, R, s, m, args, below, meth, c, A, Q⟩ := X
  obtain ⟨hx, hb, hml, ho, hts, rfl, hr, hlk, hK, hA, hst, hZ, hh9⟩ := C
  intro H locs ls hP hD hS hl
  exact lv_if_ne hx hb d ht (fun c9 => kt c9 H locs ls hP hD hS hl) (fun c9 => kf c9 H locs ls hP hD hS hl)
theorem g_if_lt {x : Int32} {off : Int} {tgt : Nat} (C : Cx E X cc nL own Ts R0 ret hh) (d : decode cc pc = .ok (.ifCond .lt off, 3)) (ht : (pc : Int) + off = (tgt : Int)) (kt : x < 0 → Gx E X ws nL lv st tgt k n) (kf : ¬ x < 0 → Gx E X ws nL lv st (pc + 3) k n) : Gx E X ws nL lv (.int x :: st) pc k n := by
  obtain ⟨p, l, e, R, s, m, args, below, meth, c, A, Q⟩ := X
  obtain ⟨hx, hb, hml, ho, hts, rfl, hr, hlk, hK, hA, hst, hZ, hh9⟩ := C
  intro H locs ls hP hD hS hl
  exact lv_if_lt hx hb d ht (fun c9 => kt c9 H locs ls hP hD hS hl) (fun c9 => kf c9 H locs ls hP hD hS hl)
theorem g_if_gt {x : Int32} {off : Int} {tgt : Nat} (C : Cx E X cc nL own Ts R0 ret hh) (d : decode cc pc = .ok (.ifCond .gt off, 3)) (ht : (pc : Int) + off = (tgt : Int)) (kt : 0 < x → Gx E X ws nL lv st tgt k n) (kf : ¬ 0 < x → Gx E X ws nL lv st (pc + 3) k n) : Gx E X ws nL lv (.int x :: st) pc k n := by
  obtain ⟨p, l, e, R, s, m, args, below, meth, c, A, Q⟩ := X
  obtain ⟨hx, hb, hml, ho, hts, rfl, hr, hlk, hK, hA, hst, hZ, hh9⟩ := C
  intro H locs ls hP hD hS hl
  exact lv_if_gt hx hb d ht (fun c9 => kt c9 H locs ls hP hD hS hl) (fun c9 => kf c9 H locs ls hP hD hS hl)
theorem g_if_le {x : Int32} {off : Int} {tgt : Nat} (C : Cx E X cc nL own Ts R0 ret hh) (d : decode cc pc = .ok (.ifCond .le off, 3)) (ht : (pc : Int) + off = (tgt : Int)) (kt : x ≤ 0 → Gx E X ws nL lv st tgt k n) (kf : ¬ x ≤ 0 → Gx E X ws nL lv st (pc + 3) k n) : Gx E X ws nL lv (.int x :: st) pc k n := by
  obtain ⟨p, l, e, R, s, m, args, below, meth, c, A, Q⟩ := X
  obtain ⟨hx, hb, hml, ho, hts, rfl, hr, hlk, hK, hA, hst, hZ, hh9⟩ := C
  intro H locs ls hP hD hS hl
  exact lv_if_le hx hb d ht (fun c9 => kt c9 H locs ls hP hD hS hl) (fun c9 => kf c9 H locs ls hP hD hS hl)
theorem g_goto {off : Int} {tgt : Nat} (C : Cx E X cc nL own Ts R0 ret hh) (d : decode cc pc = .ok (.goto off, 3)) (ht : (pc : Int) + off = (tgt : Int)) (kk : Gx E X ws nL lv st tgt k n) : Gx E X ws nL lv st pc k n := by
  obtain ⟨p, l, e, R, s, m, args, below, meth, c, A, Q⟩ := X
  obtain ⟨hx, hb, hml, ho, hts, rfl, hr, hlk, hK, hA, hst, hZ, hh9⟩ := C
  intro H locs ls hP hD hS hl
  exact lv_goto hx hb d ht (kk H locs ls hP hD hS hl)
theorem g_ifnull {a : Nat} {off : Int} (C : Cx E X cc nL own Ts R0 ret hh) (d : decode cc pc = .ok (.ifnull off, 3)) (kk : Gx E X ws nL lv st (pc + 3) k n) : Gx E X ws nL lv (.ref a :: st) pc k n := by
  obtain ⟨p, l, e, R, s, m, args, below, meth, c, A, Q⟩ := X
  obtain ⟨hx, hb, hml, ho, hts, rfl, hr, hlk, hK, hA, hst, hZ, hh9⟩ := C
  intro H locs ls hP hD hS hl
  exact lv_ifnull hx hb d (kk H locs ls hP hD hS hl)
theorem g_ifnonnull {a : Nat} {off : Int} {tgt : Nat} (C : Cx E X cc nL own Ts R0 ret hh) (d : decode cc pc = .ok (.ifnonnull off, 3)) (ht : (pc : Int) + off = (tgt : Int)) (kk : Gx E X ws nL lv st tgt k n) : Gx E X ws nL lv (.ref a :: st) pc k n := by
  obtain ⟨p, l, e, R, s, m, args, below, meth, c, A, Q⟩ := X
  obtain ⟨hx, hb, hml, ho, hts, rfl, hr, hlk, hK, hA, hst, hZ, hh9⟩ := C
  intro H locs ls hP hD hS hl
  exact lv_ifnonnull hx hb d ht (kk H locs ls hP hD hS hl)
theorem g_alen {a : Nat} {cA : ClassId} {x : vp_A} {ty : FieldType} (C : Cx E X cc nL own Ts R0 ret hh) (q0 t0 : Nat) (ha : ws[q0]? = some (a, .inl (cA, x))) (ht : (tyE E)[t0]? = some (cA, ty)) (d : decode cc pc = .ok (.arraylength, 1)) (kk : Gx E X ws nL lv (.int (nI x.1) :: st) (pc + 1) k n) : Gx E X ws nL lv (.ref a :: st) pc k n := by
  obtain ⟨p, l, e, R, s, m, args, below, meth, c, A, Q⟩ := X
  obtain ⟨hx, hb, hml, ho, hts, rfl, hr, hlk, hK, hA, hst, hZ, hh9⟩ := C
  intro H locs ls hP hD hS hl
  exact va_alen hx hb hK hP q0 t0 ha ht rfl d (kk H locs ls hP hD hS hl)
theorem g_alen4 {a : Nat} {x : (Nat → Int32) ⊕ (Nat → Int64) ⊕ (Nat → UInt32) ⊕ (Nat → UInt64) ⊕ (Nat → Option Nat)} (C : Cx E X cc nL own Ts R0 ret hh) (q0 : Nat) (ha : ws[q0]? = some (a, .inl (cH E, 4, x))) (d : decode cc pc = .ok (.arraylength, 1)) (kk : Gx E X ws nL lv (.int 4 :: st) (pc + 1) k n) : Gx E X ws nL lv (.ref a :: st) pc k n := by
  obtain ⟨p, l, e, R, s, m, args, below, meth, c, A, Q⟩ := X
  obtain ⟨hx, hb, hml, ho, hts, rfl, hr, hlk, hK, hA, hst, hZ, hh9⟩ := C
  intro H locs ls hP hD hS hl
  exact va_alen hx hb hK hP q0 1 ha rfl rfl d (kk H locs ls hP hD hS hl)
theorem g_aald4 {a a9 N : Nat} {f : Nat → Option Nat} {i : Int32} (C : Cx E X cc nL own Ts R0 ret hh) (q0 : Nat) (ha : ws[q0]? = some (a, .inl (cH E, N, .inr (.inr (.inr (.inr f)))))) (hin : vp_in i N) (hf : va_rf (f i.toNatClampNeg) = .ref a9) (d : decode cc pc = .ok (.aaload, 1)) (kk : Gx E X ws nL lv (.ref a9 :: st) (pc + 1) k n) : Gx E X ws nL lv (.int i :: .ref a :: st) pc k n := by
  obtain ⟨p, l, e, R, s, m, args, below, meth, c, A, Q⟩ := X
  obtain ⟨hx, hb, hml, ho, hts, rfl, hr, hlk, hK, hA, hst, hZ, hh9⟩ := C
  intro H locs ls hP hD hS hl
  exact va_aldq hx hb hK hP q0 1 ha rfl hin d (by rw [hf]; exact (kk H locs ls hP hD hS hl))
theorem g_iald {a N : Nat} {f : Nat → Int32} {i : Int32} (C : Cx E X cc nL own Ts R0 ret hh) (q0 : Nat) (ha : ws[q0]? = some (a, .inl (cI E, N, .inl f))) (hin : vp_in i N) (d : decode cc pc = .ok (.iaload, 1)) (kk : Gx E X ws nL lv (.int (f i.toNatClampNeg) :: st) (pc + 1) k n) : Gx E X ws nL lv (.int i :: .ref a :: st) pc k n := by
  obtain ⟨p, l, e, R, s, m, args, below, meth, c, A, Q⟩ := X
  obtain ⟨hx, hb, hml, ho, hts, rfl, hr, hlk, hK, hA, hst, hZ, hh9⟩ := C
  intro H locs ls hP hD hS hl
  exact va_iald hx hb hK hP q0 0 ha rfl hin d (kk H locs ls hP hD hS hl)
theorem g_lald {a N : Nat} {f : Nat → Int64} {i : Int32} (C : Cx E X cc nL own Ts R0 ret hh) (q0 : Nat) (ha : ws[q0]? = some (a, .inl (cJ E, N, .inr (.inl f)))) (hin : vp_in i N) (d : decode cc pc = .ok (.laload, 1)) (kk : Gx E X ws nL lv (.long (f i.toNatClampNeg) :: st) (pc + 1) k n) : Gx E X ws nL lv (.int i :: .ref a :: st) pc k n := by
  obtain ⟨p, l, e, R, s, m, args, below, meth, c, A, Q⟩ := X
  obtain ⟨hx, hb, hml, ho, hts, rfl, hr, hlk, hK, hA, hst, hZ, hh9⟩ := C
  intro H locs ls hP hD hS hl
  exact va_lald hx hb hK hP q0 2 ha rfl hin d (kk H locs ls hP hD hS hl)
theorem g_dald {a N : Nat} {f : Nat → UInt64} {i : Int32} (C : Cx E X cc nL own Ts R0 ret hh) (q0 : Nat) (ha : ws[q0]? = some (a, .inl (cD E, N, .inr (.inr (.inr (.inl f)))))) (hin : vp_in i N) (d : decode cc pc = .ok (.daload, 1)) (kk : Gx E X ws nL lv (.double (f i.toNatClampNeg) :: st) (pc + 1) k n) : Gx E X ws nL lv (.int i :: .ref a :: st) pc k n := by
  obtain ⟨p, l, e, R, s, m, args, below, meth, c, A, Q⟩ := X
  obtain ⟨hx, hb, hml, ho, hts, rfl, hr, hlk, hK, hA, hst, hZ, hh9⟩ := C
  intro H locs ls hP hD hS hl
  exact va_dald hx hb hK hP q0 3 ha rfl hin d (kk H locs ls hP hD hS hl)
theorem g_aald {a N : Nat} {f : Nat → Option Nat} {i : Int32} (C : Cx E X cc nL own Ts R0 ret hh) (q0 : Nat) (ha : ws[q0]? = some (a, .inl (cH E, N, .inr (.inr (.inr (.inr f)))))) (hin : vp_in i N) (d : decode cc pc = .ok (.aaload, 1)) (kk : Gx E X ws nL lv (va_rf (f i.toNatClampNeg) :: st) (pc + 1) k n) : Gx E X ws nL lv (.int i :: .ref a :: st) pc k n := by
  obtain ⟨p, l, e, R, s, m, args, below, meth, c, A, Q⟩ := X
  obtain ⟨hx, hb, hml, ho, hts, rfl, hr, hlk, hK, hA, hst, hZ, hh9⟩ := C
  intro H locs ls hP hD hS hl
  exact va_aldq hx hb hK hP q0 1 ha rfl hin d (kk H locs ls hP hD hS hl)
theorem g_iast {a N : Nat} {f : Nat → Int32} {i x : Int32} {ws2 : va_W} (C : Cx E X cc nL own Ts R0 ret hh) (q0 : Nat) (ha : ws[q0]? = some (a, .inl (cI E, N, .inl f))) (hw : ws.set q0 (a, .inl (cI E, N, .inl (upd f i.toNatClampNeg x))) = ws2) (hin : vp_in i N) (d : decode cc pc = .ok (.iastore, 1)) (kk : Gx E X ws2 nL lv st (pc + 1) k n) : Gx E X ws nL lv (.int x :: .int i :: .ref a :: st) pc k n := by
  obtain ⟨p, l, e, R, s, m, args, below, meth, c, A, Q⟩ := X
  obtain ⟨hx, hb, hml, ho, hts, rfl, hr, hlk, hK, hA, hst, hZ, hh9⟩ := C
  intro H locs ls hP hD hS hl
  subst hw
  exact va_iast hx hb hK hP hD hS q0 0 ha rfl hin d (fun H locs hP hD hS => kk H locs ls hP hD hS hl)
theorem g_last {a N : Nat} {f : Nat → Int64} {i : Int32} {x : Int64} {ws2 : va_W} (C : Cx E X cc nL own Ts R0 ret hh) (q0 : Nat) (ha : ws[q0]? = some (a, .inl (cJ E, N, .inr (.inl f)))) (hw : ws.set q0 (a, .inl (cJ E, N, .inr (.inl (vp_updL f i.toNatClampNeg x)))) = ws2) (hin : vp_in i N) (d : decode cc pc = .ok (.lastore, 1)) (kk : Gx E X ws2 nL lv st (pc + 1) k n) : Gx E X ws nL lv (.long x :: .int i :: .ref a :: st) pc k n := by
  obtain ⟨p, l, e, R, s, m, args, below, meth, c, A, Q⟩ := X
  obtain ⟨hx, hb, hml, ho, hts, rfl, hr, hlk, hK, hA, hst, hZ, hh9⟩ := C
  intro H locs ls hP hD hS hl
  subst hw
  exact va_last hx hb hK hP hD hS q0 2 ha rfl hin d (fun H locs hP hD hS => kk H locs ls hP hD hS hl)
theorem g_dast {a N : Nat} {f : Nat → UInt64} {i : Int32} {x : UInt64} {ws2 : va_W} (C : Cx E X cc nL own Ts R0 ret hh) (q0 : Nat) (ha : ws[q0]? = some (a, .inl (cD E, N, .inr (.inr (.inr (.inl f)))))) (hw : ws.set q0 (a, .inl (cD E, N, .inr (.inr (.inr (.inl (vf_upd f i.toNatClampNeg x)))))) = ws2) (hin : vp_in i N) (d : decode cc pc = .ok (.dastore, 1)) (kk : Gx E X ws2 nL lv st (pc + 1) k n) : Gx E X ws nL lv (.double x :: .int i :: .ref a :: st) pc k n := by
  obtain ⟨p, l, e, R, s, m, args, below, meth, c, A, Q⟩ := X
  obtain ⟨hx, hb, hml, ho, hts, rfl, hr, hlk, hK, hA, hst, hZ, hh9⟩ := C
  intro H locs ls hP hD hS hl
  subst hw
  exact va_dast hx hb hK hP hD hS q0 3 ha rfl hin d (fun H locs hP hD hS => kk H locs ls hP hD hS hl)
theorem g_copy {a N : Nat} {f : Nat → Int32} {sp dp c9 : Int32} {ws2 : va_W} {index : Nat} (C : Cx E X cc nL own Ts R0 ret hh) (hm1 : Cond.methodLink own index arraycopyName ∈ Ts) (hm2 : Cond.native arraycopyName ∈ Ts) (hm3 : Cond.static arraycopyName ∈ Ts) (hm4 : Cond.initialized "java/lang/System" ∈ Ts) (q0 : Nat) (ha : ws[q0]? = some (a, .inl (cI E, N, .inl f))) (h1 : ¬ sp < 0) (h2 : ¬ dp < 0) (h3 : ¬ c9 < 0) (h4 : sp.toNatClampNeg + c9.toNatClampNeg ≤ N) (h5 : dp.toNatClampNeg + c9.toNatClampNeg ≤ N) (hw : ws.set q0 (a, .inl (cI E, N, .inl (va_cpy f f sp.toNatClampNeg dp.toNatClampNeg c9.toNatClampNeg))) = ws2) (hR : 1 ≤ R0.frames ∧ (st.map fun v => v.category).sum + (nativeFrameWords "java/lang/System" "arraycopy" 5 + 11) ≤ R0.locals) (d : decode cc pc = .ok (.invokestatic index, 3)) (kk : Gx E X ws2 nL lv st (pc + 3) k n) : Gx E X ws nL lv (.int c9 :: .int dp :: .ref a :: .int sp :: .ref a :: st) pc k n := by
  obtain ⟨p, l, e, R, s, m, args, below, meth, c, A, Q⟩ := X
  obtain ⟨hx, hb, hml, ho, hts, rfl, hr, hlk, hK, hA, hst, hZ, hh9⟩ := C
  intro H locs ls hP hD hS hl
  subst hw
  exact va_copyi hx hb (hml.trans hl.1.symm) ho (hts _ hm1) (hts _ hm2) (hts _ hm3) (hts _ hm4) hK hP hD hS q0 q0 0 0 ha ha rfl rfl rfl h1 h2 h3 h4 h5 (fun _ _ => rfl) hR.1 hR.2 d (fun H locs hP hD hS => kk H locs ls hP hD hS hl)
theorem g_mmax {x y : Int32} {index : Nat} (C : Cx E X cc nL own Ts R0 ret hh) (hm1 : Cond.methodLink own index Lib.Math.max.name ∈ Ts) (hm2 : Cond.static Lib.Math.max.name ∈ Ts) (hm3 : Cond.initialized "java/lang/Math" ∈ Ts) (hm4 : Cond.code Lib.Math.max.name Lib.Math.max.code 2 (some .int) ∈ Ts) (hR : 1 ≤ R0.frames ∧ (st.map fun v => v.category).sum + 13 ≤ R0.locals ∧ k ≤ R0.cells ∧ n ≤ R0.slots) (d : decode cc pc = .ok (.invokestatic index, 3)) (kk : Gx E X ws nL lv (.int (if x < y then y else x) :: st) (pc + 3) k n) : Gx E X ws nL lv (.int y :: .int x :: st) pc k n := by
  obtain ⟨p, l, e, R, s, m, args, below, meth, c, A, Q⟩ := X
  obtain ⟨hx, hb, hml, ho, hts, rfl, hr, hlk, hK, hA, hst, hZ, hh9⟩ := C
  intro H locs ls hP hD hS hl
  exact va_mmax hx hb (hml.trans hl.1.symm) ho (hts _ hm1) (hts _ hm2) (hts _ hm3) (hts _ hm4) hR.1 hR.2.1 hR.2.2.1 hR.2.2.2 d (kk H locs ls hP hD hS hl)
theorem g_mmin {x y : Int32} {index : Nat} (C : Cx E X cc nL own Ts R0 ret hh) (hm1 : Cond.methodLink own index Lib.Math.min.name ∈ Ts) (hm2 : Cond.static Lib.Math.min.name ∈ Ts) (hm3 : Cond.initialized "java/lang/Math" ∈ Ts) (hm4 : Cond.code Lib.Math.min.name Lib.Math.min.code 2 (some .int) ∈ Ts) (hR : 1 ≤ R0.frames ∧ (st.map fun v => v.category).sum + 13 ≤ R0.locals ∧ k ≤ R0.cells ∧ n ≤ R0.slots) (d : decode cc pc = .ok (.invokestatic index, 3)) (kk : Gx E X ws nL lv (.int (if y < x then y else x) :: st) (pc + 3) k n) : Gx E X ws nL lv (.int y :: .int x :: st) pc k n := by
  obtain ⟨p, l, e, R, s, m, args, below, meth, c, A, Q⟩ := X
  obtain ⟨hx, hb, hml, ho, hts, rfl, hr, hlk, hK, hA, hst, hZ, hh9⟩ := C
  intro H locs ls hP hD hS hl
  exact va_mmin hx hb (hml.trans hl.1.symm) ho (hts _ hm1) (hts _ hm2) (hts _ hm3) (hts _ hm4) hR.1 hR.2.1 hR.2.2.1 hR.2.2.2 d (kk H locs ls hP hD hS hl)
theorem g_X0_times {v0 v1 : Value} {a index : Nat} (C : Cx E X cc nL own Ts R0 ret hh) (hin : ∀ w ∈ wsX00, w ∈ Ts) (hm : Cond.fieldLink own index "Bookinghouse$Crowd" "times" "LBookinghouse$Row;" ∈ Ts) (q0 : Nat) (he : ws[q0]? = some (a, .inr (2, [v0, v1]))) (d : decode cc pc = .ok (.getfield index, 3)) (kk : Gx E X ws nL lv (v0 :: st) (pc + 3) k n) : Gx E X ws nL lv (.ref a :: st) pc k n := by
  obtain ⟨p, l, e, R, s, m, args, below, meth, c, A, Q⟩ := X
  obtain ⟨hx, hb, hml, ho, hts, rfl, hr, hlk, hK, hA, hst, hZ, hh9⟩ := C
  intro H locs ls hP hD hS hl
  exact va_get (D := E.1) (ci := 2) (C := RX0) (T := TX0) (N := 2) hx hb hts hin ho hK hP q0 he rfl 0 (by decide) (hts _ hm) (fun _ h9 => h9) rfl d (kk H locs ls hP hD hS hl)
theorem g_X0_timesN {v0 v1 : Value} {a index : Nat} {cc : ByteArray} {nL : Nat} (C : Cx E X cc nL RX4 Ts R0 ret hh) (hin : ∀ w ∈ wsX00, w ∈ Ts) (hm : (index, "Bookinghouse$Crowd", "times", "LBookinghouse$Row;") ∈ gFn) (q0 : Nat) (he : ws[q0]? = some (a, .inr (2, [v0, v1]))) (d : decode cc pc = .ok (.getfield index, 3)) (kk : Gx E X ws nL lv (v0 :: st) (pc + 3) k n) : Gx E X ws nL lv (.ref a :: st) pc k n := by
  obtain ⟨p, l, e, R, s, m, args, below, meth, c, A, Q⟩ := X
  obtain ⟨hx, hb, hml, ho, hts, rfl, hr, hlk, hK, hA, hst, hZ, hh9⟩ := C
  intro H locs ls hP hD hS hl
  exact va_getN (D := E.1) (ci := 2) (C := RX0) (T := TX0) (N := 2) (host := RX4) hx hb hts hin ho hK hP q0 he rfl 0 (by decide) ((hZ.2.2.2.2.2.2.1 _ hm).use rfl) (fun _ h9 => h9) rfl d (kk H locs ls hP hD hS hl)
theorem g_X0_changes {v0 v1 : Value} {a index : Nat} (C : Cx E X cc nL own Ts R0 ret hh) (hin : ∀ w ∈ wsX00, w ∈ Ts) (hm : Cond.fieldLink own index "Bookinghouse$Crowd" "changes" "LBookinghouse$Row;" ∈ Ts) (q0 : Nat) (he : ws[q0]? = some (a, .inr (2, [v0, v1]))) (d : decode cc pc = .ok (.getfield index, 3)) (kk : Gx E X ws nL lv (v1 :: st) (pc + 3) k n) : Gx E X ws nL lv (.ref a :: st) pc k n := by
  obtain ⟨p, l, e, R, s, m, args, below, meth, c, A, Q⟩ := X
  obtain ⟨hx, hb, hml, ho, hts, rfl, hr, hlk, hK, hA, hst, hZ, hh9⟩ := C
  intro H locs ls hP hD hS hl
  exact va_get (D := E.1) (ci := 2) (C := RX0) (T := TX0) (N := 2) hx hb hts hin ho hK hP q0 he rfl 1 (by decide) (hts _ hm) (fun _ h9 => h9) rfl d (kk H locs ls hP hD hS hl)
theorem g_X0_changesN {v0 v1 : Value} {a index : Nat} {cc : ByteArray} {nL : Nat} (C : Cx E X cc nL RX4 Ts R0 ret hh) (hin : ∀ w ∈ wsX00, w ∈ Ts) (hm : (index, "Bookinghouse$Crowd", "changes", "LBookinghouse$Row;") ∈ gFn) (q0 : Nat) (he : ws[q0]? = some (a, .inr (2, [v0, v1]))) (d : decode cc pc = .ok (.getfield index, 3)) (kk : Gx E X ws nL lv (v1 :: st) (pc + 3) k n) : Gx E X ws nL lv (.ref a :: st) pc k n := by
  obtain ⟨p, l, e, R, s, m, args, below, meth, c, A, Q⟩ := X
  obtain ⟨hx, hb, hml, ho, hts, rfl, hr, hlk, hK, hA, hst, hZ, hh9⟩ := C
  intro H locs ls hP hD hS hl
  exact va_getN (D := E.1) (ci := 2) (C := RX0) (T := TX0) (N := 2) (host := RX4) hx hb hts hin ho hK hP q0 he rfl 1 (by decide) ((hZ.2.2.2.2.2.2.1 _ hm).use rfl) (fun _ h9 => h9) rfl d (kk H locs ls hP hD hS hl)
theorem g_X1_number {v0 v1 v2 v3 v4 : Value} {a index : Nat} (C : Cx E X cc nL own Ts R0 ret hh) (hin : ∀ w ∈ wsX10, w ∈ Ts) (hm : Cond.fieldLink own index "Bookinghouse$House" "number" "I" ∈ Ts) (q0 : Nat) (he : ws[q0]? = some (a, .inr (3, [v0, v1, v2, v3, v4]))) (d : decode cc pc = .ok (.getfield index, 3)) (kk : Gx E X ws nL lv (v0 :: st) (pc + 3) k n) : Gx E X ws nL lv (.ref a :: st) pc k n := by
  obtain ⟨p, l, e, R, s, m, args, below, meth, c, A, Q⟩ := X
  obtain ⟨hx, hb, hml, ho, hts, rfl, hr, hlk, hK, hA, hst, hZ, hh9⟩ := C
  intro H locs ls hP hD hS hl
  exact va_get (D := E.1) (ci := 3) (C := RX1) (T := TX1) (N := 5) hx hb hts hin ho hK hP q0 he rfl 0 (by decide) (hts _ hm) (fun _ h9 => h9) rfl d (kk H locs ls hP hD hS hl)
theorem g_X1_numberN {v0 v1 v2 v3 v4 : Value} {a index : Nat} {cc : ByteArray} {nL : Nat} (C : Cx E X cc nL RX4 Ts R0 ret hh) (hin : ∀ w ∈ wsX10, w ∈ Ts) (hm : (index, "Bookinghouse$House", "number", "I") ∈ gFn) (q0 : Nat) (he : ws[q0]? = some (a, .inr (3, [v0, v1, v2, v3, v4]))) (d : decode cc pc = .ok (.getfield index, 3)) (kk : Gx E X ws nL lv (v0 :: st) (pc + 3) k n) : Gx E X ws nL lv (.ref a :: st) pc k n := by
  obtain ⟨p, l, e, R, s, m, args, below, meth, c, A, Q⟩ := X
  obtain ⟨hx, hb, hml, ho, hts, rfl, hr, hlk, hK, hA, hst, hZ, hh9⟩ := C
  intro H locs ls hP hD hS hl
  exact va_getN (D := E.1) (ci := 3) (C := RX1) (T := TX1) (N := 5) (host := RX4) hx hb hts hin ho hK hP q0 he rfl 0 (by decide) ((hZ.2.2.2.2.2.2.1 _ hm).use rfl) (fun _ h9 => h9) rfl d (kk H locs ls hP hD hS hl)
theorem g_X1_queue {v0 v1 v2 v3 v4 : Value} {a index : Nat} (C : Cx E X cc nL own Ts R0 ret hh) (hin : ∀ w ∈ wsX10, w ∈ Ts) (hm : Cond.fieldLink own index "Bookinghouse$House" "queue" "LBookinghouse$Row;" ∈ Ts) (q0 : Nat) (he : ws[q0]? = some (a, .inr (3, [v0, v1, v2, v3, v4]))) (d : decode cc pc = .ok (.getfield index, 3)) (kk : Gx E X ws nL lv (v1 :: st) (pc + 3) k n) : Gx E X ws nL lv (.ref a :: st) pc k n := by
  obtain ⟨p, l, e, R, s, m, args, below, meth, c, A, Q⟩ := X
  obtain ⟨hx, hb, hml, ho, hts, rfl, hr, hlk, hK, hA, hst, hZ, hh9⟩ := C
  intro H locs ls hP hD hS hl
  exact va_get (D := E.1) (ci := 3) (C := RX1) (T := TX1) (N := 5) hx hb hts hin ho hK hP q0 he rfl 1 (by decide) (hts _ hm) (fun _ h9 => h9) rfl d (kk H locs ls hP hD hS hl)
theorem g_X1_queueN {v0 v1 v2 v3 v4 : Value} {a index : Nat} {cc : ByteArray} {nL : Nat} (C : Cx E X cc nL RX4 Ts R0 ret hh) (hin : ∀ w ∈ wsX10, w ∈ Ts) (hm : (index, "Bookinghouse$House", "queue", "LBookinghouse$Row;") ∈ gFn) (q0 : Nat) (he : ws[q0]? = some (a, .inr (3, [v0, v1, v2, v3, v4]))) (d : decode cc pc = .ok (.getfield index, 3)) (kk : Gx E X ws nL lv (v1 :: st) (pc + 3) k n) : Gx E X ws nL lv (.ref a :: st) pc k n := by
  obtain ⟨p, l, e, R, s, m, args, below, meth, c, A, Q⟩ := X
  obtain ⟨hx, hb, hml, ho, hts, rfl, hr, hlk, hK, hA, hst, hZ, hh9⟩ := C
  intro H locs ls hP hD hS hl
  exact va_getN (D := E.1) (ci := 3) (C := RX1) (T := TX1) (N := 5) (host := RX4) hx hb hts hin ho hK hP q0 he rfl 1 (by decide) ((hZ.2.2.2.2.2.2.1 _ hm).use rfl) (fun _ h9 => h9) rfl d (kk H locs ls hP hD hS hl)
theorem g_X1_past {v0 v1 v2 v3 v4 : Value} {a index : Nat} (C : Cx E X cc nL own Ts R0 ret hh) (hin : ∀ w ∈ wsX10, w ∈ Ts) (hm : Cond.fieldLink own index "Bookinghouse$House" "past" "LBookinghouse$Row;" ∈ Ts) (q0 : Nat) (he : ws[q0]? = some (a, .inr (3, [v0, v1, v2, v3, v4]))) (d : decode cc pc = .ok (.getfield index, 3)) (kk : Gx E X ws nL lv (v2 :: st) (pc + 3) k n) : Gx E X ws nL lv (.ref a :: st) pc k n := by
  obtain ⟨p, l, e, R, s, m, args, below, meth, c, A, Q⟩ := X
  obtain ⟨hx, hb, hml, ho, hts, rfl, hr, hlk, hK, hA, hst, hZ, hh9⟩ := C
  intro H locs ls hP hD hS hl
  exact va_get (D := E.1) (ci := 3) (C := RX1) (T := TX1) (N := 5) hx hb hts hin ho hK hP q0 he rfl 2 (by decide) (hts _ hm) (fun _ h9 => h9) rfl d (kk H locs ls hP hD hS hl)
theorem g_X1_pastN {v0 v1 v2 v3 v4 : Value} {a index : Nat} {cc : ByteArray} {nL : Nat} (C : Cx E X cc nL RX4 Ts R0 ret hh) (hin : ∀ w ∈ wsX10, w ∈ Ts) (hm : (index, "Bookinghouse$House", "past", "LBookinghouse$Row;") ∈ gFn) (q0 : Nat) (he : ws[q0]? = some (a, .inr (3, [v0, v1, v2, v3, v4]))) (d : decode cc pc = .ok (.getfield index, 3)) (kk : Gx E X ws nL lv (v2 :: st) (pc + 3) k n) : Gx E X ws nL lv (.ref a :: st) pc k n := by
  obtain ⟨p, l, e, R, s, m, args, below, meth, c, A, Q⟩ := X
  obtain ⟨hx, hb, hml, ho, hts, rfl, hr, hlk, hK, hA, hst, hZ, hh9⟩ := C
  intro H locs ls hP hD hS hl
  exact va_getN (D := E.1) (ci := 3) (C := RX1) (T := TX1) (N := 5) (host := RX4) hx hb hts hin ho hK hP q0 he rfl 2 (by decide) ((hZ.2.2.2.2.2.2.1 _ hm).use rfl) (fun _ h9 => h9) rfl d (kk H locs ls hP hD hS hl)
theorem g_X1_crowd {v0 v1 v2 v3 v4 : Value} {a index : Nat} (C : Cx E X cc nL own Ts R0 ret hh) (hin : ∀ w ∈ wsX10, w ∈ Ts) (hm : Cond.fieldLink own index "Bookinghouse$House" "crowd" "LBookinghouse$Crowd;" ∈ Ts) (q0 : Nat) (he : ws[q0]? = some (a, .inr (3, [v0, v1, v2, v3, v4]))) (d : decode cc pc = .ok (.getfield index, 3)) (kk : Gx E X ws nL lv (v3 :: st) (pc + 3) k n) : Gx E X ws nL lv (.ref a :: st) pc k n := by
  obtain ⟨p, l, e, R, s, m, args, below, meth, c, A, Q⟩ := X
  obtain ⟨hx, hb, hml, ho, hts, rfl, hr, hlk, hK, hA, hst, hZ, hh9⟩ := C
  intro H locs ls hP hD hS hl
  exact va_get (D := E.1) (ci := 3) (C := RX1) (T := TX1) (N := 5) hx hb hts hin ho hK hP q0 he rfl 3 (by decide) (hts _ hm) (fun _ h9 => h9) rfl d (kk H locs ls hP hD hS hl)
theorem g_X1_crowdN {v0 v1 v2 v3 v4 : Value} {a index : Nat} {cc : ByteArray} {nL : Nat} (C : Cx E X cc nL RX4 Ts R0 ret hh) (hin : ∀ w ∈ wsX10, w ∈ Ts) (hm : (index, "Bookinghouse$House", "crowd", "LBookinghouse$Crowd;") ∈ gFn) (q0 : Nat) (he : ws[q0]? = some (a, .inr (3, [v0, v1, v2, v3, v4]))) (d : decode cc pc = .ok (.getfield index, 3)) (kk : Gx E X ws nL lv (v3 :: st) (pc + 3) k n) : Gx E X ws nL lv (.ref a :: st) pc k n := by
  obtain ⟨p, l, e, R, s, m, args, below, meth, c, A, Q⟩ := X
  obtain ⟨hx, hb, hml, ho, hts, rfl, hr, hlk, hK, hA, hst, hZ, hh9⟩ := C
  intro H locs ls hP hD hS hl
  exact va_getN (D := E.1) (ci := 3) (C := RX1) (T := TX1) (N := 5) (host := RX4) hx hb hts hin ho hK hP q0 he rfl 3 (by decide) ((hZ.2.2.2.2.2.2.1 _ hm).use rfl) (fun _ h9 => h9) rfl d (kk H locs ls hP hD hS hl)
theorem g_X1_now {v0 v1 v2 v3 v4 : Value} {a index : Nat} (C : Cx E X cc nL own Ts R0 ret hh) (hin : ∀ w ∈ wsX10, w ∈ Ts) (hm : Cond.fieldLink own index "Bookinghouse$House" "now" "I" ∈ Ts) (q0 : Nat) (he : ws[q0]? = some (a, .inr (3, [v0, v1, v2, v3, v4]))) (d : decode cc pc = .ok (.getfield index, 3)) (kk : Gx E X ws nL lv (v4 :: st) (pc + 3) k n) : Gx E X ws nL lv (.ref a :: st) pc k n := by
  obtain ⟨p, l, e, R, s, m, args, below, meth, c, A, Q⟩ := X
  obtain ⟨hx, hb, hml, ho, hts, rfl, hr, hlk, hK, hA, hst, hZ, hh9⟩ := C
  intro H locs ls hP hD hS hl
  exact va_get (D := E.1) (ci := 3) (C := RX1) (T := TX1) (N := 5) hx hb hts hin ho hK hP q0 he rfl 4 (by decide) (hts _ hm) (fun _ h9 => h9) rfl d (kk H locs ls hP hD hS hl)
theorem g_X1_nowN {v0 v1 v2 v3 v4 : Value} {a index : Nat} {cc : ByteArray} {nL : Nat} (C : Cx E X cc nL RX4 Ts R0 ret hh) (hin : ∀ w ∈ wsX10, w ∈ Ts) (hm : (index, "Bookinghouse$House", "now", "I") ∈ gFn) (q0 : Nat) (he : ws[q0]? = some (a, .inr (3, [v0, v1, v2, v3, v4]))) (d : decode cc pc = .ok (.getfield index, 3)) (kk : Gx E X ws nL lv (v4 :: st) (pc + 3) k n) : Gx E X ws nL lv (.ref a :: st) pc k n := by
  obtain ⟨p, l, e, R, s, m, args, below, meth, c, A, Q⟩ := X
  obtain ⟨hx, hb, hml, ho, hts, rfl, hr, hlk, hK, hA, hst, hZ, hh9⟩ := C
  intro H locs ls hP hD hS hl
  exact va_getN (D := E.1) (ci := 3) (C := RX1) (T := TX1) (N := 5) (host := RX4) hx hb hts hin ho hK hP q0 he rfl 4 (by decide) ((hZ.2.2.2.2.2.2.1 _ hm).use rfl) (fun _ h9 => h9) rfl d (kk H locs ls hP hD hS hl)
theorem g_X1_set_nowN {v0 v1 v2 v3 v4 : Value} {a index : Nat} {x : Int32} {ws2 : va_W} {cc : ByteArray} {nL : Nat} (C : Cx E X cc nL RX4 Ts R0 ret hh) (hin : ∀ w ∈ wsX10, w ∈ Ts) (hm : (index, "Bookinghouse$House", "now", "I") ∈ gFn) (q0 : Nat) (he : ws[q0]? = some (a, .inr (3, [v0, v1, v2, v3, v4]))) (hw : ws.set q0 (a, .inr (3, [v0, v1, v2, v3, .int x])) = ws2) (d : decode cc pc = .ok (.putfield index, 3)) (kk : Gx E X ws2 nL lv st (pc + 3) k n) : Gx E X ws nL lv (.int x :: .ref a :: st) pc k n := by
  obtain ⟨p, l, e, R, s, m, args, below, meth, c, A, Q⟩ := X
  obtain ⟨hx, hb, hml, ho, hts, rfl, hr, hlk, hK, hA, hst, hZ, hh9⟩ := C
  intro H locs ls hP hD hS hl
  subst hw
  exact va_putN (D := E.1) (ty := .int) (ci := 3) (C := RX1) (T := TX1) (N := 5) (host := RX4) hx hb hts hin tyX1 tyX1_ok nmX1 ho hK hP hD hS q0 he rfl 4 (by decide) ((hZ.2.2.2.2.2.2.1 _ hm).use rfl) (fun _ h9 => h9) rfl (by decide +kernel) rfl rfl (Nat.le_of_ble_eq_true rfl) d (fun H locs hP hD hS => kk H locs ls hP hD hS hl)
theorem g_X1_set_now {v0 v1 v2 v3 v4 : Value} {a index : Nat} {x : Int32} {ws2 : va_W} (C : Cx E X cc nL own Ts R0 ret hh) (hin : ∀ w ∈ wsX10, w ∈ Ts) (hm : Cond.fieldLink own index "Bookinghouse$House" "now" "I" ∈ Ts) (q0 : Nat) (he : ws[q0]? = some (a, .inr (3, [v0, v1, v2, v3, v4]))) (hw : ws.set q0 (a, .inr (3, [v0, v1, v2, v3, .int x])) = ws2) (d : decode cc pc = .ok (.putfield index, 3)) (kk : Gx E X ws2 nL lv st (pc + 3) k n) : Gx E X ws nL lv (.int x :: .ref a :: st) pc k n := by
  obtain ⟨p, l, e, R, s, m, args, below, meth, c, A, Q⟩ := X
  obtain ⟨hx, hb, hml, ho, hts, rfl, hr, hlk, hK, hA, hst, hZ, hh9⟩ := C
  intro H locs ls hP hD hS hl
  subst hw
  exact va_put (D := E.1) (ty := .int) (ci := 3) (C := RX1) (T := TX1) (N := 5) hx hb hts hin tyX1 tyX1_ok nmX1 ho hK hP hD hS q0 he rfl 4 (by decide) (hts _ hm) (fun _ h9 => h9) rfl (by decide +kernel) rfl rfl (Nat.le_of_ble_eq_true rfl) d (fun H locs hP hD hS => kk H locs ls hP hD hS hl)
theorem g_X2_times {v0 v1 v2 v3 v4 : Value} {a index : Nat} (C : Cx E X cc nL own Ts R0 ret hh) (hin : ∀ w ∈ wsX20, w ∈ Ts) (hm : Cond.fieldLink own index "Bookinghouse$Ledger" "times" "LBookinghouse$Row;" ∈ Ts) (q0 : Nat) (he : ws[q0]? = some (a, .inr (4, [v0, v1, v2, v3, v4]))) (d : decode cc pc = .ok (.getfield index, 3)) (kk : Gx E X ws nL lv (v0 :: st) (pc + 3) k n) : Gx E X ws nL lv (.ref a :: st) pc k n := by
  obtain ⟨p, l, e, R, s, m, args, below, meth, c, A, Q⟩ := X
  obtain ⟨hx, hb, hml, ho, hts, rfl, hr, hlk, hK, hA, hst, hZ, hh9⟩ := C
  intro H locs ls hP hD hS hl
  exact va_get (D := E.1) (ci := 4) (C := RX2) (T := TX2) (N := 5) hx hb hts hin ho hK hP q0 he rfl 0 (by decide) (hts _ hm) (fun _ h9 => h9) rfl d (kk H locs ls hP hD hS hl)
theorem g_X2_timesN {v0 v1 v2 v3 v4 : Value} {a index : Nat} {cc : ByteArray} {nL : Nat} (C : Cx E X cc nL RX4 Ts R0 ret hh) (hin : ∀ w ∈ wsX20, w ∈ Ts) (hm : (index, "Bookinghouse$Ledger", "times", "LBookinghouse$Row;") ∈ gFn) (q0 : Nat) (he : ws[q0]? = some (a, .inr (4, [v0, v1, v2, v3, v4]))) (d : decode cc pc = .ok (.getfield index, 3)) (kk : Gx E X ws nL lv (v0 :: st) (pc + 3) k n) : Gx E X ws nL lv (.ref a :: st) pc k n := by
  obtain ⟨p, l, e, R, s, m, args, below, meth, c, A, Q⟩ := X
  obtain ⟨hx, hb, hml, ho, hts, rfl, hr, hlk, hK, hA, hst, hZ, hh9⟩ := C
  intro H locs ls hP hD hS hl
  exact va_getN (D := E.1) (ci := 4) (C := RX2) (T := TX2) (N := 5) (host := RX4) hx hb hts hin ho hK hP q0 he rfl 0 (by decide) ((hZ.2.2.2.2.2.2.1 _ hm).use rfl) (fun _ h9 => h9) rfl d (kk H locs ls hP hD hS hl)
theorem g_X2_spans {v0 v1 v2 v3 v4 : Value} {a index : Nat} (C : Cx E X cc nL own Ts R0 ret hh) (hin : ∀ w ∈ wsX20, w ∈ Ts) (hm : Cond.fieldLink own index "Bookinghouse$Ledger" "spans" "LBookinghouse$Row;" ∈ Ts) (q0 : Nat) (he : ws[q0]? = some (a, .inr (4, [v0, v1, v2, v3, v4]))) (d : decode cc pc = .ok (.getfield index, 3)) (kk : Gx E X ws nL lv (v1 :: st) (pc + 3) k n) : Gx E X ws nL lv (.ref a :: st) pc k n := by
  obtain ⟨p, l, e, R, s, m, args, below, meth, c, A, Q⟩ := X
  obtain ⟨hx, hb, hml, ho, hts, rfl, hr, hlk, hK, hA, hst, hZ, hh9⟩ := C
  intro H locs ls hP hD hS hl
  exact va_get (D := E.1) (ci := 4) (C := RX2) (T := TX2) (N := 5) hx hb hts hin ho hK hP q0 he rfl 1 (by decide) (hts _ hm) (fun _ h9 => h9) rfl d (kk H locs ls hP hD hS hl)
theorem g_X2_spansN {v0 v1 v2 v3 v4 : Value} {a index : Nat} {cc : ByteArray} {nL : Nat} (C : Cx E X cc nL RX4 Ts R0 ret hh) (hin : ∀ w ∈ wsX20, w ∈ Ts) (hm : (index, "Bookinghouse$Ledger", "spans", "LBookinghouse$Row;") ∈ gFn) (q0 : Nat) (he : ws[q0]? = some (a, .inr (4, [v0, v1, v2, v3, v4]))) (d : decode cc pc = .ok (.getfield index, 3)) (kk : Gx E X ws nL lv (v1 :: st) (pc + 3) k n) : Gx E X ws nL lv (.ref a :: st) pc k n := by
  obtain ⟨p, l, e, R, s, m, args, below, meth, c, A, Q⟩ := X
  obtain ⟨hx, hb, hml, ho, hts, rfl, hr, hlk, hK, hA, hst, hZ, hh9⟩ := C
  intro H locs ls hP hD hS hl
  exact va_getN (D := E.1) (ci := 4) (C := RX2) (T := TX2) (N := 5) (host := RX4) hx hb hts hin ho hK hP q0 he rfl 1 (by decide) ((hZ.2.2.2.2.2.2.1 _ hm).use rfl) (fun _ h9 => h9) rfl d (kk H locs ls hP hD hS hl)
theorem g_X2_weights {v0 v1 v2 v3 v4 : Value} {a index : Nat} (C : Cx E X cc nL own Ts R0 ret hh) (hin : ∀ w ∈ wsX20, w ∈ Ts) (hm : Cond.fieldLink own index "Bookinghouse$Ledger" "weights" "LBookinghouse$Row;" ∈ Ts) (q0 : Nat) (he : ws[q0]? = some (a, .inr (4, [v0, v1, v2, v3, v4]))) (d : decode cc pc = .ok (.getfield index, 3)) (kk : Gx E X ws nL lv (v2 :: st) (pc + 3) k n) : Gx E X ws nL lv (.ref a :: st) pc k n := by
  obtain ⟨p, l, e, R, s, m, args, below, meth, c, A, Q⟩ := X
  obtain ⟨hx, hb, hml, ho, hts, rfl, hr, hlk, hK, hA, hst, hZ, hh9⟩ := C
  intro H locs ls hP hD hS hl
  exact va_get (D := E.1) (ci := 4) (C := RX2) (T := TX2) (N := 5) hx hb hts hin ho hK hP q0 he rfl 2 (by decide) (hts _ hm) (fun _ h9 => h9) rfl d (kk H locs ls hP hD hS hl)
theorem g_X2_weightsN {v0 v1 v2 v3 v4 : Value} {a index : Nat} {cc : ByteArray} {nL : Nat} (C : Cx E X cc nL RX4 Ts R0 ret hh) (hin : ∀ w ∈ wsX20, w ∈ Ts) (hm : (index, "Bookinghouse$Ledger", "weights", "LBookinghouse$Row;") ∈ gFn) (q0 : Nat) (he : ws[q0]? = some (a, .inr (4, [v0, v1, v2, v3, v4]))) (d : decode cc pc = .ok (.getfield index, 3)) (kk : Gx E X ws nL lv (v2 :: st) (pc + 3) k n) : Gx E X ws nL lv (.ref a :: st) pc k n := by
  obtain ⟨p, l, e, R, s, m, args, below, meth, c, A, Q⟩ := X
  obtain ⟨hx, hb, hml, ho, hts, rfl, hr, hlk, hK, hA, hst, hZ, hh9⟩ := C
  intro H locs ls hP hD hS hl
  exact va_getN (D := E.1) (ci := 4) (C := RX2) (T := TX2) (N := 5) (host := RX4) hx hb hts hin ho hK hP q0 he rfl 2 (by decide) ((hZ.2.2.2.2.2.2.1 _ hm).use rfl) (fun _ h9 => h9) rfl d (kk H locs ls hP hD hS hl)
theorem g_X2_homes {v0 v1 v2 v3 v4 : Value} {a index : Nat} (C : Cx E X cc nL own Ts R0 ret hh) (hin : ∀ w ∈ wsX20, w ∈ Ts) (hm : Cond.fieldLink own index "Bookinghouse$Ledger" "homes" "LBookinghouse$Row;" ∈ Ts) (q0 : Nat) (he : ws[q0]? = some (a, .inr (4, [v0, v1, v2, v3, v4]))) (d : decode cc pc = .ok (.getfield index, 3)) (kk : Gx E X ws nL lv (v3 :: st) (pc + 3) k n) : Gx E X ws nL lv (.ref a :: st) pc k n := by
  obtain ⟨p, l, e, R, s, m, args, below, meth, c, A, Q⟩ := X
  obtain ⟨hx, hb, hml, ho, hts, rfl, hr, hlk, hK, hA, hst, hZ, hh9⟩ := C
  intro H locs ls hP hD hS hl
  exact va_get (D := E.1) (ci := 4) (C := RX2) (T := TX2) (N := 5) hx hb hts hin ho hK hP q0 he rfl 3 (by decide) (hts _ hm) (fun _ h9 => h9) rfl d (kk H locs ls hP hD hS hl)
theorem g_X2_homesN {v0 v1 v2 v3 v4 : Value} {a index : Nat} {cc : ByteArray} {nL : Nat} (C : Cx E X cc nL RX4 Ts R0 ret hh) (hin : ∀ w ∈ wsX20, w ∈ Ts) (hm : (index, "Bookinghouse$Ledger", "homes", "LBookinghouse$Row;") ∈ gFn) (q0 : Nat) (he : ws[q0]? = some (a, .inr (4, [v0, v1, v2, v3, v4]))) (d : decode cc pc = .ok (.getfield index, 3)) (kk : Gx E X ws nL lv (v3 :: st) (pc + 3) k n) : Gx E X ws nL lv (.ref a :: st) pc k n := by
  obtain ⟨p, l, e, R, s, m, args, below, meth, c, A, Q⟩ := X
  obtain ⟨hx, hb, hml, ho, hts, rfl, hr, hlk, hK, hA, hst, hZ, hh9⟩ := C
  intro H locs ls hP hD hS hl
  exact va_getN (D := E.1) (ci := 4) (C := RX2) (T := TX2) (N := 5) (host := RX4) hx hb hts hin ho hK hP q0 he rfl 3 (by decide) ((hZ.2.2.2.2.2.2.1 _ hm).use rfl) (fun _ h9 => h9) rfl d (kk H locs ls hP hD hS hl)
theorem g_X2_states {v0 v1 v2 v3 v4 : Value} {a index : Nat} (C : Cx E X cc nL own Ts R0 ret hh) (hin : ∀ w ∈ wsX20, w ∈ Ts) (hm : Cond.fieldLink own index "Bookinghouse$Ledger" "states" "LBookinghouse$Row;" ∈ Ts) (q0 : Nat) (he : ws[q0]? = some (a, .inr (4, [v0, v1, v2, v3, v4]))) (d : decode cc pc = .ok (.getfield index, 3)) (kk : Gx E X ws nL lv (v4 :: st) (pc + 3) k n) : Gx E X ws nL lv (.ref a :: st) pc k n := by
  obtain ⟨p, l, e, R, s, m, args, below, meth, c, A, Q⟩ := X
  obtain ⟨hx, hb, hml, ho, hts, rfl, hr, hlk, hK, hA, hst, hZ, hh9⟩ := C
  intro H locs ls hP hD hS hl
  exact va_get (D := E.1) (ci := 4) (C := RX2) (T := TX2) (N := 5) hx hb hts hin ho hK hP q0 he rfl 4 (by decide) (hts _ hm) (fun _ h9 => h9) rfl d (kk H locs ls hP hD hS hl)
theorem g_X2_statesN {v0 v1 v2 v3 v4 : Value} {a index : Nat} {cc : ByteArray} {nL : Nat} (C : Cx E X cc nL RX4 Ts R0 ret hh) (hin : ∀ w ∈ wsX20, w ∈ Ts) (hm : (index, "Bookinghouse$Ledger", "states", "LBookinghouse$Row;") ∈ gFn) (q0 : Nat) (he : ws[q0]? = some (a, .inr (4, [v0, v1, v2, v3, v4]))) (d : decode cc pc = .ok (.getfield index, 3)) (kk : Gx E X ws nL lv (v4 :: st) (pc + 3) k n) : Gx E X ws nL lv (.ref a :: st) pc k n := by
  obtain ⟨p, l, e, R, s, m, args, below, meth, c, A, Q⟩ := X
  obtain ⟨hx, hb, hml, ho, hts, rfl, hr, hlk, hK, hA, hst, hZ, hh9⟩ := C
  intro H locs ls hP hD hS hl
  exact va_getN (D := E.1) (ci := 4) (C := RX2) (T := TX2) (N := 5) (host := RX4) hx hb hts hin ho hK hP q0 he rfl 4 (by decide) ((hZ.2.2.2.2.2.2.1 _ hm).use rfl) (fun _ h9 => h9) rfl d (kk H locs ls hP hD hS hl)
theorem g_X3_items {v0 v1 : Value} {a index : Nat} (C : Cx E X cc nL own Ts R0 ret hh) (hin : ∀ w ∈ wsX30, w ∈ Ts) (hm : Cond.fieldLink own index "Bookinghouse$Row" "items" "[I" ∈ Ts) (q0 : Nat) (he : ws[q0]? = some (a, .inr (5, [v0, v1]))) (d : decode cc pc = .ok (.getfield index, 3)) (kk : Gx E X ws nL lv (v0 :: st) (pc + 3) k n) : Gx E X ws nL lv (.ref a :: st) pc k n := by
  obtain ⟨p, l, e, R, s, m, args, below, meth, c, A, Q⟩ := X
  obtain ⟨hx, hb, hml, ho, hts, rfl, hr, hlk, hK, hA, hst, hZ, hh9⟩ := C
  intro H locs ls hP hD hS hl
  exact va_get (D := E.1) (ci := 5) (C := RX3) (T := TX3) (N := 2) hx hb hts hin ho hK hP q0 he rfl 0 (by decide) (hts _ hm) (fun _ h9 => h9) rfl d (kk H locs ls hP hD hS hl)
theorem g_X3_size {v0 v1 : Value} {a index : Nat} (C : Cx E X cc nL own Ts R0 ret hh) (hin : ∀ w ∈ wsX30, w ∈ Ts) (hm : Cond.fieldLink own index "Bookinghouse$Row" "size" "I" ∈ Ts) (q0 : Nat) (he : ws[q0]? = some (a, .inr (5, [v0, v1]))) (d : decode cc pc = .ok (.getfield index, 3)) (kk : Gx E X ws nL lv (v1 :: st) (pc + 3) k n) : Gx E X ws nL lv (.ref a :: st) pc k n := by
  obtain ⟨p, l, e, R, s, m, args, below, meth, c, A, Q⟩ := X
  obtain ⟨hx, hb, hml, ho, hts, rfl, hr, hlk, hK, hA, hst, hZ, hh9⟩ := C
  intro H locs ls hP hD hS hl
  exact va_get (D := E.1) (ci := 5) (C := RX3) (T := TX3) (N := 2) hx hb hts hin ho hK hP q0 he rfl 1 (by decide) (hts _ hm) (fun _ h9 => h9) rfl d (kk H locs ls hP hD hS hl)
theorem g_X3_set_size {v0 v1 : Value} {a index : Nat} {x : Int32} {ws2 : va_W} (C : Cx E X cc nL own Ts R0 ret hh) (hin : ∀ w ∈ wsX30, w ∈ Ts) (hm : Cond.fieldLink own index "Bookinghouse$Row" "size" "I" ∈ Ts) (q0 : Nat) (he : ws[q0]? = some (a, .inr (5, [v0, v1]))) (hw : ws.set q0 (a, .inr (5, [v0, .int x])) = ws2) (d : decode cc pc = .ok (.putfield index, 3)) (kk : Gx E X ws2 nL lv st (pc + 3) k n) : Gx E X ws nL lv (.int x :: .ref a :: st) pc k n := by
  obtain ⟨p, l, e, R, s, m, args, below, meth, c, A, Q⟩ := X
  obtain ⟨hx, hb, hml, ho, hts, rfl, hr, hlk, hK, hA, hst, hZ, hh9⟩ := C
  intro H locs ls hP hD hS hl
  subst hw
  exact va_put (D := E.1) (ty := .int) (ci := 5) (C := RX3) (T := TX3) (N := 2) hx hb hts hin tyX3 tyX3_ok nmX3 ho hK hP hD hS q0 he rfl 1 (by decide) (hts _ hm) (fun _ h9 => h9) rfl (by decide +kernel) rfl rfl (Nat.le_of_ble_eq_true rfl) d (fun H locs hP hD hS => kk H locs ls hP hD hS hl)
theorem g_X4_ledger {v0 v1 v2 : Value} {a index : Nat} (C : Cx E X cc nL own Ts R0 ret hh) (hin : ∀ w ∈ wsX40, w ∈ Ts) (hm : Cond.fieldLink own index "Bookinghouse" "ledger" "LBookinghouse$Ledger;" ∈ Ts) (q0 : Nat) (he : ws[q0]? = some (a, .inr (6, [v0, v1, v2]))) (d : decode cc pc = .ok (.getfield index, 3)) (kk : Gx E X ws nL lv (v0 :: st) (pc + 3) k n) : Gx E X ws nL lv (.ref a :: st) pc k n := by
  obtain ⟨p, l, e, R, s, m, args, below, meth, c, A, Q⟩ := X
  obtain ⟨hx, hb, hml, ho, hts, rfl, hr, hlk, hK, hA, hst, hZ, hh9⟩ := C
  intro H locs ls hP hD hS hl
  exact va_get (D := E.1) (ci := 6) (C := RX4) (T := TX4) (N := 3) hx hb hts hin ho hK hP q0 he rfl 0 (by decide) (hts _ hm) (fun _ h9 => h9) rfl d (kk H locs ls hP hD hS hl)
theorem g_X4_houses {v0 v1 v2 : Value} {a index : Nat} (C : Cx E X cc nL own Ts R0 ret hh) (hin : ∀ w ∈ wsX40, w ∈ Ts) (hm : Cond.fieldLink own index "Bookinghouse" "houses" "[LBookinghouse$House;" ∈ Ts) (q0 : Nat) (he : ws[q0]? = some (a, .inr (6, [v0, v1, v2]))) (d : decode cc pc = .ok (.getfield index, 3)) (kk : Gx E X ws nL lv (v1 :: st) (pc + 3) k n) : Gx E X ws nL lv (.ref a :: st) pc k n := by
  obtain ⟨p, l, e, R, s, m, args, below, meth, c, A, Q⟩ := X
  obtain ⟨hx, hb, hml, ho, hts, rfl, hr, hlk, hK, hA, hst, hZ, hh9⟩ := C
  intro H locs ls hP hD hS hl
  exact va_get (D := E.1) (ci := 6) (C := RX4) (T := TX4) (N := 3) hx hb hts hin ho hK hP q0 he rfl 1 (by decide) (hts _ hm) (fun _ h9 => h9) rfl d (kk H locs ls hP hD hS hl)
theorem g_X4_rebuilt {v0 v1 v2 : Value} {a index : Nat} (C : Cx E X cc nL own Ts R0 ret hh) (hin : ∀ w ∈ wsX40, w ∈ Ts) (hm : Cond.fieldLink own index "Bookinghouse" "rebuilt" "LBookinghouse$Crowd;" ∈ Ts) (q0 : Nat) (he : ws[q0]? = some (a, .inr (6, [v0, v1, v2]))) (d : decode cc pc = .ok (.getfield index, 3)) (kk : Gx E X ws nL lv (v2 :: st) (pc + 3) k n) : Gx E X ws nL lv (.ref a :: st) pc k n := by
  obtain ⟨p, l, e, R, s, m, args, below, meth, c, A, Q⟩ := X
  obtain ⟨hx, hb, hml, ho, hts, rfl, hr, hlk, hK, hA, hst, hZ, hh9⟩ := C
  intro H locs ls hP hD hS hl
  exact va_get (D := E.1) (ci := 6) (C := RX4) (T := TX4) (N := 3) hx hb hts hin ho hK hP q0 he rfl 2 (by decide) (hts _ hm) (fun _ h9 => h9) rfl d (kk H locs ls hP hD hS hl)
theorem g_X5_thrown {v0 v1 v2 v3 v4 v5 v6 v7 v8 v9 v10 : Value} {a index : Nat} (C : Cx E X cc nL own Ts R0 ret hh) (hin : ∀ w ∈ wsX50, w ∈ Ts) (hm : Cond.fieldLink own index "BookinghouseModel" "thrown" "I" ∈ Ts) (q0 : Nat) (he : ws[q0]? = some (a, .inr (7, [v0, v1, v2, v3, v4, v5, v6, v7, v8, v9, v10]))) (d : decode cc pc = .ok (.getfield index, 3)) (kk : Gx E X ws nL lv (v0 :: st) (pc + 3) k n) : Gx E X ws nL lv (.ref a :: st) pc k n := by
  obtain ⟨p, l, e, R, s, m, args, below, meth, c, A, Q⟩ := X
  obtain ⟨hx, hb, hml, ho, hts, rfl, hr, hlk, hK, hA, hst, hZ, hh9⟩ := C
  intro H locs ls hP hD hS hl
  exact va_get (D := E.1) (ci := 7) (C := RX5) (T := TX5) (N := 11) hx hb hts hin ho hK hP q0 he rfl 0 (by decide) (hts _ hm) (fun _ h9 => h9) rfl d (kk H locs ls hP hD hS hl)
theorem g_X5_set_thrown {v0 v1 v2 v3 v4 v5 v6 v7 v8 v9 v10 : Value} {a index : Nat} {x : Int32} {ws2 : va_W} (C : Cx E X cc nL own Ts R0 ret hh) (hin : ∀ w ∈ wsX50, w ∈ Ts) (hm : Cond.fieldLink own index "BookinghouseModel" "thrown" "I" ∈ Ts) (q0 : Nat) (he : ws[q0]? = some (a, .inr (7, [v0, v1, v2, v3, v4, v5, v6, v7, v8, v9, v10]))) (hw : ws.set q0 (a, .inr (7, [.int x, v1, v2, v3, v4, v5, v6, v7, v8, v9, v10])) = ws2) (d : decode cc pc = .ok (.putfield index, 3)) (kk : Gx E X ws2 nL lv st (pc + 3) k n) : Gx E X ws nL lv (.int x :: .ref a :: st) pc k n := by
  obtain ⟨p, l, e, R, s, m, args, below, meth, c, A, Q⟩ := X
  obtain ⟨hx, hb, hml, ho, hts, rfl, hr, hlk, hK, hA, hst, hZ, hh9⟩ := C
  intro H locs ls hP hD hS hl
  subst hw
  exact va_put (D := E.1) (ty := .int) (ci := 7) (C := RX5) (T := TX5) (N := 11) hx hb hts hin tyX5 tyX5_ok nmX5 ho hK hP hD hS q0 he rfl 0 (by decide) (hts _ hm) (fun _ h9 => h9) rfl (by decide +kernel) rfl rfl (Nat.le_of_ble_eq_true rfl) d (fun H locs hP hD hS => kk H locs ls hP hD hS hl)
theorem g_X5_made {v0 v1 v2 v3 v4 v5 v6 v7 v8 v9 v10 : Value} {a index : Nat} (C : Cx E X cc nL own Ts R0 ret hh) (hin : ∀ w ∈ wsX50, w ∈ Ts) (hm : Cond.fieldLink own index "BookinghouseModel" "made" "I" ∈ Ts) (q0 : Nat) (he : ws[q0]? = some (a, .inr (7, [v0, v1, v2, v3, v4, v5, v6, v7, v8, v9, v10]))) (d : decode cc pc = .ok (.getfield index, 3)) (kk : Gx E X ws nL lv (v1 :: st) (pc + 3) k n) : Gx E X ws nL lv (.ref a :: st) pc k n := by
  obtain ⟨p, l, e, R, s, m, args, below, meth, c, A, Q⟩ := X
  obtain ⟨hx, hb, hml, ho, hts, rfl, hr, hlk, hK, hA, hst, hZ, hh9⟩ := C
  intro H locs ls hP hD hS hl
  exact va_get (D := E.1) (ci := 7) (C := RX5) (T := TX5) (N := 11) hx hb hts hin ho hK hP q0 he rfl 1 (by decide) (hts _ hm) (fun _ h9 => h9) rfl d (kk H locs ls hP hD hS hl)
theorem g_X5_set_made {v0 v1 v2 v3 v4 v5 v6 v7 v8 v9 v10 : Value} {a index : Nat} {x : Int32} {ws2 : va_W} (C : Cx E X cc nL own Ts R0 ret hh) (hin : ∀ w ∈ wsX50, w ∈ Ts) (hm : Cond.fieldLink own index "BookinghouseModel" "made" "I" ∈ Ts) (q0 : Nat) (he : ws[q0]? = some (a, .inr (7, [v0, v1, v2, v3, v4, v5, v6, v7, v8, v9, v10]))) (hw : ws.set q0 (a, .inr (7, [v0, .int x, v2, v3, v4, v5, v6, v7, v8, v9, v10])) = ws2) (d : decode cc pc = .ok (.putfield index, 3)) (kk : Gx E X ws2 nL lv st (pc + 3) k n) : Gx E X ws nL lv (.int x :: .ref a :: st) pc k n := by
  obtain ⟨p, l, e, R, s, m, args, below, meth, c, A, Q⟩ := X
  obtain ⟨hx, hb, hml, ho, hts, rfl, hr, hlk, hK, hA, hst, hZ, hh9⟩ := C
  intro H locs ls hP hD hS hl
  subst hw
  exact va_put (D := E.1) (ty := .int) (ci := 7) (C := RX5) (T := TX5) (N := 11) hx hb hts hin tyX5 tyX5_ok nmX5 ho hK hP hD hS q0 he rfl 1 (by decide) (hts _ hm) (fun _ h9 => h9) rfl (by decide +kernel) rfl rfl (Nat.le_of_ble_eq_true rfl) d (fun H locs hP hD hS => kk H locs ls hP hD hS hl)
theorem g_X5_stamp {v0 v1 v2 v3 v4 v5 v6 v7 v8 v9 v10 : Value} {a index : Nat} (C : Cx E X cc nL own Ts R0 ret hh) (hin : ∀ w ∈ wsX50, w ∈ Ts) (hm : Cond.fieldLink own index "BookinghouseModel" "stamp" "I" ∈ Ts) (q0 : Nat) (he : ws[q0]? = some (a, .inr (7, [v0, v1, v2, v3, v4, v5, v6, v7, v8, v9, v10]))) (d : decode cc pc = .ok (.getfield index, 3)) (kk : Gx E X ws nL lv (v2 :: st) (pc + 3) k n) : Gx E X ws nL lv (.ref a :: st) pc k n := by
  obtain ⟨p, l, e, R, s, m, args, below, meth, c, A, Q⟩ := X
  obtain ⟨hx, hb, hml, ho, hts, rfl, hr, hlk, hK, hA, hst, hZ, hh9⟩ := C
  intro H locs ls hP hD hS hl
  exact va_get (D := E.1) (ci := 7) (C := RX5) (T := TX5) (N := 11) hx hb hts hin ho hK hP q0 he rfl 2 (by decide) (hts _ hm) (fun _ h9 => h9) rfl d (kk H locs ls hP hD hS hl)
theorem g_X5_set_stamp {v0 v1 v2 v3 v4 v5 v6 v7 v8 v9 v10 : Value} {a index : Nat} {x : Int32} {ws2 : va_W} (C : Cx E X cc nL own Ts R0 ret hh) (hin : ∀ w ∈ wsX50, w ∈ Ts) (hm : Cond.fieldLink own index "BookinghouseModel" "stamp" "I" ∈ Ts) (q0 : Nat) (he : ws[q0]? = some (a, .inr (7, [v0, v1, v2, v3, v4, v5, v6, v7, v8, v9, v10]))) (hw : ws.set q0 (a, .inr (7, [v0, v1, .int x, v3, v4, v5, v6, v7, v8, v9, v10])) = ws2) (d : decode cc pc = .ok (.putfield index, 3)) (kk : Gx E X ws2 nL lv st (pc + 3) k n) : Gx E X ws nL lv (.int x :: .ref a :: st) pc k n := by
  obtain ⟨p, l, e, R, s, m, args, below, meth, c, A, Q⟩ := X
  obtain ⟨hx, hb, hml, ho, hts, rfl, hr, hlk, hK, hA, hst, hZ, hh9⟩ := C
  intro H locs ls hP hD hS hl
  subst hw
  exact va_put (D := E.1) (ty := .int) (ci := 7) (C := RX5) (T := TX5) (N := 11) hx hb hts hin tyX5 tyX5_ok nmX5 ho hK hP hD hS q0 he rfl 2 (by decide) (hts _ hm) (fun _ h9 => h9) rfl (by decide +kernel) rfl rfl (Nat.le_of_ble_eq_true rfl) d (fun H locs hP hD hS => kk H locs ls hP hD hS hl)
theorem g_X5_time {v0 v1 v2 v3 v4 v5 v6 v7 v8 v9 v10 : Value} {a index : Nat} (C : Cx E X cc nL own Ts R0 ret hh) (hin : ∀ w ∈ wsX50, w ∈ Ts) (hm : Cond.fieldLink own index "BookinghouseModel" "time" "[I" ∈ Ts) (q0 : Nat) (he : ws[q0]? = some (a, .inr (7, [v0, v1, v2, v3, v4, v5, v6, v7, v8, v9, v10]))) (d : decode cc pc = .ok (.getfield index, 3)) (kk : Gx E X ws nL lv (v3 :: st) (pc + 3) k n) : Gx E X ws nL lv (.ref a :: st) pc k n := by
  obtain ⟨p, l, e, R, s, m, args, below, meth, c, A, Q⟩ := X
  obtain ⟨hx, hb, hml, ho, hts, rfl, hr, hlk, hK, hA, hst, hZ, hh9⟩ := C
  intro H locs ls hP hD hS hl
  exact va_get (D := E.1) (ci := 7) (C := RX5) (T := TX5) (N := 11) hx hb hts hin ho hK hP q0 he rfl 3 (by decide) (hts _ hm) (fun _ h9 => h9) rfl d (kk H locs ls hP hD hS hl)
theorem g_X5_span {v0 v1 v2 v3 v4 v5 v6 v7 v8 v9 v10 : Value} {a index : Nat} (C : Cx E X cc nL own Ts R0 ret hh) (hin : ∀ w ∈ wsX50, w ∈ Ts) (hm : Cond.fieldLink own index "BookinghouseModel" "span" "[I" ∈ Ts) (q0 : Nat) (he : ws[q0]? = some (a, .inr (7, [v0, v1, v2, v3, v4, v5, v6, v7, v8, v9, v10]))) (d : decode cc pc = .ok (.getfield index, 3)) (kk : Gx E X ws nL lv (v4 :: st) (pc + 3) k n) : Gx E X ws nL lv (.ref a :: st) pc k n := by
  obtain ⟨p, l, e, R, s, m, args, below, meth, c, A, Q⟩ := X
  obtain ⟨hx, hb, hml, ho, hts, rfl, hr, hlk, hK, hA, hst, hZ, hh9⟩ := C
  intro H locs ls hP hD hS hl
  exact va_get (D := E.1) (ci := 7) (C := RX5) (T := TX5) (N := 11) hx hb hts hin ho hK hP q0 he rfl 4 (by decide) (hts _ hm) (fun _ h9 => h9) rfl d (kk H locs ls hP hD hS hl)
theorem g_X5_weight {v0 v1 v2 v3 v4 v5 v6 v7 v8 v9 v10 : Value} {a index : Nat} (C : Cx E X cc nL own Ts R0 ret hh) (hin : ∀ w ∈ wsX50, w ∈ Ts) (hm : Cond.fieldLink own index "BookinghouseModel" "weight" "[I" ∈ Ts) (q0 : Nat) (he : ws[q0]? = some (a, .inr (7, [v0, v1, v2, v3, v4, v5, v6, v7, v8, v9, v10]))) (d : decode cc pc = .ok (.getfield index, 3)) (kk : Gx E X ws nL lv (v5 :: st) (pc + 3) k n) : Gx E X ws nL lv (.ref a :: st) pc k n := by
  obtain ⟨p, l, e, R, s, m, args, below, meth, c, A, Q⟩ := X
  obtain ⟨hx, hb, hml, ho, hts, rfl, hr, hlk, hK, hA, hst, hZ, hh9⟩ := C
  intro H locs ls hP hD hS hl
  exact va_get (D := E.1) (ci := 7) (C := RX5) (T := TX5) (N := 11) hx hb hts hin ho hK hP q0 he rfl 5 (by decide) (hts _ hm) (fun _ h9 => h9) rfl d (kk H locs ls hP hD hS hl)
theorem g_X5_home {v0 v1 v2 v3 v4 v5 v6 v7 v8 v9 v10 : Value} {a index : Nat} (C : Cx E X cc nL own Ts R0 ret hh) (hin : ∀ w ∈ wsX50, w ∈ Ts) (hm : Cond.fieldLink own index "BookinghouseModel" "home" "[I" ∈ Ts) (q0 : Nat) (he : ws[q0]? = some (a, .inr (7, [v0, v1, v2, v3, v4, v5, v6, v7, v8, v9, v10]))) (d : decode cc pc = .ok (.getfield index, 3)) (kk : Gx E X ws nL lv (v6 :: st) (pc + 3) k n) : Gx E X ws nL lv (.ref a :: st) pc k n := by
  obtain ⟨p, l, e, R, s, m, args, below, meth, c, A, Q⟩ := X
  obtain ⟨hx, hb, hml, ho, hts, rfl, hr, hlk, hK, hA, hst, hZ, hh9⟩ := C
  intro H locs ls hP hD hS hl
  exact va_get (D := E.1) (ci := 7) (C := RX5) (T := TX5) (N := 11) hx hb hts hin ho hK hP q0 he rfl 6 (by decide) (hts _ hm) (fun _ h9 => h9) rfl d (kk H locs ls hP hD hS hl)
theorem g_X5_state {v0 v1 v2 v3 v4 v5 v6 v7 v8 v9 v10 : Value} {a index : Nat} (C : Cx E X cc nL own Ts R0 ret hh) (hin : ∀ w ∈ wsX50, w ∈ Ts) (hm : Cond.fieldLink own index "BookinghouseModel" "state" "[I" ∈ Ts) (q0 : Nat) (he : ws[q0]? = some (a, .inr (7, [v0, v1, v2, v3, v4, v5, v6, v7, v8, v9, v10]))) (d : decode cc pc = .ok (.getfield index, 3)) (kk : Gx E X ws nL lv (v7 :: st) (pc + 3) k n) : Gx E X ws nL lv (.ref a :: st) pc k n := by
  obtain ⟨p, l, e, R, s, m, args, below, meth, c, A, Q⟩ := X
  obtain ⟨hx, hb, hml, ho, hts, rfl, hr, hlk, hK, hA, hst, hZ, hh9⟩ := C
  intro H locs ls hP hD hS hl
  exact va_get (D := E.1) (ci := 7) (C := RX5) (T := TX5) (N := 11) hx hb hts hin ho hK hP q0 he rfl 7 (by decide) (hts _ hm) (fun _ h9 => h9) rfl d (kk H locs ls hP hD hS hl)
theorem g_X5_came {v0 v1 v2 v3 v4 v5 v6 v7 v8 v9 v10 : Value} {a index : Nat} (C : Cx E X cc nL own Ts R0 ret hh) (hin : ∀ w ∈ wsX50, w ∈ Ts) (hm : Cond.fieldLink own index "BookinghouseModel" "came" "[I" ∈ Ts) (q0 : Nat) (he : ws[q0]? = some (a, .inr (7, [v0, v1, v2, v3, v4, v5, v6, v7, v8, v9, v10]))) (d : decode cc pc = .ok (.getfield index, 3)) (kk : Gx E X ws nL lv (v8 :: st) (pc + 3) k n) : Gx E X ws nL lv (.ref a :: st) pc k n := by
  obtain ⟨p, l, e, R, s, m, args, below, meth, c, A, Q⟩ := X
  obtain ⟨hx, hb, hml, ho, hts, rfl, hr, hlk, hK, hA, hst, hZ, hh9⟩ := C
  intro H locs ls hP hD hS hl
  exact va_get (D := E.1) (ci := 7) (C := RX5) (T := TX5) (N := 11) hx hb hts hin ho hK hP q0 he rfl 8 (by decide) (hts _ hm) (fun _ h9 => h9) rfl d (kk H locs ls hP hD hS hl)
theorem g_X5_clock {v0 v1 v2 v3 v4 v5 v6 v7 v8 v9 v10 : Value} {a index : Nat} (C : Cx E X cc nL own Ts R0 ret hh) (hin : ∀ w ∈ wsX50, w ∈ Ts) (hm : Cond.fieldLink own index "BookinghouseModel" "clock" "[I" ∈ Ts) (q0 : Nat) (he : ws[q0]? = some (a, .inr (7, [v0, v1, v2, v3, v4, v5, v6, v7, v8, v9, v10]))) (d : decode cc pc = .ok (.getfield index, 3)) (kk : Gx E X ws nL lv (v9 :: st) (pc + 3) k n) : Gx E X ws nL lv (.ref a :: st) pc k n := by
  obtain ⟨p, l, e, R, s, m, args, below, meth, c, A, Q⟩ := X
  obtain ⟨hx, hb, hml, ho, hts, rfl, hr, hlk, hK, hA, hst, hZ, hh9⟩ := C
  intro H locs ls hP hD hS hl
  exact va_get (D := E.1) (ci := 7) (C := RX5) (T := TX5) (N := 11) hx hb hts hin ho hK hP q0 he rfl 9 (by decide) (hts _ hm) (fun _ h9 => h9) rfl d (kk H locs ls hP hD hS hl)
theorem g_X5_sum {v0 v1 v2 v3 v4 v5 v6 v7 v8 v9 v10 : Value} {a index : Nat} (C : Cx E X cc nL own Ts R0 ret hh) (hin : ∀ w ∈ wsX50, w ∈ Ts) (hm : Cond.fieldLink own index "BookinghouseModel" "sum" "J" ∈ Ts) (q0 : Nat) (he : ws[q0]? = some (a, .inr (7, [v0, v1, v2, v3, v4, v5, v6, v7, v8, v9, v10]))) (d : decode cc pc = .ok (.getfield index, 3)) (kk : Gx E X ws nL lv (v10 :: st) (pc + 3) k n) : Gx E X ws nL lv (.ref a :: st) pc k n := by
  obtain ⟨p, l, e, R, s, m, args, below, meth, c, A, Q⟩ := X
  obtain ⟨hx, hb, hml, ho, hts, rfl, hr, hlk, hK, hA, hst, hZ, hh9⟩ := C
  intro H locs ls hP hD hS hl
  exact va_get (D := E.1) (ci := 7) (C := RX5) (T := TX5) (N := 11) hx hb hts hin ho hK hP q0 he rfl 10 (by decide) (hts _ hm) (fun _ h9 => h9) rfl d (kk H locs ls hP hD hS hl)
theorem g_X5_set_sum {v0 v1 v2 v3 v4 v5 v6 v7 v8 v9 v10 : Value} {a index : Nat} {x : Int64} {ws2 : va_W} (C : Cx E X cc nL own Ts R0 ret hh) (hin : ∀ w ∈ wsX50, w ∈ Ts) (hm : Cond.fieldLink own index "BookinghouseModel" "sum" "J" ∈ Ts) (q0 : Nat) (he : ws[q0]? = some (a, .inr (7, [v0, v1, v2, v3, v4, v5, v6, v7, v8, v9, v10]))) (hw : ws.set q0 (a, .inr (7, [v0, v1, v2, v3, v4, v5, v6, v7, v8, v9, .long x])) = ws2) (d : decode cc pc = .ok (.putfield index, 3)) (kk : Gx E X ws2 nL lv st (pc + 3) k n) : Gx E X ws nL lv (.long x :: .ref a :: st) pc k n := by
  obtain ⟨p, l, e, R, s, m, args, below, meth, c, A, Q⟩ := X
  obtain ⟨hx, hb, hml, ho, hts, rfl, hr, hlk, hK, hA, hst, hZ, hh9⟩ := C
  intro H locs ls hP hD hS hl
  subst hw
  exact va_put (D := E.1) (ty := .long) (ci := 7) (C := RX5) (T := TX5) (N := 11) hx hb hts hin tyX5 tyX5_ok nmX5 ho hK hP hD hS q0 he rfl 10 (by decide) (hts _ hm) (fun _ h9 => h9) rfl (by decide +kernel) rfl rfl (Nat.le_of_ble_eq_true rfl) d (fun H locs hP hD hS => kk H locs ls hP hD hS hl)
end GR
section GE
variable {E : gE} {X : gX} {cc : ByteArray} {nL : Nat} {own : String} {Ts : List Cond} {R0 : Room} {ret : Option FieldType} {hh : List ExceptionTableEntry} {ws wc : va_W} {lv lv2 : List (Nat × Value)} {st : List Value} {pc k n : Nat} {rm : Room} {o : String ⊕ (Option Value × va_W)}
theorem g_iret {v : Int32} (C : Cx E X cc nL own Ts R0 (some .int) hh) (hQ : gQ E X wc rm o) (ho : o = .inr (some (.int v), ws)) (hc : k ≤ rm.cells ∧ n ≤ rm.slots) (d : decode cc pc = .ok (.ireturn, 1)) : Gx E X ws nL lv [(.int v)] pc k n := by
  obtain ⟨p, l, e, R, s, m, args, below, meth, c, A, Q⟩ := X
  obtain ⟨hx, hb, hml, hw, hts, rfl, hr, hlk, hK, hA, hst, hZ, hh9⟩ := C
  obtain ⟨rfl, rfl, hf⟩ := hQ
  intro H locs ls hP hD hS hl
  exact W.widen hc.1 hc.2 (vx_ret (W.iret hx hb hr (fun t ht hW => ⟨⟨_, _, ho, rfl, by rw [ht]; exact hP⟩, hS.F ht⟩) hS.2.2 d hlk))
theorem g_lret {v : Int64} (C : Cx E X cc nL own Ts R0 (some .long) hh) (hQ : gQ E X wc rm o) (ho : o = .inr (some (.long v), ws)) (hc : k ≤ rm.cells ∧ n ≤ rm.slots) (d : decode cc pc = .ok (.lreturn, 1)) : Gx E X ws nL lv [(.long v)] pc k n := by
  obtain ⟨p, l, e, R, s, m, args, below, meth, c, A, Q⟩ := X
  obtain ⟨hx, hb, hml, hw, hts, rfl, hr, hlk, hK, hA, hst, hZ, hh9⟩ := C
  obtain ⟨rfl, rfl, hf⟩ := hQ
  intro H locs ls hP hD hS hl
  exact W.widen hc.1 hc.2 (vx_ret (W.lret hx hb hr (fun t ht hW => ⟨⟨_, _, ho, rfl, by rw [ht]; exact hP⟩, hS.F ht⟩) hS.2.2 d hlk))
theorem g_dret {v : UInt64} (C : Cx E X cc nL own Ts R0 (some .double) hh) (hQ : gQ E X wc rm o) (ho : o = .inr (some (.double v), ws)) (hc : k ≤ rm.cells ∧ n ≤ rm.slots) (d : decode cc pc = .ok (.dreturn, 1)) : Gx E X ws nL lv [(.double v)] pc k n := by
  obtain ⟨p, l, e, R, s, m, args, below, meth, c, A, Q⟩ := X
  obtain ⟨hx, hb, hml, hw, hts, rfl, hr, hlk, hK, hA, hst, hZ, hh9⟩ := C
  obtain ⟨rfl, rfl, hf⟩ := hQ
  intro H locs ls hP hD hS hl
  exact W.widen hc.1 hc.2 (vx_ret (W.dret hx hb hr (fun t ht hW => ⟨⟨_, _, ho, rfl, by rw [ht]; exact hP⟩, hS.F ht⟩) hS.2.2 d hlk))
theorem g_fret {v : UInt32} (C : Cx E X cc nL own Ts R0 (some .float) hh) (hQ : gQ E X wc rm o) (ho : o = .inr (some (.float v), ws)) (hc : k ≤ rm.cells ∧ n ≤ rm.slots) (d : decode cc pc = .ok (.freturn, 1)) : Gx E X ws nL lv [(.float v)] pc k n := by
  obtain ⟨p, l, e, R, s, m, args, below, meth, c, A, Q⟩ := X
  obtain ⟨hx, hb, hml, hw, hts, rfl, hr, hlk, hK, hA, hst, hZ, hh9⟩ := C
  obtain ⟨rfl, rfl, hf⟩ := hQ
  intro H locs ls hP hD hS hl
  exact W.widen hc.1 hc.2 (vx_ret (W.fret hx hb hr (fun t ht hW => ⟨⟨_, _, ho, rfl, by rw [ht]; exact hP⟩, hS.F ht⟩) hS.2.2 d hlk))
theorem g_zret {v : Int32} (C : Cx E X cc nL own Ts R0 (some .boolean) hh) (hQ : gQ E X wc rm o) (ho : o = .inr (some (.int v), ws)) (hv : narrow .boolean (.int v) = .int v) (hc : k ≤ rm.cells ∧ n ≤ rm.slots) (d : decode cc pc = .ok (.ireturn, 1)) : Gx E X ws nL lv [(.int v)] pc k n := by
  obtain ⟨p, l, e, R, s, m, args, below, meth, c, A, Q⟩ := X
  obtain ⟨hx, hb, hml, hw, hts, rfl, hr, hlk, hK, hA, hst, hZ, hh9⟩ := C
  obtain ⟨rfl, rfl, hf⟩ := hQ
  intro H locs ls hP hD hS hl
  exact W.widen hc.1 hc.2 (vx_ret (W.zret hx hb hr hv (fun t ht hW => ⟨⟨_, _, ho, rfl, by rw [ht]; exact hP⟩, hS.F ht⟩) hS.2.2 d hlk))
theorem g_vret (C : Cx E X cc nL own Ts R0 none hh) (hQ : gQ E X wc rm o) (ho : o = .inr (none, ws)) (hc : k ≤ rm.cells ∧ n ≤ rm.slots) (d : decode cc pc = .ok (.return_, 1)) : Gx E X ws nL lv [] pc k n := by
  obtain ⟨p, l, e, R, s, m, args, below, meth, c, A, Q⟩ := X
  obtain ⟨hx, hb, hml, hw, hts, rfl, hr, hlk, hK, hA, hst, hZ, hh9⟩ := C
  obtain ⟨rfl, rfl, hf⟩ := hQ
  intro H locs ls hP hD hS hl
  exact W.widen hc.1 hc.2 (vx_ret (W.vret hx hb hr (fun t ht hW => ⟨⟨_, _, ho, rfl, by rw [ht]; exact hP⟩, hS.F ht⟩) hS.2.2 d hlk))
theorem g_aret {a : Nat} {cn : String} (C : Cx E X cc nL own Ts R0 (some (.object cn)) hh) (hQ : gQ E X wc rm o) (ho : o = .inr (some (.ref a), ws)) (hc : k ≤ rm.cells ∧ n ≤ rm.slots) (d : decode cc pc = .ok (.areturn, 1)) : Gx E X ws nL lv [(.ref a)] pc k n := by
  obtain ⟨p, l, e, R, s, m, args, below, meth, c, A, Q⟩ := X
  obtain ⟨hx, hb, hml, hw, hts, rfl, hr, hlk, hK, hA, hst, hZ, hh9⟩ := C
  obtain ⟨rfl, rfl, hf⟩ := hQ
  intro H locs ls hP hD hS hl
  exact W.widen hc.1 hc.2 (vx_ret (W.aret hx hb hr (Or.inl ⟨_, rfl⟩) (Or.inr ⟨_, rfl⟩) (fun t ht hW => ⟨⟨_, _, ho, rfl, by rw [ht]; exact hP⟩, hS.F ht⟩) hS.2.2 d hlk))
end GE
/-- the words of a throw of the exception cls, out of the method's own -/
def gTh (Ts : List Cond) (own cls : String) (ik ic : Nat) : Prop := Bundle.fit cls = true ∧ Cond.classLink own ik cls ∈ Ts ∧ Cond.initialized cls ∈ Ts ∧ (∀ w ∈ (vx_atS own ic cls ["java/lang/RuntimeException", "java/lang/Exception"]).filter goodWord, w ∈ Ts) ∧ (∀ w ∈ (vx_atS own ic cls ["java/lang/RuntimeException", "java/lang/Exception"]).filter (fun w => !goodWord w), w ∈ gDe.map Cond.declares ∨ w ∈ gEx.map (fun x => Cond.castable x x)) ∧ ∀ w ∈ Cond.classLink own ik cls :: Cond.initialized cls :: vx_atS own ic cls ["java/lang/RuntimeException", "java/lang/Exception"], vx_ot w = true
/-- the same of NoSuchElementException -/
def gThN (Ts : List Cond) (own : String) (ik ic : Nat) : Prop := Cond.classLink own ik "java/util/NoSuchElementException" ∈ Ts ∧ Cond.initialized "java/util/NoSuchElementException" ∈ Ts ∧ (∀ w ∈ (ntAt own ic "java/util/NoSuchElementException" 13 prog_20_method_4_code ["java/lang/RuntimeException", "java/lang/Exception"]).filter goodWord, w ∈ Ts) ∧ (∀ w ∈ (ntAt own ic "java/util/NoSuchElementException" 13 prog_20_method_4_code ["java/lang/RuntimeException", "java/lang/Exception"]).filter (fun w => !goodWord w), w ∈ gDe.map Cond.declares ∨ w ∈ gEx.map (fun x => Cond.castable x x)) ∧ ∀ w ∈ Cond.classLink own ik "java/util/NoSuchElementException" :: Cond.initialized "java/util/NoSuchElementException" :: ntAt own ic "java/util/NoSuchElementException" 13 prog_20_method_4_code ["java/lang/RuntimeException", "java/lang/Exception"], vx_ot w = true
theorem ntd_0 : decode prog_20_method_4_code 0 = .ok (.aload_n 0, 1) := by decide +kernel
theorem ntd_1 : decode prog_20_method_4_code 1 = .ok (.aload_n 1, 1) := by decide +kernel
theorem ntd_2 : decode prog_20_method_4_code 2 = .ok (.invokespecial 13, 3) := by decide +kernel
theorem ntd_5 : decode prog_20_method_4_code 5 = .ok (.return_, 1) := by decide +kernel
section GT
variable {E : gE} {X : gX} {cc : ByteArray} {nL : Nat} {Ts : List Cond} {R0 : Room} {ret : Option FieldType} {ws wo : va_W} {lv : List (Nat × Value)} {st : List Value} {pc k n : Nat} {rm : Room} {o : String ⊕ (Option Value × va_W)}
theorem g_throwS {cls text : String} {ik is9 ic : Nat} (C : Cx E X cc nL RX4 Ts R0 ret []) (hQ : gQ E X wo rm o) (ho : o = .inl cls) (hwo : wo = ws) (hf9 : gTh Ts RX4 cls ik ic) (hstr : (is9, text) ∈ gStr) (hR : 5 < R0.frames ∧ (st.map fun v => v.category).sum + 82 ≤ R0.locals ∧ k + 1 ≤ R0.cells ∧ n + 6 ≤ R0.slots ∧ k + 1 ≤ rm.cells ∧ n + 6 ≤ rm.slots) (d0 : decode cc pc = .ok (.new ik, 3)) (d3 : decode cc (pc + 3) = .ok (.dup, 1)) (d4 : decode cc (pc + 4) = .ok (.ldc is9, 2)) (d6 : decode cc (pc + 6) = .ok (.invokespecial ic, 3)) (d9 : decode cc (pc + 9) = .ok (.athrow, 1)) : Gx E X ws nL lv st pc k n := by
  obtain ⟨p, l, e, R, s, m, args, below, meth, c, A, Q⟩ := X
  obtain ⟨hx, hb, hml, hw, hts, rfl, hr, hlk, hK, hA, hst, hZ, hh9⟩ := C
  obtain ⟨rfl, rfl, hf⟩ := hQ
  subst hwo
  obtain ⟨f1, f2, f3, f4, f5, f6⟩ := hf9
  intro H locs ls hP hD hS hl
  refine vx_throwS (text := text) (sa := sA E is9) (names := ["java/lang/RuntimeException", "java/lang/Exception"]) (A := va_A wo s.heap.size) hx hb hst hw f1 (by decide) (hts _ f2) (hts _ f3) (hZ.2.2.1 _ hstr) ?_ f6 hZ.1 hZ.2.1 hS (hl.1.trans hml.symm) d0 d3 d4 d6 d9 (by rw [hh9]; intro x hx; cases hx) hR.1 hR.2.1 hR.2.2.1 hR.2.2.2.1 hlk ?_ hS.2.2 hR.2.2.2.2.1 hR.2.2.2.2.2
  · intro w hw9
    by_cases hg : goodWord w = true
    · exact hts _ (f4 w (List.mem_filter.mpr ⟨hw9, hg⟩))
    · have hw8 : w ∈ (vx_atS RX4 ic cls ["java/lang/RuntimeException", "java/lang/Exception"]).filter (fun w => !goodWord w) := List.mem_filter.mpr ⟨hw9, by simp [hg]⟩
      rcases f5 w hw8 with h8 | h8
      · obtain ⟨x8, hx8, rfl⟩ := List.mem_map.mp h8
        exact (hZ.2.2.2.1 x8 hx8).use rfl
      · obtain ⟨x8, hx8, rfl⟩ := List.mem_map.mp h8
        exact (hZ.2.2.2.2.1 x8 hx8).use rfl
  · intro t ht hz hq
    refine ⟨ho, ?_, ?_⟩
    · intro k9 q9 hq9
      exact (hP k9 q9 hq9).kept (hq q9.1 (hP k9 q9 hq9).lt)
    · exact ⟨Nat.le_trans hS.1 hz, fun q h1 h2 => by rw [hq q (Nat.lt_of_lt_of_le h1 hS.1)]; exact hS.2.1 q h1 h2⟩
theorem g_throwSW {cls text : String} {ik is9 ic : Nat} (C : Cx E X cc nL RX4 Ts R0 ret []) (hQ : gQ E X wo rm o) (ho : o = .inl cls) (hwo : wo = ws) (hf9 : gTh Ts RX4 cls ik ic) (hstr : (is9, text) ∈ gStr) (hR : 5 < R0.frames ∧ (st.map fun v => v.category).sum + 82 ≤ R0.locals ∧ k + 1 ≤ R0.cells ∧ n + 6 ≤ R0.slots ∧ k + 1 ≤ rm.cells ∧ n + 6 ≤ rm.slots) (d0 : decode cc pc = .ok (.new ik, 3)) (d3 : decode cc (pc + 3) = .ok (.dup, 1)) (d4 : decode cc (pc + 4) = .ok (.ldc_w is9, 3)) (d6 : decode cc (pc + 7) = .ok (.invokespecial ic, 3)) (d9 : decode cc (pc + 10) = .ok (.athrow, 1)) : Gx E X ws nL lv st pc k n := by
  obtain ⟨p, l, e, R, s, m, args, below, meth, c, A, Q⟩ := X
  obtain ⟨hx, hb, hml, hw, hts, rfl, hr, hlk, hK, hA, hst, hZ, hh9⟩ := C
  obtain ⟨rfl, rfl, hf⟩ := hQ
  subst hwo
  obtain ⟨f1, f2, f3, f4, f5, f6⟩ := hf9
  intro H locs ls hP hD hS hl
  refine vx_throwSW (text := text) (sa := sA E is9) (names := ["java/lang/RuntimeException", "java/lang/Exception"]) (A := va_A wo s.heap.size) hx hb hst hw f1 (by decide) (hts _ f2) (hts _ f3) (hZ.2.2.1 _ hstr) ?_ f6 hZ.1 hZ.2.1 hS (hl.1.trans hml.symm) d0 d3 d4 d6 d9 (by rw [hh9]; intro x hx; cases hx) hR.1 hR.2.1 hR.2.2.1 hR.2.2.2.1 hlk ?_ hS.2.2 hR.2.2.2.2.1 hR.2.2.2.2.2
  · intro w hw9
    by_cases hg : goodWord w = true
    · exact hts _ (f4 w (List.mem_filter.mpr ⟨hw9, hg⟩))
    · have hw8 : w ∈ (vx_atS RX4 ic cls ["java/lang/RuntimeException", "java/lang/Exception"]).filter (fun w => !goodWord w) := List.mem_filter.mpr ⟨hw9, by simp [hg]⟩
      rcases f5 w hw8 with h8 | h8
      · obtain ⟨x8, hx8, rfl⟩ := List.mem_map.mp h8
        exact (hZ.2.2.2.1 x8 hx8).use rfl
      · obtain ⟨x8, hx8, rfl⟩ := List.mem_map.mp h8
        exact (hZ.2.2.2.2.1 x8 hx8).use rfl
  · intro t ht hz hq
    refine ⟨ho, ?_, ?_⟩
    · intro k9 q9 hq9
      exact (hP k9 q9 hq9).kept (hq q9.1 (hP k9 q9 hq9).lt)
    · exact ⟨Nat.le_trans hS.1 hz, fun q h1 h2 => by rw [hq q (Nat.lt_of_lt_of_le h1 hS.1)]; exact hS.2.1 q h1 h2⟩
theorem g_throwN {text : String} {ik is9 ic : Nat} (C : Cx E X cc nL RX4 Ts R0 ret []) (hQ : gQ E X wo rm o) (ho : o = .inl "java/util/NoSuchElementException") (hwo : wo = ws) (hf9 : gThN Ts RX4 ik ic) (hstr : (is9, text) ∈ gStr) (hR : 5 < R0.frames ∧ (st.map fun v => v.category).sum + 82 ≤ R0.locals ∧ k + 1 ≤ R0.cells ∧ n + 6 ≤ R0.slots ∧ k + 1 ≤ rm.cells ∧ n + 6 ≤ rm.slots) (d0 : decode cc pc = .ok (.new ik, 3)) (d3 : decode cc (pc + 3) = .ok (.dup, 1)) (d4 : decode cc (pc + 4) = .ok (.ldc is9, 2)) (d6 : decode cc (pc + 6) = .ok (.invokespecial ic, 3)) (d9 : decode cc (pc + 9) = .ok (.athrow, 1)) : Gx E X ws nL lv st pc k n := by
  obtain ⟨p, l, e, R, s, m, args, below, meth, c, A, Q⟩ := X
  obtain ⟨hx, hb, hml, hw, hts, rfl, hr, hlk, hK, hA, hst, hZ, hh9⟩ := C
  obtain ⟨rfl, rfl, hf⟩ := hQ
  subst hwo
  obtain ⟨f2, f3, f4, f5, f6⟩ := hf9
  intro H locs ls hP hD hS hl
  refine nt_throwS ntd_0 ntd_1 ntd_2 ntd_5 (text := text) (sa := sA E is9) (Yn := "java/lang/RuntimeException") (rn := ["java/lang/Exception"]) (A := va_A wo s.heap.size) hx hb hst hw (by decide) (by decide) (hts _ f2) (hts _ f3) (hZ.2.2.1 _ hstr) ?_ f6 hZ.1 hZ.2.1 hS (hl.1.trans hml.symm) d0 d3 d4 d6 d9 (by rw [hh9]; intro x hx; cases hx) hR.1 hR.2.1 hR.2.2.1 hR.2.2.2.1 hlk ?_ hS.2.2 hR.2.2.2.2.1 hR.2.2.2.2.2
  · intro w hw9
    by_cases hg : goodWord w = true
    · exact hts _ (f4 w (List.mem_filter.mpr ⟨hw9, hg⟩))
    · have hw8 : w ∈ (ntAt RX4 ic "java/util/NoSuchElementException" 13 prog_20_method_4_code ["java/lang/RuntimeException", "java/lang/Exception"]).filter (fun w => !goodWord w) := List.mem_filter.mpr ⟨hw9, by simp [hg]⟩
      rcases f5 w hw8 with h8 | h8
      · obtain ⟨x8, hx8, rfl⟩ := List.mem_map.mp h8
        exact (hZ.2.2.2.1 x8 hx8).use rfl
      · obtain ⟨x8, hx8, rfl⟩ := List.mem_map.mp h8
        exact (hZ.2.2.2.2.1 x8 hx8).use rfl
  · intro t ht hz hq
    refine ⟨ho, ?_, ?_⟩
    · intro k9 q9 hq9
      exact (hP k9 q9 hq9).kept (hq q9.1 (hP k9 q9 hq9).lt)
    · exact ⟨Nat.le_trans hS.1 hz, fun q h1 h2 => by rw [hq q (Nat.lt_of_lt_of_le h1 hS.1)]; exact hS.2.1 q h1 h2⟩
end GT
section GC
variable {E : gE} {X : gX} {cc : ByteArray} {nL : Nat} {own : String} {Ts : List Cond} {R0 : Room} {ret : Option FieldType} {hh : List ExceptionTableEntry} {ws wc : va_W} {lv lv2 : List (Nat × Value)} {st : List Value} {pc k n : Nat}
/-- the callee's start, in the caller's heap -/
theorem g_start {A : Nat → Prop} {s : State} {H : Heap} {locs : List Loc} {Fs : va_W → va_W} (hs9 : gSub ws wc Fs) (hP : va_P E.1 vwCl ws H) (hD : va_D A ws) (hS : va_S A s.heap H locs) (hK : va_K E.1 vwCl (tyE E) s) (hA : ∀ q : Nat, s.heap.size ≤ q → A q) (hZ : Zt E A s) (argv : List Value) : FrameBlind (gPre E argv wc H.size) ∧ ∀ U : State, U.heap = H → s.WarmedH U.vm → gPre E argv wc H.size argv.toArray U := by
  have hPc := gSub_in hs9 hP
  have hDc : va_D A wc := hs9.2.1 A hD
  have hF := gSub_A hs9 hD hS hA
  refine ⟨fun a U g mk q => ?_, fun U hU hW => ⟨rfl, by rw [hU], by rw [hU]; exact hPc, hK.moved hW.alike, hDc.weaken (fun _ _ _ _ => trivial), hZ.moved hS hU hW hF⟩⟩
  obtain ⟨q0, q1, qP, qK, qD, qZ⟩ := q
  exact ⟨q0, q1, qP, va_K.moved (u := U) (U := U.calling g mk a) (Vm.Alike.refl U.vm) qK, qD, qZ.1.moved (Vm.Alike.refl U.vm), qZ.2.1.moved (Vm.Alike.refl U.vm), fun q hq => (qZ.2.2.1 q hq).same rfl, fun x hx => (qZ.2.2.2.1 x hx).same rfl rfl, fun x hx => (qZ.2.2.2.2.1 x hx).same rfl rfl, fun x hx y hy hne => (qZ.2.2.2.2.2.1 x hx y hy hne).moved (Vm.Alike.refl U.vm), fun q hq => (qZ.2.2.2.2.2.2.1 q hq).same rfl rfl, fun q hq => (qZ.2.2.2.2.2.2.2.1 q hq).same rfl rfl, qZ.2.2.2.2.2.2.2.2.moved (Vm.Alike.refl U.vm)⟩
theorem g_callVr {α : Type} {index maxL : Nat} {y : MethodName} {bytes : ByteArray} {retY : Option FieldType} {wsY wsY' : List Cond} {rmY : Room} {As : List Value} {n9 : Nat} {C9 : String} {b : Nat} {fs : List Value} {T9 : u_T} {N9 ci : Nat} {V : α → Value} {wr w2 : α → va_W} {oc : String ⊕ α} {wo : va_W} {rm : Room} {o : String ⊕ (Option Value × va_W)} (C : Cx E X cc nL own Ts R0 ret hh) (hM : Ct E y wsY rmY (.ref b :: As) wc (gO (fun a => some (V a)) wr oc)) (hG : GoodIn Ts (wsV own index C9 y wsY)) (hw : wsY = Cond.code y bytes maxL retY :: wsY') (hd : y.cls = C9 ∧ y.cls ≠ "java/lang/invoke/MethodHandle" ∧ y.cls ≠ "java/lang/invoke/VarHandle" ∧ (parseMethodDescriptor y.desc).map (fun d => d.parameters.length) = some n9) (hn9 : As.length = n9) (hR : rmY.frames + 1 ≤ R0.frames ∧ 8 + (maxL + 11) + rmY.locals ≤ R0.locals ∧ k + rmY.cells ≤ R0.cells ∧ n + rmY.slots ≤ R0.slots ∧ (st.map fun v => v.category).sum ≤ 8) (qb : Nat) (hb0 : wc[qb]? = some (b, .inr (ci, fs))) (hci : vwCl[ci]? = some (C9, T9, N9)) {Fs : va_W → va_W} (hs9 : gSub ws wc Fs) (hB : ∀ a, Fs (wr a) = w2 a) (d : decode cc pc = .ok (.invokevirtual index, 3))
    (hx9 : ∀ x, oc = .inl x → gQ E X wo rm o ∧ o = .inl x ∧ hh = [] ∧ (∀ q ∈ wo, q ∈ ws) ∧ k + rmY.cells ≤ rm.cells ∧ n + rmY.slots ≤ rm.slots) (kk : ∀ a, oc = .inr a → Gx E X (w2 a) nL lv (V a :: st) (pc + 3) (k + rmY.cells) (n + rmY.slots)) : Gx E X ws nL lv (As.reverse ++ .ref b :: st) pc k n := by
  obtain ⟨p, l, e, R, s, m, args, below, meth, c, A, Q⟩ := X
  obtain ⟨hx, hb, hml, ho, hts, rfl, hr, hlk, hK, hA, hst, hZ, hh9⟩ := C
  intro H locs ls hP hD hS hl
  obtain ⟨hbl, hpre⟩ := g_start hs9 hP hD hS hK hA hZ (.ref b :: As)
  have hF := gSub_A hs9 hD hS hA
  have hPc := gSub_in hs9 hP
  have cw := cwV (s := s) (args := args) (R := R) (own := own) (index := index) (C := C9) (y := y) (bytes := bytes) (maxL := maxL) (ret := retY) (rm := rmY) (mc := rmY.cells) (ms := rmY.slots) n9 hts hG hw rfl rfl hd ⟨hR.1, hR.2.1⟩
  have hrun := vx_runV (e := e) (below := below) (meth := meth) (locs := locs) (R := R) (H := H) (As := As) (rest := st) (g := F0 m pc ls (As.reverse ++ .ref b :: st)) ⟨hx, hb, hml, ho, hts⟩ (hM.2 l hst H.size) cw ⟨hbl, va_recv hK hPc hci hb0, hpre⟩ rfl hn9 hl.1 rfl (by simpa [JFrame.monitorRoom] using hR.2.2.2.2) d ⟨hR.2.2.1, hR.2.2.2.1⟩
  intro T hT XT
  rcases hrun T hT XT with ⟨v, st₀, t, T', L, h0, X', hL, e1, e2, ⟨⟨v', w1, eo, eoc, hP1⟩, hFr⟩, stp⟩ | ⟨q, st₀, t, T', L, Ex, ce, h0, X', hL, e1, e2, ⟨eo, hP1, hFr⟩, hce, hcv, hcl, stp⟩
  · cases oc with
    | inl x => exact absurd (show (Sum.inl x : String ⊕ (Option Value × va_W)) = .inr (v', w1) from eo) (by simp)
    | inr a =>
      have eo : (Sum.inr (some (V a), wr a) : String ⊕ (Option Value × va_W)) = .inr (v', w1) := eo
      have ew : w1 = wr a := (congrArg Prod.snd (Sum.inr.inj eo)).symm
      have ev : v' = some (V a) := (congrArg Prod.fst (Sum.inr.inj eo)).symm
      subst ew
      subst ev
      have ev2 : v = some (V a) := by injection eoc
      subst ev2
      obtain ⟨k1, k2, k3⟩ := vx_keep h0 e1 hS (fun q _ h => hF q h) hF hL hFr
      have had : gAd (wr a) = gAd wc := hM.1 _ _ rfl
      rw [← e1] at hP1
      have hPn := gSub_P (E := E) hs9 hP hD k2 had hP1
      have hDn := gAd_D (hs9.2.2.1 (wr a) had) hD
      rw [hB a] at hPn hDn
      obtain ⟨t2, a1, b1⟩ := kk a rfl T'.heap (locs ++ L) ls hPn hDn k3 hl T' rfl X'
      exact ⟨t2, stp t2 a1, b1⟩
  · cases oc with
    | inr a => exact absurd (show (Sum.inr (some (V a), wr a) : String ⊕ (Option Value × va_W)) = .inl Ex from eo) (by simp)
    | inl x =>
      have eo : (Sum.inl x : String ⊕ (Option Value × va_W)) = .inl Ex := eo
      have ex : x = Ex := Sum.inl.inj eo
      subst ex
      obtain ⟨⟨rfl, rfl, hf⟩, eo2, rfl, hsub, hk1, hk2⟩ := hx9 x rfl
      obtain ⟨k1, k2, k3⟩ := vx_keep h0 e1 hS (fun q _ h => hF q h) hF hL hFr
      rw [← e1] at hP1 hce
      have hPn : va_P E.1 vwCl wo T'.heap := by
        rw [gP_mem]
        intro q9 hm9
        obtain ⟨k9, hq9⟩ := List.getElem?_of_mem (hsub q9 hm9)
        by_cases hin : va_A wc H.size q9.1
        · have hlt := (hP k9 q9 hq9).lt
          rcases hin with ⟨k2, e2, h2⟩ | h2
          · obtain ⟨i, h4⟩ := List.getElem?_of_mem (hs9.1 _ (List.mem_of_getElem? h2))
            have hki : k9 = i := hD.1 k9 i q9 (q9.1, e2) hq9 h4 rfl
            subst hki
            have h5 : q9 = (q9.1, e2) := Option.some.inj (hq9.symm.trans h4)
            rw [h5]
            exact hP1 k2 _ h2
          · omega
        · exact (hP k9 q9 hq9).kept (k2 q9.1 (hP k9 q9 hq9).lt hin)
      obtain ⟨t2, a1, b1⟩ := vx_out (p := p) (l := l) (e := e) (R := R) (s := s) (m := m) (args := args) (below := below) (meth := meth) (c := c) (ls := ls) (rest := st) (pc := pc) (E := x) (ce := ce) (q := q) (Qc := gPost E wo s.heap.size o) (XC := gExc E wo s.heap.size o) (free := va_A wo s.heap.size) (by rw [hh9]; intro x hx; cases hx) hlk hce hcv hcl (fun t ht _ => ⟨eo2, by rw [ht]; exact hPn, k3.F ht⟩) k3.2.2 hk1 hk2 T' rfl X'
      exact ⟨t2, stp.trans a1, b1⟩
theorem g_callVv {α : Type} {index maxL : Nat} {y : MethodName} {bytes : ByteArray} {retY : Option FieldType} {wsY wsY' : List Cond} {rmY : Room} {As : List Value} {n9 : Nat} {C9 : String} {b : Nat} {fs : List Value} {T9 : u_T} {N9 ci : Nat} {wr w2 : α → va_W} {oc : String ⊕ α} {wo : va_W} {rm : Room} {o : String ⊕ (Option Value × va_W)} (C : Cx E X cc nL own Ts R0 ret hh) (hM : Ct E y wsY rmY (.ref b :: As) wc (gO (fun a => none) wr oc)) (hG : GoodIn Ts (wsV own index C9 y wsY)) (hw : wsY = Cond.code y bytes maxL retY :: wsY') (hd : y.cls = C9 ∧ y.cls ≠ "java/lang/invoke/MethodHandle" ∧ y.cls ≠ "java/lang/invoke/VarHandle" ∧ (parseMethodDescriptor y.desc).map (fun d => d.parameters.length) = some n9) (hn9 : As.length = n9) (hR : rmY.frames + 1 ≤ R0.frames ∧ 8 + (maxL + 11) + rmY.locals ≤ R0.locals ∧ k + rmY.cells ≤ R0.cells ∧ n + rmY.slots ≤ R0.slots ∧ (st.map fun v => v.category).sum ≤ 8) (qb : Nat) (hb0 : wc[qb]? = some (b, .inr (ci, fs))) (hci : vwCl[ci]? = some (C9, T9, N9)) {Fs : va_W → va_W} (hs9 : gSub ws wc Fs) (hB : ∀ a, Fs (wr a) = w2 a) (d : decode cc pc = .ok (.invokevirtual index, 3))
    (hx9 : ∀ x, oc = .inl x → gQ E X wo rm o ∧ o = .inl x ∧ hh = [] ∧ (∀ q ∈ wo, q ∈ ws) ∧ k + rmY.cells ≤ rm.cells ∧ n + rmY.slots ≤ rm.slots) (kk : ∀ a, oc = .inr a → Gx E X (w2 a) nL lv st (pc + 3) (k + rmY.cells) (n + rmY.slots)) : Gx E X ws nL lv (As.reverse ++ .ref b :: st) pc k n := by
  obtain ⟨p, l, e, R, s, m, args, below, meth, c, A, Q⟩ := X
  obtain ⟨hx, hb, hml, ho, hts, rfl, hr, hlk, hK, hA, hst, hZ, hh9⟩ := C
  intro H locs ls hP hD hS hl
  obtain ⟨hbl, hpre⟩ := g_start hs9 hP hD hS hK hA hZ (.ref b :: As)
  have hF := gSub_A hs9 hD hS hA
  have hPc := gSub_in hs9 hP
  have cw := cwV (s := s) (args := args) (R := R) (own := own) (index := index) (C := C9) (y := y) (bytes := bytes) (maxL := maxL) (ret := retY) (rm := rmY) (mc := rmY.cells) (ms := rmY.slots) n9 hts hG hw rfl rfl hd ⟨hR.1, hR.2.1⟩
  have hrun := vx_runV (e := e) (below := below) (meth := meth) (locs := locs) (R := R) (H := H) (As := As) (rest := st) (g := F0 m pc ls (As.reverse ++ .ref b :: st)) ⟨hx, hb, hml, ho, hts⟩ (hM.2 l hst H.size) cw ⟨hbl, va_recv hK hPc hci hb0, hpre⟩ rfl hn9 hl.1 rfl (by simpa [JFrame.monitorRoom] using hR.2.2.2.2) d ⟨hR.2.2.1, hR.2.2.2.1⟩
  intro T hT XT
  rcases hrun T hT XT with ⟨v, st₀, t, T', L, h0, X', hL, e1, e2, ⟨⟨v', w1, eo, eoc, hP1⟩, hFr⟩, stp⟩ | ⟨q, st₀, t, T', L, Ex, ce, h0, X', hL, e1, e2, ⟨eo, hP1, hFr⟩, hce, hcv, hcl, stp⟩
  · cases oc with
    | inl x => exact absurd (show (Sum.inl x : String ⊕ (Option Value × va_W)) = .inr (v', w1) from eo) (by simp)
    | inr a =>
      have eo : (Sum.inr (none, wr a) : String ⊕ (Option Value × va_W)) = .inr (v', w1) := eo
      have ew : w1 = wr a := (congrArg Prod.snd (Sum.inr.inj eo)).symm
      have ev : v' = none := (congrArg Prod.fst (Sum.inr.inj eo)).symm
      subst ew
      subst ev
      have ev2 : v = none := by injection eoc
      subst ev2
      obtain ⟨k1, k2, k3⟩ := vx_keep h0 e1 hS (fun q _ h => hF q h) hF hL hFr
      have had : gAd (wr a) = gAd wc := hM.1 _ _ rfl
      rw [← e1] at hP1
      have hPn := gSub_P (E := E) hs9 hP hD k2 had hP1
      have hDn := gAd_D (hs9.2.2.1 (wr a) had) hD
      rw [hB a] at hPn hDn
      obtain ⟨t2, a1, b1⟩ := kk a rfl T'.heap (locs ++ L) ls hPn hDn k3 hl T' rfl X'
      exact ⟨t2, stp t2 a1, b1⟩
  · cases oc with
    | inr a => exact absurd (show (Sum.inr (none, wr a) : String ⊕ (Option Value × va_W)) = .inl Ex from eo) (by simp)
    | inl x =>
      have eo : (Sum.inl x : String ⊕ (Option Value × va_W)) = .inl Ex := eo
      have ex : x = Ex := Sum.inl.inj eo
      subst ex
      obtain ⟨⟨rfl, rfl, hf⟩, eo2, rfl, hsub, hk1, hk2⟩ := hx9 x rfl
      obtain ⟨k1, k2, k3⟩ := vx_keep h0 e1 hS (fun q _ h => hF q h) hF hL hFr
      rw [← e1] at hP1 hce
      have hPn : va_P E.1 vwCl wo T'.heap := by
        rw [gP_mem]
        intro q9 hm9
        obtain ⟨k9, hq9⟩ := List.getElem?_of_mem (hsub q9 hm9)
        by_cases hin : va_A wc H.size q9.1
        · have hlt := (hP k9 q9 hq9).lt
          rcases hin with ⟨k2, e2, h2⟩ | h2
          · obtain ⟨i, h4⟩ := List.getElem?_of_mem (hs9.1 _ (List.mem_of_getElem? h2))
            have hki : k9 = i := hD.1 k9 i q9 (q9.1, e2) hq9 h4 rfl
            subst hki
            have h5 : q9 = (q9.1, e2) := Option.some.inj (hq9.symm.trans h4)
            rw [h5]
            exact hP1 k2 _ h2
          · omega
        · exact (hP k9 q9 hq9).kept (k2 q9.1 (hP k9 q9 hq9).lt hin)
      obtain ⟨t2, a1, b1⟩ := vx_out (p := p) (l := l) (e := e) (R := R) (s := s) (m := m) (args := args) (below := below) (meth := meth) (c := c) (ls := ls) (rest := st) (pc := pc) (E := x) (ce := ce) (q := q) (Qc := gPost E wo s.heap.size o) (XC := gExc E wo s.heap.size o) (free := va_A wo s.heap.size) (by rw [hh9]; intro x hx; cases hx) hlk hce hcv hcl (fun t ht _ => ⟨eo2, by rw [ht]; exact hPn, k3.F ht⟩) k3.2.2 hk1 hk2 T' rfl X'
      exact ⟨t2, stp.trans a1, b1⟩
theorem g_callSr {α : Type} {index maxL : Nat} {y : MethodName} {bytes : ByteArray} {retY : Option FieldType} {wsY wsY' : List Cond} {rmY : Room} {As : List Value} {n9 : Nat} {V : α → Value} {wr w2 : α → va_W} {oc : String ⊕ α} {wo : va_W} {rm : Room} {o : String ⊕ (Option Value × va_W)} (C : Cx E X cc nL own Ts R0 ret hh) (hM : Ct E y wsY rmY As wc (gO (fun a => some (V a)) wr oc)) (hG : GoodIn Ts (va_wsS own index y wsY)) (hw : wsY = Cond.code y bytes maxL retY :: wsY') (hd : y.cls ≠ "java/lang/invoke/MethodHandle" ∧ y.cls ≠ "java/lang/invoke/VarHandle" ∧ (parseMethodDescriptor y.desc).map (fun d => d.parameters.length) = some n9) (hn9 : As.length = n9) (hR : rmY.frames + 1 ≤ R0.frames ∧ 8 + (maxL + 11) + rmY.locals ≤ R0.locals ∧ k + rmY.cells ≤ R0.cells ∧ n + rmY.slots ≤ R0.slots ∧ (st.map fun v => v.category).sum ≤ 8)  {Fs : va_W → va_W} (hs9 : gSub ws wc Fs) (hB : ∀ a, Fs (wr a) = w2 a) (d : decode cc pc = .ok (.invokestatic index, 3))
    (hx9 : ∀ x, oc = .inl x → gQ E X wo rm o ∧ o = .inl x ∧ hh = [] ∧ (∀ q ∈ wo, q ∈ ws) ∧ k + rmY.cells ≤ rm.cells ∧ n + rmY.slots ≤ rm.slots) (kk : ∀ a, oc = .inr a → Gx E X (w2 a) nL lv (V a :: st) (pc + 3) (k + rmY.cells) (n + rmY.slots)) : Gx E X ws nL lv (As.reverse ++ st) pc k n := by
  obtain ⟨p, l, e, R, s, m, args, below, meth, c, A, Q⟩ := X
  obtain ⟨hx, hb, hml, ho, hts, rfl, hr, hlk, hK, hA, hst, hZ, hh9⟩ := C
  intro H locs ls hP hD hS hl
  obtain ⟨hbl, hpre⟩ := g_start hs9 hP hD hS hK hA hZ As
  have hF := gSub_A hs9 hD hS hA
  have hPc := gSub_in hs9 hP
  have cw := va_cwS (s := s) (args := args) (R := R) (own := own) (index := index) (y := y) (bytes := bytes) (maxL := maxL) (ret := retY) (rm := rmY) (mc := rmY.cells) (ms := rmY.slots) n9 hts hG hw rfl rfl hd ⟨hR.1, hR.2.1⟩
  have hrun := vx_runS (e := e) (below := below) (meth := meth) (locs := locs) (R := R) (H := H) (As := As) (rest := st) (g := F0 m pc ls (As.reverse ++ st)) ⟨hx, hb, hml, ho, hts⟩ (hM.2 l hst H.size) cw ⟨hbl, hpre⟩ rfl hn9 hl.1 rfl (by simpa [JFrame.monitorRoom] using hR.2.2.2.2) d ⟨hR.2.2.1, hR.2.2.2.1⟩
  intro T hT XT
  rcases hrun T hT XT with ⟨v, st₀, t, T', L, h0, X', hL, e1, e2, ⟨⟨v', w1, eo, eoc, hP1⟩, hFr⟩, stp⟩ | ⟨q, st₀, t, T', L, Ex, ce, h0, X', hL, e1, e2, ⟨eo, hP1, hFr⟩, hce, hcv, hcl, stp⟩
  · cases oc with
    | inl x => exact absurd (show (Sum.inl x : String ⊕ (Option Value × va_W)) = .inr (v', w1) from eo) (by simp)
    | inr a =>
      have eo : (Sum.inr (some (V a), wr a) : String ⊕ (Option Value × va_W)) = .inr (v', w1) := eo
      have ew : w1 = wr a := (congrArg Prod.snd (Sum.inr.inj eo)).symm
      have ev : v' = some (V a) := (congrArg Prod.fst (Sum.inr.inj eo)).symm
      subst ew
      subst ev
      have ev2 : v = some (V a) := by injection eoc
      subst ev2
      obtain ⟨k1, k2, k3⟩ := vx_keep h0 e1 hS (fun q _ h => hF q h) hF hL hFr
      have had : gAd (wr a) = gAd wc := hM.1 _ _ rfl
      rw [← e1] at hP1
      have hPn := gSub_P (E := E) hs9 hP hD k2 had hP1
      have hDn := gAd_D (hs9.2.2.1 (wr a) had) hD
      rw [hB a] at hPn hDn
      obtain ⟨t2, a1, b1⟩ := kk a rfl T'.heap (locs ++ L) ls hPn hDn k3 hl T' rfl X'
      exact ⟨t2, stp t2 a1, b1⟩
  · cases oc with
    | inr a => exact absurd (show (Sum.inr (some (V a), wr a) : String ⊕ (Option Value × va_W)) = .inl Ex from eo) (by simp)
    | inl x =>
      have eo : (Sum.inl x : String ⊕ (Option Value × va_W)) = .inl Ex := eo
      have ex : x = Ex := Sum.inl.inj eo
      subst ex
      obtain ⟨⟨rfl, rfl, hf⟩, eo2, rfl, hsub, hk1, hk2⟩ := hx9 x rfl
      obtain ⟨k1, k2, k3⟩ := vx_keep h0 e1 hS (fun q _ h => hF q h) hF hL hFr
      rw [← e1] at hP1 hce
      have hPn : va_P E.1 vwCl wo T'.heap := by
        rw [gP_mem]
        intro q9 hm9
        obtain ⟨k9, hq9⟩ := List.getElem?_of_mem (hsub q9 hm9)
        by_cases hin : va_A wc H.size q9.1
        · have hlt := (hP k9 q9 hq9).lt
          rcases hin with ⟨k2, e2, h2⟩ | h2
          · obtain ⟨i, h4⟩ := List.getElem?_of_mem (hs9.1 _ (List.mem_of_getElem? h2))
            have hki : k9 = i := hD.1 k9 i q9 (q9.1, e2) hq9 h4 rfl
            subst hki
            have h5 : q9 = (q9.1, e2) := Option.some.inj (hq9.symm.trans h4)
            rw [h5]
            exact hP1 k2 _ h2
          · omega
        · exact (hP k9 q9 hq9).kept (k2 q9.1 (hP k9 q9 hq9).lt hin)
      obtain ⟨t2, a1, b1⟩ := vx_out (p := p) (l := l) (e := e) (R := R) (s := s) (m := m) (args := args) (below := below) (meth := meth) (c := c) (ls := ls) (rest := st) (pc := pc) (E := x) (ce := ce) (q := q) (Qc := gPost E wo s.heap.size o) (XC := gExc E wo s.heap.size o) (free := va_A wo s.heap.size) (by rw [hh9]; intro x hx; cases hx) hlk hce hcv hcl (fun t ht _ => ⟨eo2, by rw [ht]; exact hPn, k3.F ht⟩) k3.2.2 hk1 hk2 T' rfl X'
      exact ⟨t2, stp.trans a1, b1⟩
theorem g_callSv {α : Type} {index maxL : Nat} {y : MethodName} {bytes : ByteArray} {retY : Option FieldType} {wsY wsY' : List Cond} {rmY : Room} {As : List Value} {n9 : Nat} {wr w2 : α → va_W} {oc : String ⊕ α} {wo : va_W} {rm : Room} {o : String ⊕ (Option Value × va_W)} (C : Cx E X cc nL own Ts R0 ret hh) (hM : Ct E y wsY rmY As wc (gO (fun a => none) wr oc)) (hG : GoodIn Ts (va_wsS own index y wsY)) (hw : wsY = Cond.code y bytes maxL retY :: wsY') (hd : y.cls ≠ "java/lang/invoke/MethodHandle" ∧ y.cls ≠ "java/lang/invoke/VarHandle" ∧ (parseMethodDescriptor y.desc).map (fun d => d.parameters.length) = some n9) (hn9 : As.length = n9) (hR : rmY.frames + 1 ≤ R0.frames ∧ 8 + (maxL + 11) + rmY.locals ≤ R0.locals ∧ k + rmY.cells ≤ R0.cells ∧ n + rmY.slots ≤ R0.slots ∧ (st.map fun v => v.category).sum ≤ 8)  {Fs : va_W → va_W} (hs9 : gSub ws wc Fs) (hB : ∀ a, Fs (wr a) = w2 a) (d : decode cc pc = .ok (.invokestatic index, 3))
    (hx9 : ∀ x, oc = .inl x → gQ E X wo rm o ∧ o = .inl x ∧ hh = [] ∧ (∀ q ∈ wo, q ∈ ws) ∧ k + rmY.cells ≤ rm.cells ∧ n + rmY.slots ≤ rm.slots) (kk : ∀ a, oc = .inr a → Gx E X (w2 a) nL lv st (pc + 3) (k + rmY.cells) (n + rmY.slots)) : Gx E X ws nL lv (As.reverse ++ st) pc k n := by
  obtain ⟨p, l, e, R, s, m, args, below, meth, c, A, Q⟩ := X
  obtain ⟨hx, hb, hml, ho, hts, rfl, hr, hlk, hK, hA, hst, hZ, hh9⟩ := C
  intro H locs ls hP hD hS hl
  obtain ⟨hbl, hpre⟩ := g_start hs9 hP hD hS hK hA hZ As
  have hF := gSub_A hs9 hD hS hA
  have hPc := gSub_in hs9 hP
  have cw := va_cwS (s := s) (args := args) (R := R) (own := own) (index := index) (y := y) (bytes := bytes) (maxL := maxL) (ret := retY) (rm := rmY) (mc := rmY.cells) (ms := rmY.slots) n9 hts hG hw rfl rfl hd ⟨hR.1, hR.2.1⟩
  have hrun := vx_runS (e := e) (below := below) (meth := meth) (locs := locs) (R := R) (H := H) (As := As) (rest := st) (g := F0 m pc ls (As.reverse ++ st)) ⟨hx, hb, hml, ho, hts⟩ (hM.2 l hst H.size) cw ⟨hbl, hpre⟩ rfl hn9 hl.1 rfl (by simpa [JFrame.monitorRoom] using hR.2.2.2.2) d ⟨hR.2.2.1, hR.2.2.2.1⟩
  intro T hT XT
  rcases hrun T hT XT with ⟨v, st₀, t, T', L, h0, X', hL, e1, e2, ⟨⟨v', w1, eo, eoc, hP1⟩, hFr⟩, stp⟩ | ⟨q, st₀, t, T', L, Ex, ce, h0, X', hL, e1, e2, ⟨eo, hP1, hFr⟩, hce, hcv, hcl, stp⟩
  · cases oc with
    | inl x => exact absurd (show (Sum.inl x : String ⊕ (Option Value × va_W)) = .inr (v', w1) from eo) (by simp)
    | inr a =>
      have eo : (Sum.inr (none, wr a) : String ⊕ (Option Value × va_W)) = .inr (v', w1) := eo
      have ew : w1 = wr a := (congrArg Prod.snd (Sum.inr.inj eo)).symm
      have ev : v' = none := (congrArg Prod.fst (Sum.inr.inj eo)).symm
      subst ew
      subst ev
      have ev2 : v = none := by injection eoc
      subst ev2
      obtain ⟨k1, k2, k3⟩ := vx_keep h0 e1 hS (fun q _ h => hF q h) hF hL hFr
      have had : gAd (wr a) = gAd wc := hM.1 _ _ rfl
      rw [← e1] at hP1
      have hPn := gSub_P (E := E) hs9 hP hD k2 had hP1
      have hDn := gAd_D (hs9.2.2.1 (wr a) had) hD
      rw [hB a] at hPn hDn
      obtain ⟨t2, a1, b1⟩ := kk a rfl T'.heap (locs ++ L) ls hPn hDn k3 hl T' rfl X'
      exact ⟨t2, stp t2 a1, b1⟩
  · cases oc with
    | inr a => exact absurd (show (Sum.inr (none, wr a) : String ⊕ (Option Value × va_W)) = .inl Ex from eo) (by simp)
    | inl x =>
      have eo : (Sum.inl x : String ⊕ (Option Value × va_W)) = .inl Ex := eo
      have ex : x = Ex := Sum.inl.inj eo
      subst ex
      obtain ⟨⟨rfl, rfl, hf⟩, eo2, rfl, hsub, hk1, hk2⟩ := hx9 x rfl
      obtain ⟨k1, k2, k3⟩ := vx_keep h0 e1 hS (fun q _ h => hF q h) hF hL hFr
      rw [← e1] at hP1 hce
      have hPn : va_P E.1 vwCl wo T'.heap := by
        rw [gP_mem]
        intro q9 hm9
        obtain ⟨k9, hq9⟩ := List.getElem?_of_mem (hsub q9 hm9)
        by_cases hin : va_A wc H.size q9.1
        · have hlt := (hP k9 q9 hq9).lt
          rcases hin with ⟨k2, e2, h2⟩ | h2
          · obtain ⟨i, h4⟩ := List.getElem?_of_mem (hs9.1 _ (List.mem_of_getElem? h2))
            have hki : k9 = i := hD.1 k9 i q9 (q9.1, e2) hq9 h4 rfl
            subst hki
            have h5 : q9 = (q9.1, e2) := Option.some.inj (hq9.symm.trans h4)
            rw [h5]
            exact hP1 k2 _ h2
          · omega
        · exact (hP k9 q9 hq9).kept (k2 q9.1 (hP k9 q9 hq9).lt hin)
      obtain ⟨t2, a1, b1⟩ := vx_out (p := p) (l := l) (e := e) (R := R) (s := s) (m := m) (args := args) (below := below) (meth := meth) (c := c) (ls := ls) (rest := st) (pc := pc) (E := x) (ce := ce) (q := q) (Qc := gPost E wo s.heap.size o) (XC := gExc E wo s.heap.size o) (free := va_A wo s.heap.size) (by rw [hh9]; intro x hx; cases hx) hlk hce hcv hcl (fun t ht _ => ⟨eo2, by rw [ht]; exact hPn, k3.F ht⟩) k3.2.2 hk1 hk2 T' rfl X'
      exact ⟨t2, stp.trans a1, b1⟩
theorem g_cVr {α : Type} {index maxL : Nat} {y : MethodName} {bytes : ByteArray} {retY : Option FieldType} {wsY wsY' : List Cond} {rmY : Room} {As : List Value} {n9 : Nat} {C9 : String} {b : Nat} {fs : List Value} {T9 : u_T} {N9 ci : Nat} {V : α → Value} {wr : α → va_W} {w2 : va_W} {a0 : α} (C : Cx E X cc nL own Ts R0 ret hh) (hM : Ct E y wsY rmY (.ref b :: As) wc (gO (fun a => some (V a)) wr (.inr a0))) (hG : GoodIn Ts (wsV own index C9 y wsY)) (hw : wsY = Cond.code y bytes maxL retY :: wsY') (hd : y.cls = C9 ∧ y.cls ≠ "java/lang/invoke/MethodHandle" ∧ y.cls ≠ "java/lang/invoke/VarHandle" ∧ (parseMethodDescriptor y.desc).map (fun d => d.parameters.length) = some n9) (hn9 : As.length = n9) (hR : rmY.frames + 1 ≤ R0.frames ∧ 8 + (maxL + 11) + rmY.locals ≤ R0.locals ∧ k + rmY.cells ≤ R0.cells ∧ n + rmY.slots ≤ R0.slots ∧ (st.map fun v => v.category).sum ≤ 8) (qb : Nat) (hb0 : wc[qb]? = some (b, .inr (ci, fs))) (hci : vwCl[ci]? = some (C9, T9, N9)) {Fs : va_W → va_W} (hs9 : gSub ws wc Fs) (hB : Fs (wr a0) = w2) (d : decode cc pc = .ok (.invokevirtual index, 3))
    (kk : Gx E X w2 nL lv (V a0 :: st) (pc + 3) (k + rmY.cells) (n + rmY.slots)) : Gx E X ws nL lv (As.reverse ++ .ref b :: st) pc k n := by
  subst hB
  exact g_callVr (w2 := fun a => Fs (wr a)) (wo := ws) (rm := R0) (o := .inl "") C hM hG hw hd hn9 hR qb hb0 hci hs9 (fun _ => rfl) d (fun x hx => by cases hx) (fun a ha => by cases ha; exact kk)
theorem g_cVv {α : Type} {index maxL : Nat} {y : MethodName} {bytes : ByteArray} {retY : Option FieldType} {wsY wsY' : List Cond} {rmY : Room} {As : List Value} {n9 : Nat} {C9 : String} {b : Nat} {fs : List Value} {T9 : u_T} {N9 ci : Nat} {wr : α → va_W} {w2 : va_W} {a0 : α} (C : Cx E X cc nL own Ts R0 ret hh) (hM : Ct E y wsY rmY (.ref b :: As) wc (gO (fun a => none) wr (.inr a0))) (hG : GoodIn Ts (wsV own index C9 y wsY)) (hw : wsY = Cond.code y bytes maxL retY :: wsY') (hd : y.cls = C9 ∧ y.cls ≠ "java/lang/invoke/MethodHandle" ∧ y.cls ≠ "java/lang/invoke/VarHandle" ∧ (parseMethodDescriptor y.desc).map (fun d => d.parameters.length) = some n9) (hn9 : As.length = n9) (hR : rmY.frames + 1 ≤ R0.frames ∧ 8 + (maxL + 11) + rmY.locals ≤ R0.locals ∧ k + rmY.cells ≤ R0.cells ∧ n + rmY.slots ≤ R0.slots ∧ (st.map fun v => v.category).sum ≤ 8) (qb : Nat) (hb0 : wc[qb]? = some (b, .inr (ci, fs))) (hci : vwCl[ci]? = some (C9, T9, N9)) {Fs : va_W → va_W} (hs9 : gSub ws wc Fs) (hB : Fs (wr a0) = w2) (d : decode cc pc = .ok (.invokevirtual index, 3))
    (kk : Gx E X w2 nL lv st (pc + 3) (k + rmY.cells) (n + rmY.slots)) : Gx E X ws nL lv (As.reverse ++ .ref b :: st) pc k n := by
  subst hB
  exact g_callVv (w2 := fun a => Fs (wr a)) (wo := ws) (rm := R0) (o := .inl "") C hM hG hw hd hn9 hR qb hb0 hci hs9 (fun _ => rfl) d (fun x hx => by cases hx) (fun a ha => by cases ha; exact kk)
theorem g_cSr {α : Type} {index maxL : Nat} {y : MethodName} {bytes : ByteArray} {retY : Option FieldType} {wsY wsY' : List Cond} {rmY : Room} {As : List Value} {n9 : Nat} {V : α → Value} {wr : α → va_W} {w2 : va_W} {a0 : α} (C : Cx E X cc nL own Ts R0 ret hh) (hM : Ct E y wsY rmY As wc (gO (fun a => some (V a)) wr (.inr a0))) (hG : GoodIn Ts (va_wsS own index y wsY)) (hw : wsY = Cond.code y bytes maxL retY :: wsY') (hd : y.cls ≠ "java/lang/invoke/MethodHandle" ∧ y.cls ≠ "java/lang/invoke/VarHandle" ∧ (parseMethodDescriptor y.desc).map (fun d => d.parameters.length) = some n9) (hn9 : As.length = n9) (hR : rmY.frames + 1 ≤ R0.frames ∧ 8 + (maxL + 11) + rmY.locals ≤ R0.locals ∧ k + rmY.cells ≤ R0.cells ∧ n + rmY.slots ≤ R0.slots ∧ (st.map fun v => v.category).sum ≤ 8)  {Fs : va_W → va_W} (hs9 : gSub ws wc Fs) (hB : Fs (wr a0) = w2) (d : decode cc pc = .ok (.invokestatic index, 3))
    (kk : Gx E X w2 nL lv (V a0 :: st) (pc + 3) (k + rmY.cells) (n + rmY.slots)) : Gx E X ws nL lv (As.reverse ++ st) pc k n := by
  subst hB
  exact g_callSr (w2 := fun a => Fs (wr a)) (wo := ws) (rm := R0) (o := .inl "") C hM hG hw hd hn9 hR hs9 (fun _ => rfl) d (fun x hx => by cases hx) (fun a ha => by cases ha; exact kk)
theorem g_cSv {α : Type} {index maxL : Nat} {y : MethodName} {bytes : ByteArray} {retY : Option FieldType} {wsY wsY' : List Cond} {rmY : Room} {As : List Value} {n9 : Nat} {wr : α → va_W} {w2 : va_W} {a0 : α} (C : Cx E X cc nL own Ts R0 ret hh) (hM : Ct E y wsY rmY As wc (gO (fun a => none) wr (.inr a0))) (hG : GoodIn Ts (va_wsS own index y wsY)) (hw : wsY = Cond.code y bytes maxL retY :: wsY') (hd : y.cls ≠ "java/lang/invoke/MethodHandle" ∧ y.cls ≠ "java/lang/invoke/VarHandle" ∧ (parseMethodDescriptor y.desc).map (fun d => d.parameters.length) = some n9) (hn9 : As.length = n9) (hR : rmY.frames + 1 ≤ R0.frames ∧ 8 + (maxL + 11) + rmY.locals ≤ R0.locals ∧ k + rmY.cells ≤ R0.cells ∧ n + rmY.slots ≤ R0.slots ∧ (st.map fun v => v.category).sum ≤ 8)  {Fs : va_W → va_W} (hs9 : gSub ws wc Fs) (hB : Fs (wr a0) = w2) (d : decode cc pc = .ok (.invokestatic index, 3))
    (kk : Gx E X w2 nL lv st (pc + 3) (k + rmY.cells) (n + rmY.slots)) : Gx E X ws nL lv (As.reverse ++ st) pc k n := by
  subst hB
  exact g_callSv (w2 := fun a => Fs (wr a)) (wo := ws) (rm := R0) (o := .inl "") C hM hG hw hd hn9 hR hs9 (fun _ => rfl) d (fun x hx => by cases hx) (fun a ha => by cases ha; exact kk)
end GC
