/-! rows for floats, for methods that catch, and for part worlds at the end -/
def n64 (x : UInt64) : Bool := decide (x &&& 0x7fffffffffffffff ≤ 0x7ff0000000000000)
def n32 (x : UInt32) : Bool := decide (x &&& 0x7fffffff ≤ 0x7f800000)
theorem n64_t {x : UInt64} (h : n64 x = true) : vf_n64 x := of_decide_eq_true (p := x &&& 0x7fffffffffffffff ≤ 0x7ff0000000000000) h
theorem n32_t {x : UInt32} (h : n32 x = true) : vf_n32 x := of_decide_eq_true (p := x &&& 0x7fffffff ≤ 0x7f800000) h
section GF
variable {E : gE} {X : gX} {cc : ByteArray} {nL : Nat} {own : String} {Ts : List Cond} {R0 : Room} {ret : Option FieldType} {hh : List ExceptionTableEntry} {ws : va_W} {lv lv2 : List (Nat × Value)} {st : List Value} {pc k n : Nat}
theorem g_dconst0 (C : Cx E X cc nL own Ts R0 ret hh) (d : decode cc pc = .ok (.dconst 0, 1)) (kk : Gx E X ws nL lv (.double FP.dconst0 :: st) (pc + 1) k n) : Gx E X ws nL lv st pc k n := by
  obtain ⟨p, l, e, R, s, m, args, below, meth, c, A, Q⟩ := X
  obtain ⟨hx, hb, hml, ho, hts, rfl, hr, hlk, hK, hA, hst, hZ, hh9⟩ := C
  intro H locs ls hP hD hS hl
  exact lv_dconst0 hx hb d (kk H locs ls hP hD hS hl)
theorem g_fconst0 (C : Cx E X cc nL own Ts R0 ret hh) (d : decode cc pc = .ok (.fconst 0, 1)) (kk : Gx E X ws nL lv (.float FP.fconst0 :: st) (pc + 1) k n) : Gx E X ws nL lv st pc k n := by
  obtain ⟨p, l, e, R, s, m, args, below, meth, c, A, Q⟩ := X
  obtain ⟨hx, hb, hml, ho, hts, rfl, hr, hlk, hK, hA, hst, hZ, hh9⟩ := C
  intro H locs ls hP hD hS hl
  exact lv_fconst0 hx hb d (kk H locs ls hP hD hS hl)
theorem g_ddiv {x y : UInt64} (C : Cx E X cc nL own Ts R0 ret hh) (hn9 : n64 (FP.ddiv x y) = true) (d : decode cc pc = .ok (.ddiv, 1)) (kk : Gx E X ws nL lv (.double (FP.ddiv x y) :: st) (pc + 1) k n) : Gx E X ws nL lv (.double y :: .double x :: st) pc k n := by
  obtain ⟨p, l, e, R, s, m, args, below, meth, c, A, Q⟩ := X
  obtain ⟨hx, hb, hml, ho, hts, rfl, hr, hlk, hK, hA, hst, hZ, hh9⟩ := C
  intro H locs ls hP hD hS hl
  exact lv_ddiv hx hb d (n64_t hn9) (kk H locs ls hP hD hS hl)
theorem g_fdiv {x y : UInt32} (C : Cx E X cc nL own Ts R0 ret hh) (hn9 : n32 (FP.fdiv x y) = true) (d : decode cc pc = .ok (.fdiv, 1)) (kk : Gx E X ws nL lv (.float (FP.fdiv x y) :: st) (pc + 1) k n) : Gx E X ws nL lv (.float y :: .float x :: st) pc k n := by
  obtain ⟨p, l, e, R, s, m, args, below, meth, c, A, Q⟩ := X
  obtain ⟨hx, hb, hml, ho, hts, rfl, hr, hlk, hK, hA, hst, hZ, hh9⟩ := C
  intro H locs ls hP hD hS hl
  exact lv_fdiv hx hb d (n32_t hn9) (kk H locs ls hP hD hS hl)
theorem g_f2d {x : UInt32} (C : Cx E X cc nL own Ts R0 ret hh) (hn9 : n64 (FP.f2d x) = true) (d : decode cc pc = .ok (.f2d, 1)) (kk : Gx E X ws nL lv (.double (FP.f2d x) :: st) (pc + 1) k n) : Gx E X ws nL lv (.float x :: st) pc k n := by
  obtain ⟨p, l, e, R, s, m, args, below, meth, c, A, Q⟩ := X
  obtain ⟨hx, hb, hml, ho, hts, rfl, hr, hlk, hK, hA, hst, hZ, hh9⟩ := C
  intro H locs ls hP hD hS hl
  exact lv_f2d hx hb d (n64_t hn9) (kk H locs ls hP hD hS hl)
theorem g_dcmp {x y : UInt64} {op : CmpOp} (C : Cx E X cc nL own Ts R0 ret hh) (d : decode cc pc = .ok (.dcmp op, 1)) (kk : Gx E X ws nL lv (.int (Op.cmpValue (FP.dcmp x y) op) :: st) (pc + 1) k n) : Gx E X ws nL lv (.double y :: .double x :: st) pc k n := by
  obtain ⟨p, l, e, R, s, m, args, below, meth, c, A, Q⟩ := X
  obtain ⟨hx, hb, hml, ho, hts, rfl, hr, hlk, hK, hA, hst, hZ, hh9⟩ := C
  intro H locs ls hP hD hS hl
  exact lv_dcmp hx hb d (kk H locs ls hP hD hS hl)
theorem g_fcmp {x y : UInt32} {op : CmpOp} (C : Cx E X cc nL own Ts R0 ret hh) (d : decode cc pc = .ok (.fcmp op, 1)) (kk : Gx E X ws nL lv (.int (Op.cmpValue (FP.fcmp x y) op) :: st) (pc + 1) k n) : Gx E X ws nL lv (.float y :: .float x :: st) pc k n := by
  obtain ⟨p, l, e, R, s, m, args, below, meth, c, A, Q⟩ := X
  obtain ⟨hx, hb, hml, ho, hts, rfl, hr, hlk, hK, hA, hst, hZ, hh9⟩ := C
  intro H locs ls hP hD hS hl
  exact lv_fcmp hx hb d (kk H locs ls hP hD hS hl)
end GF
theorem gSub.post {ws wc P : va_W} (h : ws = P ++ wc) : gSub ws wc (fun w => P ++ w) := by
  subst h
  refine ⟨fun q hq => List.mem_append_right _ hq, fun A hD => ?_, fun w1 he => by simp only [gAd, List.map_append] at he ⊢; rw [he], fun A hD w1 he q hq => ?_⟩
  · rw [gD_iff] at hD ⊢
    simp only [gAd, List.map_append] at hD ⊢
    exact ⟨(List.nodup_append.mp hD.1).2.1, fun a ha => hD.2 a (List.mem_append_right _ ha)⟩
  · rcases List.mem_append.mp hq with h | h
    · refine Or.inr ⟨List.mem_append_left _ h, fun hm => ?_⟩
      rw [gD_iff] at hD
      simp only [gAd, List.map_append] at hD hm
      exact (List.nodup_append.mp hD.1).2.2 q.1 (List.mem_map.mpr ⟨q, h, rfl⟩) q.1 hm rfl
    · exact Or.inl h
