/-! shapes of the things, and the small words of the pure functions -/
abbrev RS : Type := (Nat → Int32) × Int32
abbrev wX3 (E : gE) (x y N : Nat) (r : RS) : va_W := [(x, .inr (5, [.ref y, .int r.2])), (y, .inl (cI E, N, .inl r.1))]
abbrev wX0 (E : gE) (a : Nat → Nat) (i : Nat) (t c : RS) : va_W := [(a i, .inr (2, [.ref (a (i + 1)), .ref (a (i + 3))])), (a (i + 1), .inr (5, [.ref (a (i + 2)), .int t.2])), (a (i + 2), .inl (cI E, 240, .inl t.1)), (a (i + 3), .inr (5, [.ref (a (i + 4)), .int c.2])), (a (i + 4), .inl (cI E, 240, .inl c.1))]
abbrev wX2 (E : gE) (a : Nat → Nat) (i : Nat) (lt ls lw lh lx : RS) : va_W := [(a i, .inr (4, [.ref (a (i + 1)), .ref (a (i + 3)), .ref (a (i + 5)), .ref (a (i + 7)), .ref (a (i + 9))])), (a (i + 1), .inr (5, [.ref (a (i + 2)), .int lt.2])), (a (i + 2), .inl (cI E, 120, .inl lt.1)), (a (i + 3), .inr (5, [.ref (a (i + 4)), .int ls.2])), (a (i + 4), .inl (cI E, 120, .inl ls.1)), (a (i + 5), .inr (5, [.ref (a (i + 6)), .int lw.2])), (a (i + 6), .inl (cI E, 120, .inl lw.1)), (a (i + 7), .inr (5, [.ref (a (i + 8)), .int lh.2])), (a (i + 8), .inl (cI E, 120, .inl lh.1)), (a (i + 9), .inr (5, [.ref (a (i + 10)), .int lx.2])), (a (i + 10), .inl (cI E, 120, .inl lx.1))]
abbrev wX1 (E : gE) (a : Nat → Nat) (i : Nat) (nu z : Int32) (q u t c : RS) : va_W := [(a i, .inr (3, [.int nu, .ref (a (i + 1)), .ref (a (i + 3)), .ref (a (i + 5)), .int z])), (a (i + 1), .inr (5, [.ref (a (i + 2)), .int q.2])), (a (i + 2), .inl (cI E, 48, .inl q.1)), (a (i + 3), .inr (5, [.ref (a (i + 4)), .int u.2])), (a (i + 4), .inl (cI E, 120, .inl u.1)), (a (i + 5), .inr (2, [.ref (a (i + 6)), .ref (a (i + 8))])), (a (i + 6), .inr (5, [.ref (a (i + 7)), .int t.2])), (a (i + 7), .inl (cI E, 240, .inl t.1)), (a (i + 8), .inr (5, [.ref (a (i + 9)), .int c.2])), (a (i + 9), .inl (cI E, 240, .inl c.1))]
abbrev wB (_ : gE) (a : Nat → Nat) : va_W := [(a 0, .inr (6, [.ref (a 2), .ref (a 1), .ref (a 13)]))]
def hfn (a : Nat → Nat) : Nat → Option Nat := fun k => if k < 4 then some (a (18 + 10 * k)) else none
abbrev wA (E : gE) (a : Nat → Nat) : va_W := [(a 1, .inl (cH E, 4, .inr (.inr (.inr (.inr (hfn a))))))]
abbrev wM (E : gE) (b : Nat → Nat) (th ma st : Int32) (ti sp we ho sa ca cl : Nat → Int32) (su : Int64) : va_W := [(b 0, .inr (7, [.int th, .int ma, .int st, .ref (b 1), .ref (b 2), .ref (b 3), .ref (b 4), .ref (b 5), .ref (b 6), .ref (b 7), .long su])), (b 1, .inl (cI E, 120, .inl ti)), (b 2, .inl (cI E, 120, .inl sp)), (b 3, .inl (cI E, 120, .inl we)), (b 4, .inl (cI E, 120, .inl ho)), (b 5, .inl (cI E, 120, .inl sa)), (b 6, .inl (cI E, 120, .inl ca)), (b 7, .inl (cI E, 4, .inl cl))]
def bI (b : Bool) : Int32 := cond b 1 0
theorem bI_nar (b : Bool) : narrow .boolean (.int (bI b)) = .int (bI b) := by cases b <;> rfl
def inB (i : Int32) (N : Nat) : Bool := decide (¬ (i < 0 ∨ N ≤ i.toNatClampNeg))
theorem inB_in {i : Int32} {N : Nat} (h : inB i N = true) : vp_in i N := of_decide_eq_true (p := ¬ (i < 0 ∨ N ≤ i.toNatClampNeg)) h
def cpB (sp dp c : Int32) (N : Nat) : Bool := decide (¬ sp < 0 ∧ ¬ dp < 0 ∧ ¬ c < 0 ∧ sp.toNatClampNeg + c.toNatClampNeg ≤ N ∧ dp.toNatClampNeg + c.toNatClampNeg ≤ N)
theorem cpB_1 {sp dp c : Int32} {N : Nat} (h : cpB sp dp c N = true) : ¬ sp < 0 := (of_decide_eq_true h).1
theorem cpB_2 {sp dp c : Int32} {N : Nat} (h : cpB sp dp c N = true) : ¬ dp < 0 := (of_decide_eq_true h).2.1
theorem cpB_3 {sp dp c : Int32} {N : Nat} (h : cpB sp dp c N = true) : ¬ c < 0 := (of_decide_eq_true h).2.2.1
theorem cpB_4 {sp dp c : Int32} {N : Nat} (h : cpB sp dp c N = true) : sp.toNatClampNeg + c.toNatClampNeg ≤ N := (of_decide_eq_true h).2.2.2.1
theorem cpB_5 {sp dp c : Int32} {N : Nat} (h : cpB sp dp c N = true) : dp.toNatClampNeg + c.toNatClampNeg ≤ N := (of_decide_eq_true h).2.2.2.2
theorem ifN {c : Prop} [Decidable c] {α : Type} {x : Option α} {o : α} (h : (if c then x else none) = some o) : c ∧ x = some o := by
  by_cases hc : c
  · rw [if_pos hc] at h; exact ⟨hc, h⟩
  · rw [if_neg hc] at h; cases h
def tB {α β : Type} (x : Option (String ⊕ α)) (f : α → Option (String ⊕ β)) : Option (String ⊕ β) := match x with
  | none => none
  | some (.inl e) => some (.inl e)
  | some (.inr a) => f a
theorem tB_some {α β : Type} {x : Option (String ⊕ α)} {f : α → Option (String ⊕ β)} {o : String ⊕ β} (h : tB x f = some o) : ∃ oc, x = some oc ∧ (∀ e, oc = .inl e → o = .inl e) ∧ ∀ a, oc = .inr a → f a = some o := by
  match x, h with
  | some (.inl e), h => exact ⟨_, rfl, fun e' he => (by cases he; exact (Option.some.inj h).symm), fun a ha => (by cases ha)⟩
  | some (.inr a), h => exact ⟨_, rfl, fun e' he => (by cases he), fun a' ha => (by cases ha; exact h)⟩
def FU : Nat := 1000000
/-- the house of a number: refused, or its place -/
def f_X4_houseAt (p1 : Int32) : Option (String ⊕ Nat) := if p1 < 0 then some (.inl "java/lang/IndexOutOfBoundsException") else if 4 ≤ p1 then some (.inl "java/lang/IndexOutOfBoundsException") else some (.inr p1.toNatClampNeg)
theorem khyp {p : Int32} {o : String ⊕ Nat} {k k5 : Nat} (e : f_X4_houseAt p = some o) (h9 : o = .inr k5) (hk : f_X4_houseAt p = some (.inr k)) : k = k5 := by
  subst h9
  exact Sum.inr.inj (Option.some.inj (hk.symm.trans e))
