/-! My own layer over the kit: a frame that is walked as ONE judgement Gx (the heap, the places written and the locals hidden), and ONE form of contract Ct (what a method answers is told by a pure value o: it throws a name, or it returns a value and a world). -/
/-- what stays the same over the whole claim: the tables' numbers, the array types' numbers (int, House, long, double), the text constants' addresses -/
abbrev gE : Type := va_G × ClassId × ClassId × ClassId × ClassId × (Nat → Nat)
abbrev cI (E : gE) : ClassId := E.2.1
abbrev cH (E : gE) : ClassId := E.2.2.1
abbrev cJ (E : gE) : ClassId := E.2.2.2.1
abbrev cD (E : gE) : ClassId := E.2.2.2.2.1
abbrev sA (E : gE) : Nat → Nat := E.2.2.2.2.2
abbrev tyE (E : gE) : List (ClassId × FieldType) := [(cI E, .int), (cH E, .object RX1), (cJ E, .long), (cD E, .double)]
/-- the text constants of the class, by their numbers in its pool -/
def gStr : List (Nat × String) := [(48, "time, span or weight is out of range"), (65, "step, many, span, weight or a time is out of range"), (98, "no such booking waits in the house"), (107, "the time is below the clock"), (133, "none waits"), (139, "the time is above the clock"), (144, "more than 48 would wait in the house"), (157, "none waits at the time or behind it"), (161, "no such booking"), (176, "what is none of t, s, w, h and x"), (194, "no time is busy"), (206, "what is none of b, e and g"), (211, "no such place"), (220, "from or many is out of range"), (235, "none came or waits"), (259, "no such house"), (261, "more than 120 bookings would have been made"), (263, "time is out of range"), (265, "from is above to"), (267, "both houses are the same"), (286, "a time is below the clock of the house")]
/-- the words of throws and catches that only the tables of the state at hand tell: which constructors are declared, which of the five exceptions is which -/
def gEx : List String := ["java/lang/IndexOutOfBoundsException", "java/lang/IllegalArgumentException", "java/lang/IllegalStateException", "java/util/NoSuchElementException", "java/lang/ArithmeticException"]
def gDe : List MethodName := [Bundle.initS Bundle.tN, Bundle.initS "java/lang/Exception", Bundle.initS "java/lang/RuntimeException"]
/-- the fields and constructors that a nest mate reaches -/
def gFn : List (Nat × String × String × String) := [(71, "Bookinghouse$House", "queue", "LBookinghouse$Row;"), (101, "Bookinghouse$House", "now", "I"), (110, "Bookinghouse$Ledger", "times", "LBookinghouse$Row;"), (150, "Bookinghouse$House", "past", "LBookinghouse$Row;"), (164, "Bookinghouse$Ledger", "spans", "LBookinghouse$Row;"), (167, "Bookinghouse$Ledger", "weights", "LBookinghouse$Row;"), (170, "Bookinghouse$Ledger", "homes", "LBookinghouse$Row;"), (173, "Bookinghouse$Ledger", "states", "LBookinghouse$Row;"), (178, "Bookinghouse$House", "crowd", "LBookinghouse$Crowd;"), (213, "Bookinghouse$Crowd", "times", "LBookinghouse$Row;"), (283, "Bookinghouse$House", "number", "I"), (303, "Bookinghouse$Crowd", "changes", "LBookinghouse$Row;")]
def gMn : List (String × Nat × String) := [("Bookinghouse", 9, "Bookinghouse$Ledger"), ("Bookinghouse", 24, "Bookinghouse$Crowd"), ("Bookinghouse$House", 25, "Bookinghouse$Crowd")]
/-- what a throw asks of the heap and of the text constants; what nest mates' links ask of the tables -/
def Zt (E : gE) (A : Nat → Prop) (U : State) : Prop := vx_Zq Bundle.tN "UNASSIGNED_STACK" Bundle.steD A U U.heap ∧ vx_Zq Bundle.tN "SUPPRESSED_SENTINEL" Bundle.listD A U U.heap ∧ (∀ q ∈ gStr, vk_R RX4 q.1 q.2 (sA E q.1) U) ∧ (∀ x ∈ gDe, va_Nw (.declares x) U) ∧ (∀ x ∈ gEx, va_Nw (.castable x x) U) ∧ (∀ x ∈ gEx, ∀ y ∈ gEx, x ≠ y → va_Nc x y U) ∧ (∀ q ∈ gFn, va_Nw (.fieldLinkNest RX4 q.1 q.2.1 q.2.2.1 q.2.2.2 RX4) U) ∧ (∀ q ∈ gMn, va_Nw (.methodLinkNest q.1 q.2.1 ⟨q.2.2, "<init>", "()V"⟩ RX4) U) ∧ va_AO RX1 U
abbrev gX : Type := Program × Launch × Env × Room × State × MethodId × Array Value × List Frame × Method × Code × (Nat → Prop) × (State → Prop)
/-- the frame at pc with these locals and this stack, in the world ws, with k cells and n slots made, goes on to its end -/
def Gx (E : gE) (X : gX) (ws : va_W) (nL : Nat) (lv : List (Nat × Value)) (st : List Value) (pc k n : Nat) : Prop := match X with
  | (p, l, e, R, s, m, args, below, meth, c, A, Q) => ∀ (H : Heap) (locs : List Loc) (ls : Array Slot), va_P E.1 vwCl ws H → va_D A ws → va_S A s.heap H locs → lv_has ls nL lv → W p l e R s m args below meth c H locs k n Q (F0 m pc ls st)
/-- what is known of the frame -/
def Cx (E : gE) (X : gX) (cc : ByteArray) (nL : Nat) (own : String) (Ts : List Cond) (R0 : Room) (ret : Option FieldType) (hh : List ExceptionTableEntry) : Prop := match X with
  | (p, l, _, R, s, m, args, _, meth, c, A, _) => p.tables.exec = Jvm.exec ∧ c.code = cc ∧ c.maxLocals = nL ∧ s.vm.findClass own = some m.cls ∧ (∀ w ∈ Ts, w.before args s = true) ∧ R = R0 ∧ meth.sig.returnType = ret ∧ meth.locks = false ∧ va_K E.1 vwCl (tyE E) s ∧ (∀ q : Nat, s.heap.size ≤ q → A q) ∧ l.stackTraces = false ∧ Zt E A s ∧ c.exceptionTable.toList = hh
/-- a contract: its start -/
def gPre (E : gE) (argv : List Value) (wc : va_W) (sz : Nat) : Array Value → State → Prop := va_Pc argv (fun U => U.heap.size = sz ∧ va_P E.1 vwCl wc U.heap ∧ va_K E.1 vwCl (tyE E) U ∧ va_D (fun _ => True) wc ∧ Zt E (va_A wc sz) U)
/-- its end, when it returns -/
def gPost (E : gE) (wc : va_W) (sz : Nat) (o : String ⊕ (Option Value × va_W)) : Array Value → State → Outcome → State → Prop := fun _ st oc t => (∃ (v : Option Value) (w1 : va_W), o = .inr (v, w1) ∧ oc = .returned v ∧ va_P E.1 vwCl w1 t.heap) ∧ va_F (va_A wc sz) st t
/-- its end, when it throws: the world is as it was -/
def gExc (E : gE) (wc : va_W) (sz : Nat) (o : String ⊕ (Option Value × va_W)) : String → State → State → Prop := fun x st t => o = .inl x ∧ va_P E.1 vwCl wc t.heap ∧ va_F (va_A wc sz) st t
def gAd (ws : va_W) : List Nat := ws.map (fun q => q.1)
/-- an answer's words: what is returned, and the world, of a pure value -/
def gO {α : Type} (V : α → Option Value) (wr : α → va_W) (oc : String ⊕ α) : String ⊕ (Option Value × va_W) := match oc with
  | .inl x => .inl x
  | .inr a => .inr (V a, wr a)
/-- THE CONTRACT -/
def Ct (E : gE) (y : MethodName) (ws : List Cond) (rm : Room) (argv : List Value) (wc : va_W) (o : String ⊕ (Option Value × va_W)) : Prop :=
  (∀ v w1, o = .inr (v, w1) → gAd w1 = gAd wc) ∧ ∀ l : Launch, l.stackTraces = false → ∀ sz : Nat, vx_Met l y ws rm (gPre E argv wc sz) (gPost E wc sz o) (gExc E wc sz o) rm.cells rm.slots (va_A wc sz)
/-- what the frame owes at its end -/
def gQ (E : gE) (X : gX) (wc : va_W) (rm : Room) (o : String ⊕ (Option Value × va_W)) : Prop := match X with
  | (_, _, _, _, s, _, args, below, _, _, A, Q) => Q = vx_MQ below (gPost E wc s.heap.size o) (gExc E wc s.heap.size o) args s rm.cells rm.slots (va_A wc s.heap.size) ∧ A = va_A wc s.heap.size ∧ ∀ v w1, o = .inr (v, w1) → gAd w1 = gAd wc
theorem gAd_get {ws w1 : va_W} (h : gAd w1 = gAd ws) {k : Nat} {q : Nat × va_E} (hq : w1[k]? = some q) : ∃ q' : Nat × va_E, ws[k]? = some q' ∧ q'.1 = q.1 := by
  have h1 : (gAd w1)[k]? = some q.1 := by simp [gAd, hq]
  rw [h] at h1
  simp only [gAd, List.getElem?_map, Option.map_eq_some_iff] at h1
  exact h1
theorem gAd_D {A : Nat → Prop} {ws w1 : va_W} (h : gAd w1 = gAd ws) (hD : va_D A ws) : va_D A w1 := by
  refine ⟨fun i j p q hi hj e => ?_, fun k q hq => ?_⟩
  · obtain ⟨p', hp, ep⟩ := gAd_get h hi
    obtain ⟨q', hq, eq⟩ := gAd_get h hj
    exact hD.1 i j p' q' hp hq (by rw [ep, eq, e])
  · obtain ⟨q', hq', eq⟩ := gAd_get h hq
    rw [← eq]; exact hD.2 k q' hq'
theorem gAd_A {ws w1 : va_W} {sz : Nat} (h : gAd w1 = gAd ws) {q : Nat} (hq : va_A w1 sz q) : va_A ws sz q := by
  rcases hq with ⟨k, e, hk⟩ | hq
  · obtain ⟨⟨a, e'⟩, h1, h2⟩ := gAd_get h hk
    exact Or.inl ⟨k, e', by rw [h1]; simp at h2; rw [h2]⟩
  · exact Or.inr hq
/-- the cells at the places is of ws, replaced by qs -/
def g_put : va_W → List Nat → va_W → va_W
  | ws, i :: is, q :: qs => g_put (ws.set i q) is qs
  | ws, _, _ => ws
theorem g_put_get : ∀ (is : List Nat) (qs ws : va_W) (k : Nat) (q : Nat × va_E), (g_put ws is qs)[k]? = some q → (ws[k]? = some q ∧ (k ∉ is ∨ qs.length < is.length)) ∨ ∃ j : Nat, is[j]? = some k ∧ qs[j]? = some q := by
  intro is
  induction is with
  | nil => intro qs ws k q h; cases qs <;> exact Or.inl ⟨h, Or.inl List.not_mem_nil⟩
  | cons i is ih =>
    intro qs ws k q h
    cases qs with
    | nil => exact Or.inl ⟨h, Or.inr (by simp)⟩
    | cons x qs =>
      rcases ih qs (ws.set i x) k q h with ⟨h1, h2⟩ | ⟨j, h1, h2⟩
      · by_cases hk : k = i
        · subst hk
          rw [List.getElem?_set] at h1
          simp only [if_true] at h1
          split at h1
          · exact Or.inr ⟨0, rfl, h1⟩
          · cases h1
        · rw [List.getElem?_set_ne (Ne.symm hk)] at h1
          refine Or.inl ⟨h1, ?_⟩
          rcases h2 with h2 | h2
          · exact Or.inl (fun z => (List.mem_cons.mp z).elim hk h2)
          · exact Or.inr (by simpa using h2)
      · exact Or.inr ⟨j + 1, h1, h2⟩
theorem g_put_ad : ∀ (is : List Nat) (qs ws wc : va_W), is.map (fun i => ws[i]?) = wc.map some → va_nd is = true → gAd qs = gAd wc → gAd (g_put ws is qs) = gAd ws := by
  intro is
  induction is with
  | nil => intro qs ws wc h _ _; cases qs <;> rfl
  | cons i is ih =>
    intro qs ws wc h hn he
    cases qs with
    | nil => rfl
    | cons x qs =>
      cases wc with
      | nil => simp at h
      | cons y wc =>
        simp only [List.map_cons, List.cons.injEq] at h
        simp only [gAd, List.map_cons, List.cons.injEq] at he
        have hs : gAd (ws.set i x) = gAd ws := by
          apply List.ext_getElem?
          intro k
          simp only [gAd, List.getElem?_map, List.getElem?_set]
          split
          · next e =>
            subst e
            have hi := h.1
            split
            · simp [hi, he.1]
            · next hl => rw [List.getElem?_eq_none (by omega)] at hi; cases hi
          · rfl
        have hni : i ∉ is := by
          intro hm
          obtain ⟨j, hj⟩ := List.getElem?_of_mem hm
          have := va_nd_inj _ hn 0 (j + 1) i rfl hj
          omega
        have hn' : va_nd is = true := by
          simp only [va_nd, Bool.and_eq_true] at hn
          exact hn.2
        refine (ih qs (ws.set i x) wc ?_ hn' he.2).trans hs
        rw [← h.2]
        apply List.map_congr_left
        intro j hj
        rw [List.getElem?_set_ne (fun e : i = j => hni (by rw [e]; exact hj))]
theorem g_put_P {E : gE} {A0 : Nat → Prop} {ws wc w1 : va_W} {H H1 : Heap} (hP : va_P E.1 vwCl ws H) (hD : va_D A0 ws) (is : List Nat) (hC : is.map (fun i => ws[i]?) = wc.map some) (hn : va_nd is = true) (hF : ∀ q : Nat, q < H.size → ¬ va_A wc H.size q → H1[q]? = H[q]?) (he : gAd w1 = gAd wc) (hP1 : va_P E.1 vwCl w1 H1) : va_P E.1 vwCl (g_put ws is w1) H1 := by
  intro k q hq
  rcases g_put_get is w1 ws k q hq with ⟨h1, h2⟩ | ⟨j, h1, h2⟩
  · have hl := (hP k q h1).lt
    refine (hP k q h1).kept (hF q.1 hl ?_)
    rintro (⟨k2, e, h⟩ | h)
    · have h3 : (is.map (fun i => ws[i]?))[k2]? = some (some (q.1, e)) := by rw [hC, List.getElem?_map, h]; rfl
      rw [List.getElem?_map] at h3
      cases hi : is[k2]? with
      | none => rw [hi] at h3; cases h3
      | some i =>
        rw [hi] at h3
        have h4 : ws[i]? = some (q.1, e) := Option.some.inj h3
        have hki : k = i := hD.1 k i q (q.1, e) h1 h4 rfl
        subst hki
        rcases h2 with h2 | h2
        · exact h2 (List.mem_of_getElem? hi)
        · have l1 : w1.length = wc.length := by have := congrArg List.length he; simpa [gAd] using this
          have l2 : is.length = wc.length := by have := congrArg List.length hC; simpa using this
          omega
    · omega
  · exact hP1 j q h2
theorem gD_iff {A : Nat → Prop} {ws : va_W} : va_D A ws ↔ (gAd ws).Nodup ∧ ∀ a ∈ gAd ws, A a := by
  constructor
  · rintro ⟨h1, h2⟩
    refine ⟨?_, ?_⟩
    · rw [List.nodup_iff_pairwise_ne, List.pairwise_iff_getElem]
      intro i j hi hj hij e
      simp only [gAd, List.length_map] at hi hj
      simp only [gAd, List.getElem_map] at e
      have := h1 i j ws[i] ws[j] (List.getElem?_eq_getElem hi) (List.getElem?_eq_getElem hj) e
      omega
    · intro a ha
      obtain ⟨q, hq, rfl⟩ := List.mem_map.mp ha
      obtain ⟨k, hk⟩ := List.getElem?_of_mem hq
      exact h2 k q hk
  · rintro ⟨h1, h2⟩
    refine ⟨fun i j p q hi hj e => ?_, fun k q hk => h2 _ (List.mem_map.mpr ⟨q, List.mem_of_getElem? hk, rfl⟩)⟩
    have li : i < (gAd ws).length := by
      simp only [gAd, List.length_map]
      exact (List.getElem?_eq_some_iff.mp hi).1
    refine (List.getElem?_inj li h1).mp ?_
    simp only [gAd, List.getElem?_map, hi, hj, Option.map_some, e]
theorem gP_mem {D : va_G} {cl : List vw_C} {ws : va_W} {H : Heap} : va_P D cl ws H ↔ ∀ q ∈ ws, va_at D cl q H :=
  ⟨fun h q hq => by obtain ⟨k, hk⟩ := List.getElem?_of_mem hq; exact h k q hk, fun h k q hk => h q (List.mem_of_getElem? hk)⟩
/-- wc is a part of the world ws; F puts it back -/
def gSub (ws wc : va_W) (F : va_W → va_W) : Prop := (∀ q ∈ wc, q ∈ ws) ∧ (∀ A, va_D A ws → va_D A wc) ∧ (∀ w1, gAd w1 = gAd wc → gAd (F w1) = gAd ws) ∧ ∀ A, va_D A ws → ∀ w1, gAd w1 = gAd wc → ∀ q ∈ F w1, q ∈ w1 ∨ (q ∈ ws ∧ q.1 ∉ gAd wc)
theorem gSub.idx {ws wc : va_W} (is : List Nat) (hC : is.map (fun i => ws[i]?) = wc.map some) (hn : va_nd is = true) : gSub ws wc (g_put ws is) := by
  have hin : ∀ {j : Nat} {q : Nat × va_E}, wc[j]? = some q → ∃ i, is[j]? = some i ∧ ws[i]? = some q := by
    intro j q h
    have h3 : (is.map (fun i => ws[i]?))[j]? = some (some q) := by rw [hC, List.getElem?_map, h]; rfl
    rw [List.getElem?_map] at h3
    cases hi : is[j]? with
    | none => rw [hi] at h3; cases h3
    | some i => rw [hi] at h3; exact ⟨i, rfl, Option.some.inj h3⟩
  refine ⟨fun q hq => ?_, fun A hD => hD.sub is hn hC, fun w1 he => g_put_ad is w1 ws wc hC hn he, fun A hD w1 he q hq => ?_⟩
  · obtain ⟨j, hj⟩ := List.getElem?_of_mem hq
    obtain ⟨i, -, hi⟩ := hin hj
    exact List.mem_of_getElem? hi
  · obtain ⟨k, hk⟩ := List.getElem?_of_mem hq
    rcases g_put_get is w1 ws k q hk with ⟨h1, h2⟩ | ⟨j, h1, h2⟩
    · refine Or.inr ⟨List.mem_of_getElem? h1, fun hm => ?_⟩
      obtain ⟨q', hq', e'⟩ := List.mem_map.mp hm
      obtain ⟨j, hj⟩ := List.getElem?_of_mem hq'
      obtain ⟨i, hi, hi2⟩ := hin hj
      have hki : k = i := hD.1 k i q q' h1 hi2 e'.symm
      subst hki
      rcases h2 with h2 | h2
      · exact h2 (List.mem_of_getElem? hi)
      · have l1 : w1.length = wc.length := by have := congrArg List.length he; simpa [gAd] using this
        have l2 : is.length = wc.length := by have := congrArg List.length hC; simpa using this
        omega
    · exact Or.inl (List.mem_of_getElem? h2)
theorem gSub.all {ws : va_W} : gSub ws ws (fun w => w) := ⟨fun _ h => h, fun _ h => h, fun _ h => h, fun _ _ _ _ _ h => Or.inl h⟩
theorem gSub.pre {ws wc S : va_W} (h : ws = wc ++ S) : gSub ws wc (fun w => w ++ S) := by
  subst h
  refine ⟨fun q hq => List.mem_append_left _ hq, fun A hD => ?_, fun w1 he => by simp only [gAd, List.map_append] at he ⊢; rw [he], fun A hD w1 he q hq => ?_⟩
  · rw [gD_iff] at hD ⊢
    simp only [gAd, List.map_append] at hD ⊢
    exact ⟨(List.nodup_append.mp hD.1).1, fun a ha => hD.2 a (List.mem_append_left _ ha)⟩
  · rcases List.mem_append.mp hq with h | h
    · exact Or.inl h
    · refine Or.inr ⟨List.mem_append_right _ h, fun hm => ?_⟩
      rw [gD_iff] at hD
      simp only [gAd, List.map_append] at hD hm
      exact (List.nodup_append.mp hD.1).2.2 q.1 hm q.1 (List.mem_map.mpr ⟨q, h, rfl⟩) rfl
theorem gSub_P {E : gE} {A0 : Nat → Prop} {ws wc w1 : va_W} {F : va_W → va_W} {H H1 : Heap} (hs : gSub ws wc F) (hP : va_P E.1 vwCl ws H) (hD : va_D A0 ws) (hF : ∀ q : Nat, q < H.size → ¬ va_A wc H.size q → H1[q]? = H[q]?) (he : gAd w1 = gAd wc) (hP1 : va_P E.1 vwCl w1 H1) : va_P E.1 vwCl (F w1) H1 := by
  rw [gP_mem] at hP1 hP ⊢
  intro q hq
  rcases hs.2.2.2 A0 hD w1 he q hq with h | ⟨h, hn⟩
  · exact hP1 q h
  · have hl := (hP q h).lt
    refine (hP q h).kept (hF q.1 hl ?_)
    rintro (⟨k2, e, h2⟩ | h2)
    · exact hn (List.mem_map.mpr ⟨(q.1, e), List.mem_of_getElem? h2, rfl⟩)
    · omega
theorem gSub_A {A0 : Nat → Prop} {ws wc : va_W} {F : va_W → va_W} {H0 H : Heap} {locs : List Loc} (hs : gSub ws wc F) (hD : va_D A0 ws) (hS : va_S A0 H0 H locs) (hA : ∀ q : Nat, H0.size ≤ q → A0 q) : ∀ q, va_A wc H.size q → A0 q := by
  rintro q (⟨k, e, h⟩ | h)
  · exact (hs.2.1 A0 hD).2 k (q, e) h
  · exact hA q (Nat.le_trans hS.1 h)
theorem gSub_in {E : gE} {ws wc : va_W} {F : va_W → va_W} {H : Heap} (hs : gSub ws wc F) (hP : va_P E.1 vwCl ws H) : va_P E.1 vwCl wc H := by
  rw [gP_mem] at hP ⊢
  exact fun q hq => hP q (hs.1 q hq)
theorem Zt.moved {E : gE} {A B : Nat → Prop} {s U : State} {H : Heap} {locs : List Loc} (h : Zt E A s) (hS : va_S A s.heap H locs) (hU : U.heap = H) (hW : s.WarmedH U.vm) (hAB : ∀ q, B q → A q) : Zt E B U := by
  obtain ⟨h1, h2, h3, h4, h5, h6, h7, h8, h9⟩ := h
  refine ⟨?_, ?_, fun q hq => (h3 q hq).warm hW, fun x hx => (h4 x hx).warmD hW, fun x hx => (h5 x hx).warmC hW, fun x hx y hy hne => (h6 x hx y hy hne).moved hW.alike, fun q hq => (h7 q hq).warmF hW, fun q hq => (h8 q hq).warmM hW, h9.moved hW.alike⟩
  · rw [hU]; exact ((h1.kept hS.2.1).moved hW.alike).narrow hAB
  · rw [hU]; exact ((h2.kept hS.2.1).moved hW.alike).narrow hAB
/-- a contract out of a walk from the method's entry -/
theorem Ct.of {E : gE} {y : MethodName} {ws ws' : List Cond} {rm : Room} {argv : List Value} {wc : va_W} {o : String ⊕ (Option Value × va_W)} {cc : ByteArray} {nL : Nat} {ret : Option FieldType} {own : String} {lv : List (Nat × Value)} (hy : plainName y.cls = true) (hown : y.cls = own) (hw : ws = Cond.code y cc nL ret :: ws')
    (hlen : (lg_sl argv).length ≤ nL) (hlv : lv_args 0 argv = lv) (hf : ∀ v w1, o = .inr (v, w1) → gAd w1 = gAd wc)
    (body : ∀ X : gX, Cx E X cc nL own ws rm ret [] → gQ E X wc rm o → Gx E X wc nL lv [] 0 0 0) : Ct E y ws rm argv wc o := by
  refine ⟨hf, fun l hl sz => ?_⟩
  refine vx_ofW (cc := cc) (maxL := nL) (ret := ret) hy hw ?_
  intro p e s m args below meth c s₁ B hml hT hv
  obtain ⟨rfl, hsz, hP, hK, hD, hZ⟩ := hv
  subst hsz
  have hts := atoms_spec (ws := ws) B.pre
  have ho : s.vm.findClass own = some m.cls := by rw [← hown]; exact findClass_of_methodNamed B.named
  have hh : c.exceptionTable.toList = [] := by
    cases hc : c.exceptionTable.toList with
    | nil => rfl
    | cons x xs => exact (hT x (by rw [hc]; exact List.mem_cons_self)).elim
  have k := body (p, l, e, (headSpec ws rm).room, s, m, argv.toArray, below, meth, c, va_A wc s.heap.size, _) ⟨B.exec, B.bytes, hml, ho, hts, rfl, B.returns, B.notSynchronized, hK, fun q h => Or.inr h, hl, hZ, hh⟩ ⟨rfl, rfl, hf⟩
  have hl2 := lv_entry argv (n := nL) hlen
  rw [hlv] at hl2
  rw [lg_entry_eq]
  exact k s.heap [] _ hP hD.self va_S.rf hl2
theorem g_widen {E : gE} {X : gX} {ws : va_W} {nL : Nat} {lv : List (Nat × Value)} {st : List Value} {pc k n : Nat} {k2 n2 : Nat} (h1 : k ≤ k2) (h2 : n ≤ n2) (kk : Gx E X ws nL lv st pc k2 n2) : Gx E X ws nL lv st pc k n := by
  obtain ⟨p, l, e, R, s, m, args, below, meth, c, A, Q⟩ := X
  exact fun H locs ls hP hD hS hl => W.widen h1 h2 (kk H locs ls hP hD hS hl)
/-- fewer locals, in any order -/
theorem g_lv {E : gE} {X : gX} {ws : va_W} {nL : Nat} {lv lv2 : List (Nat × Value)} {st : List Value} {pc k n : Nat} (ks : List Nat) (h : lv_pick lv ks = lv2) (kk : Gx E X ws nL lv2 st pc k n) : Gx E X ws nL lv st pc k n := by
  obtain ⟨p, l, e, R, s, m, args, below, meth, c, A, Q⟩ := X
  exact fun H locs ls hP hD hS hl => kk H locs ls hP hD hS (lv_sub hl ks h)
/-- the world's things in another order -/
theorem g_perm {E : gE} {X : gX} {ws ws2 : va_W} {nL : Nat} {lv : List (Nat × Value)} {st : List Value} {pc k n : Nat} (h : List.Perm ws ws2) (kk : Gx E X ws2 nL lv st pc k n) : Gx E X ws nL lv st pc k n := by
  obtain ⟨p, l, e, R, s, m, args, below, meth, c, A, Q⟩ := X
  intro H locs ls hP hD hS hl
  refine kk H locs ls ?_ ?_ hS hl
  · rw [gP_mem] at hP ⊢
    exact fun q hq => hP q (h.mem_iff.mpr hq)
  · rw [gD_iff] at hD ⊢
    have h2 : List.Perm (gAd ws) (gAd ws2) := h.map _
    exact ⟨h2.nodup_iff.mp hD.1, fun a ha => hD.2 a (h2.mem_iff.mpr ha)⟩
