/-! methods that catch -/
/-- an exception of the name x, the cell q, thrown over the frame -/
def Gxx (E : gE) (X : gX) (ws : va_W) (nL : Nat) (lv : List (Nat × Value)) (st : List Value) (pc k n q : Nat) (x : String) : Prop := match X with
  | (p, l, e, R, s, m, args, below, meth, c, A, Q) => ∀ (H : Heap) (locs : List Loc) (ls : Array Slot) (ce : Cell), va_P E.1 vwCl ws H → va_D A ws → va_S A s.heap H locs → lv_has ls nL lv → H[q]? = some ce → ce.vm = .none → s.vm.findClass x = some ce.cls → vx_W p l e R s m args below meth c H locs k n Q (F0 m pc ls st) q
section GK
variable {E : gE} {X : gX} {cc : ByteArray} {nL : Nat} {own : String} {Ts : List Cond} {R0 : Room} {ret : Option FieldType} {hh : List ExceptionTableEntry} {ws wc : va_W} {lv : List (Nat × Value)} {st : List Value} {pc k n : Nat}
theorem g_catch {x : String} {q : Nat} (pre : List ExceptionTableEntry) (t : ExceptionTableEntry) (suf : List ExceptionTableEntry) (C : Cx E X cc nL own Ts R0 ret hh) (hsplit : hh = pre ++ t :: suf) (hpass : ∀ z ∈ pre, z.catchType ≠ 0 ∧ ∃ nm : String, Cond.classLink own z.catchType nm ∈ Ts ∧ nm ∈ gEx ∧ x ≠ nm) (hx9 : covers t pc = true) (h0 : t.catchType ≠ 0) (hlink : Cond.classLink own t.catchType x ∈ Ts) (hxe : x ∈ gEx) (kk : Gx E X ws nL lv [.ref q] t.handlerPc k n) : Gxx E X ws nL lv st pc k n q x := by
  obtain ⟨p, l, e, R, s, m, args, below, meth, c, A, Q⟩ := X
  obtain ⟨hx, hb, hml, ho, hts, rfl, hr, hlk, hK, hA, hst, hZ, hh9⟩ := C
  intro H locs ls ce hP hD hS hl hq hv hcl
  exact vx_catch ho pre t suf (hh9.trans hsplit) (fun z hz => by
    obtain ⟨h1, nm, h2, h3, h4⟩ := hpass z hz
    exact Or.inr ⟨h1, nm, hts _ h2, hZ.2.2.2.2.2.1 x hxe nm h3 h4⟩) hx9 h0 (hts _ hlink) ((hZ.2.2.2.2.1 x hxe).use rfl) hq hv hcl (kk H locs ls hP hD hS hl)
theorem g_callX {α : Type} {index maxL : Nat} {y : MethodName} {bytes : ByteArray} {retY : Option FieldType} {wsY wsY' : List Cond} {rmY : Room} {As : List Value} {n9 : Nat} {C9 : String} {b : Nat} {fs : List Value} {T9 : u_T} {N9 ci : Nat} {V : α → Value} {wr w2 : α → va_W} {oc : String ⊕ α} (C : Cx E X cc nL own Ts R0 ret hh) (hM : Ct E y wsY rmY (.ref b :: As) wc (gO (fun a => some (V a)) wr oc)) (hG : GoodIn Ts (wsV own index C9 y wsY)) (hw : wsY = Cond.code y bytes maxL retY :: wsY') (hd : y.cls = C9 ∧ y.cls ≠ "java/lang/invoke/MethodHandle" ∧ y.cls ≠ "java/lang/invoke/VarHandle" ∧ (parseMethodDescriptor y.desc).map (fun d => d.parameters.length) = some n9) (hn9 : As.length = n9) (hR : rmY.frames + 1 ≤ R0.frames ∧ 8 + (maxL + 11) + rmY.locals ≤ R0.locals ∧ k + rmY.cells ≤ R0.cells ∧ n + rmY.slots ≤ R0.slots ∧ (st.map fun v => v.category).sum ≤ 8) (qb : Nat) (hb0 : wc[qb]? = some (b, .inr (ci, fs))) (hci : vwCl[ci]? = some (C9, T9, N9)) {Fs : va_W → va_W} (hs9 : gSub ws wc Fs) (hB : ∀ a, Fs (wr a) = w2 a) (d : decode cc pc = .ok (.invokevirtual index, 3))
    (hx9 : ∀ x, oc = .inl x → ∀ q : Nat, Gxx E X ws nL lv st pc (k + rmY.cells) (n + rmY.slots) q x) (kk : ∀ a, oc = .inr a → Gx E X (w2 a) nL lv (V a :: st) (pc + 3) (k + rmY.cells) (n + rmY.slots)) : Gx E X ws nL lv (As.reverse ++ .ref b :: st) pc k n := by
  obtain ⟨p, l, e, R, s, m, args, below, meth, c, A, Q⟩ := X
  obtain ⟨hx, hb, hml, ho, hts, rfl, hr, hlk, hK, hA, hst, hZ, hh9⟩ := C
  intro H locs ls hP hD hS hl
  obtain ⟨hbl, hpre⟩ := g_start hs9 hP hD hS hK hA hZ (.ref b :: As)
  have hF := gSub_A hs9 hD hS hA
  have hPc := gSub_in hs9 hP
  have cw := cwV (s := s) (args := args) (R := R) (own := own) (index := index) (C := C9) (y := y) (bytes := bytes) (maxL := maxL) (ret := retY) (rm := rmY) (mc := rmY.cells) (ms := rmY.slots) n9 hts hG hw rfl rfl hd ⟨hR.1, hR.2.1⟩
  have hrun := vx_runV (e := e) (below := below) (meth := meth) (locs := locs) (R := R) (H := H) (As := As) (rest := st) (g := F0 m pc ls (As.reverse ++ .ref b :: st)) ⟨hx, hb, hml, ho, hts⟩ (hM.2 l hst H.size) cw ⟨hbl, va_recv hK hPc hci hb0, hpre⟩ rfl hn9 hl.1 rfl (by simpa [JFrame.monitorRoom] using hR.2.2.2.2) d ⟨hR.2.2.1, hR.2.2.2.1⟩
  intro T hT XT
  rcases hrun T hT XT with ⟨v, st₀, t, T', L, h0, X', hL, e1, e2, ⟨⟨v', w1, eo, eoc, hP1⟩, hFr⟩, stp⟩ | ⟨q, st₀, t, T', L, Ex, ce, h0, X', hL, e1, e2, ⟨eo, hP1, hFr⟩, hce, hcv, hcl, stp⟩
  · cases oc with
    | inl x => exact absurd (show (Sum.inl x : String ⊕ (Option Value × va_W)) = .inr (v', w1) from eo) (by simp)
    | inr a =>
      have eo : (Sum.inr (some (V a), wr a) : String ⊕ (Option Value × va_W)) = .inr (v', w1) := eo
      have ew : w1 = wr a := (congrArg Prod.snd (Sum.inr.inj eo)).symm
      have ev : v' = some (V a) := (congrArg Prod.fst (Sum.inr.inj eo)).symm
      subst ew
      subst ev
      have ev2 : v = some (V a) := by injection eoc
      subst ev2
      obtain ⟨k1, k2, k3⟩ := vx_keep h0 e1 hS (fun q _ h => hF q h) hF hL hFr
      have had : gAd (wr a) = gAd wc := hM.1 _ _ rfl
      rw [← e1] at hP1
      have hPn := gSub_P (E := E) hs9 hP hD k2 had hP1
      have hDn := gAd_D (hs9.2.2.1 (wr a) had) hD
      rw [hB a] at hPn hDn
      obtain ⟨t2, a1, b1⟩ := kk a rfl T'.heap (locs ++ L) ls hPn hDn k3 hl T' rfl X'
      exact ⟨t2, stp t2 a1, b1⟩
  · cases oc with
    | inr a => exact absurd (show (Sum.inr (some (V a), wr a) : String ⊕ (Option Value × va_W)) = .inl Ex from eo) (by simp)
    | inl x =>
      have eo : (Sum.inl x : String ⊕ (Option Value × va_W)) = .inl Ex := eo
      have ex : x = Ex := Sum.inl.inj eo
      subst ex
      obtain ⟨k1, k2, k3⟩ := vx_keep h0 e1 hS (fun q _ h => hF q h) hF hL hFr
      rw [← e1] at hP1 hce
      have hPn : va_P E.1 vwCl ws T'.heap := by
        rw [gP_mem]
        intro q9 hm9
        obtain ⟨k9, hq9⟩ := List.getElem?_of_mem hm9
        by_cases hin : va_A wc H.size q9.1
        · have hlt := (hP k9 q9 hq9).lt
          rcases hin with ⟨k2, e2, h2⟩ | h2
          · obtain ⟨i, h4⟩ := List.getElem?_of_mem (hs9.1 _ (List.mem_of_getElem? h2))
            have hki : k9 = i := hD.1 k9 i q9 (q9.1, e2) hq9 h4 rfl
            subst hki
            have h5 : q9 = (q9.1, e2) := Option.some.inj (hq9.symm.trans h4)
            rw [h5]
            exact hP1 k2 _ h2
          · omega
        · exact (hP k9 q9 hq9).kept (k2 q9.1 (hP k9 q9 hq9).lt hin)
      obtain ⟨t2, a1, b1⟩ := hx9 x rfl q T'.heap (locs ++ L) ls ce hPn hD k3 hl hce hcv hcl T' rfl X'
      exact ⟨t2, stp.trans a1, b1⟩
end GK
theorem Ct.ofH {E : gE} {y : MethodName} {ws ws' : List Cond} {rm : Room} {argv : List Value} {wc : va_W} {o : String ⊕ (Option Value × va_W)} {cc : ByteArray} {nL : Nat} {ret : Option FieldType} {own : String} {lv : List (Nat × Value)} {hh : List (Nat × Nat × Nat × Nat)} (hy : plainName y.cls = true) (hown : y.cls = own) (hw : ws = Cond.codeWith y cc nL ret hh :: ws')
    (hlen : (lg_sl argv).length ≤ nL) (hlv : lv_args 0 argv = lv) (hf : ∀ v w1, o = .inr (v, w1) → gAd w1 = gAd wc)
    (body : ∀ X : gX, Cx E X cc nL own ws rm ret (tableOf hh) → gQ E X wc rm o → Gx E X wc nL lv [] 0 0 0) : Ct E y ws rm argv wc o := by
  refine ⟨hf, fun l hl sz => ?_⟩
  refine vx_ofWH (cc := cc) (maxL := nL) (ret := ret) hy hw ?_
  intro p e s m args below meth c s₁ B hml hv
  obtain ⟨rfl, hsz, hP, hK, hD, hZ⟩ := hv
  subst hsz
  have hts := atoms_spec (ws := ws) B.pre
  have ho : s.vm.findClass own = some m.cls := by rw [← hown]; exact findClass_of_methodNamed B.named
  have hh9 : c.exceptionTable.toList = tableOf hh := vx_table (x := y) B (hts _ (by rw [hw]; exact List.mem_cons_self))
  have k := body (p, l, e, (headSpec ws rm).room, s, m, argv.toArray, below, meth, c, va_A wc s.heap.size, _) ⟨B.exec, B.bytes, hml, ho, hts, rfl, B.returns, B.notSynchronized, hK, fun q h => Or.inr h, hl, hZ, hh9⟩ ⟨rfl, rfl, hf⟩
  have hl2 := lv_entry argv (n := nL) hlen
  rw [hlv] at hl2
  rw [lg_entry_eq]
  exact k s.heap [] _ hP hD.self va_S.rf hl2
/-- what a method answers that tells an exception by a number -/
def wRes {α : Type} (ec : String → Int32) (w0 : va_W) (w1 : α → va_W) (oc : String ⊕ α) : Int32 × va_W := match oc with
  | .inl x => (ec x, w0)
  | .inr a => (0, w1 a)
